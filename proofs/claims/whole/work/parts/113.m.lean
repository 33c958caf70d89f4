abbrev W_Mo_load (cI cC cB : ClassId) (qu : Nat) (qu_text : Nat) (qu_segments : Nat) (qu_names : Nat) (qu_nameSize : Nat) (qu_bases : Nat) (qu_length : Nat) (qu_links : Nat) (qu_from : Nat) (qu_to : Nat) (qu_paths : Nat) (qu_titles : Nat) (qu_titleSize : Nat) (qu_steps : Nat) (qu_step : Nat) (qu_sideOf : Nat) (qu_within : Nat) (qu_read : Nat) (qu_cost : Nat) (qu_walk : Nat) (qu_edits : Nat) (qu_said : Nat) (fu_size : Int32) (fu_places : Int32) (fu_reads : Int32) (fu_there : Int32) (fu_total : Int32) (fu_walked : Int32) (fu_edited : Int32) (fu_written : Int32) (fu_at : Int32) (fu_end : Int32) (fu_began : Int32) (fu_many : Int32) (au_text : Nat → Int32) (au_segments : Nat → Int32) (au_names : Nat → Int32) (au_nameSize : Nat → Int32) (au_bases : Nat → Int32) (au_length : Nat → Int32) (au_links : Nat → Int32) (au_from : Nat → Int32) (au_to : Nat → Int32) (au_paths : Nat → Int32) (au_titles : Nat → Int32) (au_titleSize : Nat → Int32) (au_steps : Nat → Int32) (au_step : Nat → Int32) (au_sideOf : Nat → Int32) (au_within : Nat → Int32) : va_W := [(qu, .inr (6, [.int fu_size, .ref qu_text, .ref qu_segments, .ref qu_names, .ref qu_nameSize, .ref qu_bases, .ref qu_length, .ref qu_links, .ref qu_from, .ref qu_to, .ref qu_paths, .ref qu_titles, .ref qu_titleSize, .ref qu_steps, .ref qu_step, .int fu_places, .ref qu_sideOf, .ref qu_within, .int fu_reads, .ref qu_read, .ref qu_cost, .int fu_there, .int fu_total, .int fu_walked, .ref qu_walk, .int fu_edited, .ref qu_edits, .int fu_written, .ref qu_said, .int fu_at, .int fu_end, .int fu_began, .int fu_many])), (qu_text, .inl (cC, 400, .inl au_text)), (qu_segments, .inl (cI, 2, .inl au_segments)), (qu_names, .inl (cC, 48, .inl au_names)), (qu_nameSize, .inl (cI, 16, .inl au_nameSize)), (qu_bases, .inl (cC, 64, .inl au_bases)), (qu_length, .inl (cI, 16, .inl au_length)), (qu_links, .inl (cI, 2, .inl au_links)), (qu_from, .inl (cI, 24, .inl au_from)), (qu_to, .inl (cI, 24, .inl au_to)), (qu_paths, .inl (cI, 2, .inl au_paths)), (qu_titles, .inl (cC, 24, .inl au_titles)), (qu_titleSize, .inl (cI, 8, .inl au_titleSize)), (qu_steps, .inl (cI, 8, .inl au_steps)), (qu_step, .inl (cI, 64, .inl au_step)), (qu_sideOf, .inl (cI, 64, .inl au_sideOf)), (qu_within, .inl (cI, 64, .inl au_within))]
def w_Mo_load_76 (Q : Int32 → (Int32 × Int32 × Int32 × Int32 × Int32 × Int32 × (Nat → Int32) × (Nat → Int32) × (Nat → Int32) × (Nat → Int32) × (Nat → Int32) × (Nat → Int32) × (Nat → Int32) × (Nat → Int32) × (Nat → Int32) × (Nat → Int32) × (Nat → Int32) × (Nat → Int32) × (Nat → Int32) × (Nat → Int32) × (Nat → Int32)) → Prop) (K_25 : Int32 → Int32 → Int32 → Int32 → Int32 → Int32 → Int32 → Int32 → (Nat → Int32) → (Nat → Int32) → (Nat → Int32) → (Nat → Int32) → (Nat → Int32) → (Nat → Int32) → (Nat → Int32) → (Nat → Int32) → (Nat → Int32) → (Nat → Int32) → (Nat → Int32) → (Nat → Int32) → (Nat → Int32) → (Nat → Int32) → (Nat → Int32) → Prop) (fu_size : Int32) (au_text : Nat → Int32) (x1 : Int32) (x2 : Int32) (fu_places : Int32) (fu_there : Int32) (fu_at : Int32) (fu_end : Int32) (fu_began : Int32) (fu_many : Int32) (au_segments : Nat → Int32) (au_names : Nat → Int32) (au_nameSize : Nat → Int32) (au_bases : Nat → Int32) (au_length : Nat → Int32) (au_links : Nat → Int32) (au_from : Nat → Int32) (au_to : Nat → Int32) (au_paths : Nat → Int32) (au_titles : Nat → Int32) (au_titleSize : Nat → Int32) (au_steps : Nat → Int32) (au_step : Nat → Int32) (au_sideOf : Nat → Int32) (au_within : Nat → Int32) : Prop := ((fu_end = fu_size → (∀ x_2 : Int32, x_2 = -x1 → (Q x_2 (fu_places, fu_there, x2, fu_end, fu_began, fu_many, au_segments, au_names, au_nameSize, au_bases, au_length, au_links, au_from, au_to, au_paths, au_titles, au_titleSize, au_steps, au_step, au_sideOf, au_within)))) ∧ (¬ fu_end = fu_size → (wp_Mo_line (fun r_4 v_3 => ((r_4 = 0 → (∀ x_8 : Int32, x_8 = -x1 → (Q x_8 (fu_places, fu_there, v_3.1, fu_end, v_3.2.1, v_3.2.2.1, v_3.2.2.2.1, v_3.2.2.2.2.1, v_3.2.2.2.2.2.1, v_3.2.2.2.2.2.2.1, v_3.2.2.2.2.2.2.2.1, v_3.2.2.2.2.2.2.2.2.1, v_3.2.2.2.2.2.2.2.2.2.1, v_3.2.2.2.2.2.2.2.2.2.2.1, v_3.2.2.2.2.2.2.2.2.2.2.2.1, v_3.2.2.2.2.2.2.2.2.2.2.2.2.1, v_3.2.2.2.2.2.2.2.2.2.2.2.2.2.1, v_3.2.2.2.2.2.2.2.2.2.2.2.2.2.2.1, v_3.2.2.2.2.2.2.2.2.2.2.2.2.2.2.2, au_sideOf, au_within)))) ∧ (¬ r_4 = 0 → (∀ x_6 : Int32, x_6 = fu_end + 1 → (∀ x1_7 : Int32, x1_7 = x1 + 1 → (K_25 x1_7 x_6 fu_places fu_there v_3.1 fu_end v_3.2.1 v_3.2.2.1 v_3.2.2.2.1 v_3.2.2.2.2.1 v_3.2.2.2.2.2.1 v_3.2.2.2.2.2.2.1 v_3.2.2.2.2.2.2.2.1 v_3.2.2.2.2.2.2.2.2.1 v_3.2.2.2.2.2.2.2.2.2.1 v_3.2.2.2.2.2.2.2.2.2.2.1 v_3.2.2.2.2.2.2.2.2.2.2.2.1 v_3.2.2.2.2.2.2.2.2.2.2.2.2.1 v_3.2.2.2.2.2.2.2.2.2.2.2.2.2.1 v_3.2.2.2.2.2.2.2.2.2.2.2.2.2.2.1 v_3.2.2.2.2.2.2.2.2.2.2.2.2.2.2.2 au_sideOf au_within)))))) x2 fu_end fu_began fu_many au_text au_segments au_names au_nameSize au_bases au_length au_links au_from au_to au_paths au_titles au_titleSize au_steps au_step)))
def w_Mo_load_38B (Q : Int32 → (Int32 × Int32 × Int32 × Int32 × Int32 × Int32 × (Nat → Int32) × (Nat → Int32) × (Nat → Int32) × (Nat → Int32) × (Nat → Int32) × (Nat → Int32) × (Nat → Int32) × (Nat → Int32) × (Nat → Int32) × (Nat → Int32) × (Nat → Int32) × (Nat → Int32) × (Nat → Int32) × (Nat → Int32) × (Nat → Int32)) → Prop) (K_25 : Int32 → Int32 → Int32 → Int32 → Int32 → Int32 → Int32 → Int32 → (Nat → Int32) → (Nat → Int32) → (Nat → Int32) → (Nat → Int32) → (Nat → Int32) → (Nat → Int32) → (Nat → Int32) → (Nat → Int32) → (Nat → Int32) → (Nat → Int32) → (Nat → Int32) → (Nat → Int32) → (Nat → Int32) → (Nat → Int32) → (Nat → Int32) → Prop) (K_38 : Int32 → Int32 → Int32 → Int32 → Int32 → Int32 → Int32 → Int32 → (Nat → Int32) → (Nat → Int32) → (Nat → Int32) → (Nat → Int32) → (Nat → Int32) → (Nat → Int32) → (Nat → Int32) → (Nat → Int32) → (Nat → Int32) → (Nat → Int32) → (Nat → Int32) → (Nat → Int32) → (Nat → Int32) → (Nat → Int32) → (Nat → Int32) → Prop) (fu_size : Int32) (au_text : Nat → Int32) (x1 : Int32) (x2 : Int32) (fu_places : Int32) (fu_there : Int32) (fu_at : Int32) (fu_end : Int32) (fu_began : Int32) (fu_many : Int32) (au_segments : Nat → Int32) (au_names : Nat → Int32) (au_nameSize : Nat → Int32) (au_bases : Nat → Int32) (au_length : Nat → Int32) (au_links : Nat → Int32) (au_from : Nat → Int32) (au_to : Nat → Int32) (au_paths : Nat → Int32) (au_titles : Nat → Int32) (au_titleSize : Nat → Int32) (au_steps : Nat → Int32) (au_step : Nat → Int32) (au_sideOf : Nat → Int32) (au_within : Nat → Int32) : Prop := ((fu_size ≤ fu_end → (w_Mo_load_76 Q K_25 fu_size au_text x1 x2 fu_places fu_there fu_at fu_end fu_began fu_many au_segments au_names au_nameSize au_bases au_length au_links au_from au_to au_paths au_titles au_titleSize au_steps au_step au_sideOf au_within)) ∧ (¬ fu_size ≤ fu_end → (vp_in fu_end 400 ∧ (∀ y_11 : Int32, y_11 = au_text fu_end.toNatClampNeg → (((y_11 = 10 → (w_Mo_load_76 Q K_25 fu_size au_text x1 x2 fu_places fu_there fu_at fu_end fu_began fu_many au_segments au_names au_nameSize au_bases au_length au_links au_from au_to au_paths au_titles au_titleSize au_steps au_step au_sideOf au_within)) ∧ (¬ y_11 = 10 → (∀ x_13 : Int32, x_13 = fu_end + 1 → (K_38 x1 x2 fu_places fu_there fu_at x_13 fu_began fu_many au_segments au_names au_nameSize au_bases au_length au_links au_from au_to au_paths au_titles au_titleSize au_steps au_step au_sideOf au_within)))))))))
def w_Mo_load_38 (Q : Int32 → (Int32 × Int32 × Int32 × Int32 × Int32 × Int32 × (Nat → Int32) × (Nat → Int32) × (Nat → Int32) × (Nat → Int32) × (Nat → Int32) × (Nat → Int32) × (Nat → Int32) × (Nat → Int32) × (Nat → Int32) × (Nat → Int32) × (Nat → Int32) × (Nat → Int32) × (Nat → Int32) × (Nat → Int32) × (Nat → Int32)) → Prop) (K_25 : Int32 → Int32 → Int32 → Int32 → Int32 → Int32 → Int32 → Int32 → (Nat → Int32) → (Nat → Int32) → (Nat → Int32) → (Nat → Int32) → (Nat → Int32) → (Nat → Int32) → (Nat → Int32) → (Nat → Int32) → (Nat → Int32) → (Nat → Int32) → (Nat → Int32) → (Nat → Int32) → (Nat → Int32) → (Nat → Int32) → (Nat → Int32) → Prop) (fu_size : Int32) (au_text : Nat → Int32) : Nat → Int32 → Int32 → Int32 → Int32 → Int32 → Int32 → Int32 → Int32 → (Nat → Int32) → (Nat → Int32) → (Nat → Int32) → (Nat → Int32) → (Nat → Int32) → (Nat → Int32) → (Nat → Int32) → (Nat → Int32) → (Nat → Int32) → (Nat → Int32) → (Nat → Int32) → (Nat → Int32) → (Nat → Int32) → (Nat → Int32) → (Nat → Int32) → Prop
  | 0 => fun _ _ _ _ _ _ _ _ _ _ _ _ _ _ _ _ _ _ _ _ _ _ _ => False
  | n + 1 => fun x1 x2 fu_places fu_there fu_at fu_end fu_began fu_many au_segments au_names au_nameSize au_bases au_length au_links au_from au_to au_paths au_titles au_titleSize au_steps au_step au_sideOf au_within => w_Mo_load_38B Q K_25 (w_Mo_load_38 Q K_25 fu_size au_text n) fu_size au_text x1 x2 fu_places fu_there fu_at fu_end fu_began fu_many au_segments au_names au_nameSize au_bases au_length au_links au_from au_to au_paths au_titles au_titleSize au_steps au_step au_sideOf au_within
def w_Mo_load_25B (Q : Int32 → (Int32 × Int32 × Int32 × Int32 × Int32 × Int32 × (Nat → Int32) × (Nat → Int32) × (Nat → Int32) × (Nat → Int32) × (Nat → Int32) × (Nat → Int32) × (Nat → Int32) × (Nat → Int32) × (Nat → Int32) × (Nat → Int32) × (Nat → Int32) × (Nat → Int32) × (Nat → Int32) × (Nat → Int32) × (Nat → Int32)) → Prop)  (K_25 : Int32 → Int32 → Int32 → Int32 → Int32 → Int32 → Int32 → Int32 → (Nat → Int32) → (Nat → Int32) → (Nat → Int32) → (Nat → Int32) → (Nat → Int32) → (Nat → Int32) → (Nat → Int32) → (Nat → Int32) → (Nat → Int32) → (Nat → Int32) → (Nat → Int32) → (Nat → Int32) → (Nat → Int32) → (Nat → Int32) → (Nat → Int32) → Prop) (fu_size : Int32) (au_text : Nat → Int32) (x1 : Int32) (x2 : Int32) (fu_places : Int32) (fu_there : Int32) (fu_at : Int32) (fu_end : Int32) (fu_began : Int32) (fu_many : Int32) (au_segments : Nat → Int32) (au_names : Nat → Int32) (au_nameSize : Nat → Int32) (au_bases : Nat → Int32) (au_length : Nat → Int32) (au_links : Nat → Int32) (au_from : Nat → Int32) (au_to : Nat → Int32) (au_paths : Nat → Int32) (au_titles : Nat → Int32) (au_titleSize : Nat → Int32) (au_steps : Nat → Int32) (au_step : Nat → Int32) (au_sideOf : Nat → Int32) (au_within : Nat → Int32) : Prop := ((fu_size ≤ x2 → (wp_Mo_adopt (fun v_15 => Q 0 (v_15.1, v_15.2.1, fu_at, fu_end, fu_began, fu_many, v_15.2.2.1, v_15.2.2.2.1, v_15.2.2.2.2.1, v_15.2.2.2.2.2.1, v_15.2.2.2.2.2.2.1, v_15.2.2.2.2.2.2.2.1, v_15.2.2.2.2.2.2.2.2.1, v_15.2.2.2.2.2.2.2.2.2.1, v_15.2.2.2.2.2.2.2.2.2.2.1, au_titles, au_titleSize, v_15.2.2.2.2.2.2.2.2.2.2.2.1, v_15.2.2.2.2.2.2.2.2.2.2.2.2.1, v_15.2.2.2.2.2.2.2.2.2.2.2.2.2.1, v_15.2.2.2.2.2.2.2.2.2.2.2.2.2.2)) fu_places fu_there au_segments au_names au_nameSize au_bases au_length au_links au_from au_to au_paths au_steps au_step au_sideOf au_within)) ∧ (¬ fu_size ≤ x2 → (∃ fu_38 : Nat, w_Mo_load_38 Q K_25 fu_size au_text fu_38 x1 x2 fu_places fu_there fu_at x2 fu_began fu_many au_segments au_names au_nameSize au_bases au_length au_links au_from au_to au_paths au_titles au_titleSize au_steps au_step au_sideOf au_within)))
def w_Mo_load_25 (Q : Int32 → (Int32 × Int32 × Int32 × Int32 × Int32 × Int32 × (Nat → Int32) × (Nat → Int32) × (Nat → Int32) × (Nat → Int32) × (Nat → Int32) × (Nat → Int32) × (Nat → Int32) × (Nat → Int32) × (Nat → Int32) × (Nat → Int32) × (Nat → Int32) × (Nat → Int32) × (Nat → Int32) × (Nat → Int32) × (Nat → Int32)) → Prop)  (fu_size : Int32) (au_text : Nat → Int32) : Nat → Int32 → Int32 → Int32 → Int32 → Int32 → Int32 → Int32 → Int32 → (Nat → Int32) → (Nat → Int32) → (Nat → Int32) → (Nat → Int32) → (Nat → Int32) → (Nat → Int32) → (Nat → Int32) → (Nat → Int32) → (Nat → Int32) → (Nat → Int32) → (Nat → Int32) → (Nat → Int32) → (Nat → Int32) → (Nat → Int32) → (Nat → Int32) → Prop
  | 0 => fun _ _ _ _ _ _ _ _ _ _ _ _ _ _ _ _ _ _ _ _ _ _ _ => False
  | n + 1 => fun x1 x2 fu_places fu_there fu_at fu_end fu_began fu_many au_segments au_names au_nameSize au_bases au_length au_links au_from au_to au_paths au_titles au_titleSize au_steps au_step au_sideOf au_within => w_Mo_load_25B Q  (w_Mo_load_25 Q  fu_size au_text n) fu_size au_text x1 x2 fu_places fu_there fu_at fu_end fu_began fu_many au_segments au_names au_nameSize au_bases au_length au_links au_from au_to au_paths au_titles au_titleSize au_steps au_step au_sideOf au_within
def wp_Mo_load (Q : Int32 → (Int32 × Int32 × Int32 × Int32 × Int32 × Int32 × (Nat → Int32) × (Nat → Int32) × (Nat → Int32) × (Nat → Int32) × (Nat → Int32) × (Nat → Int32) × (Nat → Int32) × (Nat → Int32) × (Nat → Int32) × (Nat → Int32) × (Nat → Int32) × (Nat → Int32) × (Nat → Int32) × (Nat → Int32) × (Nat → Int32)) → Prop)  (fu_size : Int32) (fu_places : Int32) (fu_there : Int32) (fu_at : Int32) (fu_end : Int32) (fu_began : Int32) (fu_many : Int32) (au_text : Nat → Int32) (au_segments : Nat → Int32) (au_names : Nat → Int32) (au_nameSize : Nat → Int32) (au_bases : Nat → Int32) (au_length : Nat → Int32) (au_links : Nat → Int32) (au_from : Nat → Int32) (au_to : Nat → Int32) (au_paths : Nat → Int32) (au_titles : Nat → Int32) (au_titleSize : Nat → Int32) (au_steps : Nat → Int32) (au_step : Nat → Int32) (au_sideOf : Nat → Int32) (au_within : Nat → Int32) : Prop := vp_in (1 : Int32) 2 ∧ (∀ au_segments_18 : Nat → Int32, au_segments_18 = upd au_segments (1 : Int32).toNatClampNeg 0 → (vp_in (1 : Int32) 2 ∧ (∀ au_links_20 : Nat → Int32, au_links_20 = upd au_links (1 : Int32).toNatClampNeg 0 → (vp_in (1 : Int32) 2 ∧ (∀ au_paths_22 : Nat → Int32, au_paths_22 = upd au_paths (1 : Int32).toNatClampNeg 0 → (∃ fu_25 : Nat, w_Mo_load_25 Q fu_size au_text fu_25 1 0 fu_places fu_there fu_at fu_end fu_began fu_many au_segments_18 au_names au_nameSize au_bases au_length au_links_20 au_from au_to au_paths_22 au_titles au_titleSize au_steps au_step au_sideOf au_within))))))
abbrev rm_Mo_load : Room := { frames := 5, cells := 0, slots := 0, locals := 112 }
set_option maxHeartbeats 4000000 in
set_option maxRecDepth 100000 in
theorem k_Mo_load (l : Launch) (dC : Nat → ClassId) (dI : Nat → Nat → Nat) (cI cC cB : ClassId) (sz : Nat) (qu : Nat) (qu_text : Nat) (qu_segments : Nat) (qu_names : Nat) (qu_nameSize : Nat) (qu_bases : Nat) (qu_length : Nat) (qu_links : Nat) (qu_from : Nat) (qu_to : Nat) (qu_paths : Nat) (qu_titles : Nat) (qu_titleSize : Nat) (qu_steps : Nat) (qu_step : Nat) (qu_sideOf : Nat) (qu_within : Nat) (qu_read : Nat) (qu_cost : Nat) (qu_walk : Nat) (qu_edits : Nat) (qu_said : Nat) (fu_size : Int32) (fu_places : Int32) (fu_reads : Int32) (fu_there : Int32) (fu_total : Int32) (fu_walked : Int32) (fu_edited : Int32) (fu_written : Int32) (fu_at : Int32) (fu_end : Int32) (fu_began : Int32) (fu_many : Int32) (au_text : Nat → Int32) (au_segments : Nat → Int32) (au_names : Nat → Int32) (au_nameSize : Nat → Int32) (au_bases : Nat → Int32) (au_length : Nat → Int32) (au_links : Nat → Int32) (au_from : Nat → Int32) (au_to : Nat → Int32) (au_paths : Nat → Int32) (au_titles : Nat → Int32) (au_titleSize : Nat → Int32) (au_steps : Nat → Int32) (au_step : Nat → Int32) (au_sideOf : Nat → Int32) (au_within : Nat → Int32)  {Q : Int32 → (Int32 × Int32 × Int32 × Int32 × Int32 × Int32 × (Nat → Int32) × (Nat → Int32) × (Nat → Int32) × (Nat → Int32) × (Nat → Int32) × (Nat → Int32) × (Nat → Int32) × (Nat → Int32) × (Nat → Int32) × (Nat → Int32) × (Nat → Int32) × (Nat → Int32) × (Nat → Int32) × (Nat → Int32) × (Nat → Int32)) → Prop} (h : wp_Mo_load Q  fu_size fu_places fu_there fu_at fu_end fu_began fu_many au_text au_segments au_names au_nameSize au_bases au_length au_links au_from au_to au_paths au_titles au_titleSize au_steps au_step au_sideOf au_within) :
    CTi l y_Mo_load (wM y_Mo_load c_Mo_load 3 (some .int)) rm_Mo_load 0 0 (dC, dI) (tysL cI cC cB) [.ref qu] (W_Mo_load cI cC cB qu qu_text qu_segments qu_names qu_nameSize qu_bases qu_length qu_links qu_from qu_to qu_paths qu_titles qu_titleSize qu_steps qu_step qu_sideOf qu_within qu_read qu_cost qu_walk qu_edits qu_said fu_size fu_places fu_reads fu_there fu_total fu_walked fu_edited fu_written fu_at fu_end fu_began fu_many au_text au_segments au_names au_nameSize au_bases au_length au_links au_from au_to au_paths au_titles au_titleSize au_steps au_step au_sideOf au_within) sz Q (fun (v : Int32 × Int32 × Int32 × Int32 × Int32 × Int32 × (Nat → Int32) × (Nat → Int32) × (Nat → Int32) × (Nat → Int32) × (Nat → Int32) × (Nat → Int32) × (Nat → Int32) × (Nat → Int32) × (Nat → Int32) × (Nat → Int32) × (Nat → Int32) × (Nat → Int32) × (Nat → Int32) × (Nat → Int32) × (Nat → Int32)) (b : Unit) => (W_Mo_load cI cC cB qu qu_text qu_segments qu_names qu_nameSize qu_bases qu_length qu_links qu_from qu_to qu_paths qu_titles qu_titleSize qu_steps qu_step qu_sideOf qu_within qu_read qu_cost qu_walk qu_edits qu_said fu_size v.1 fu_reads v.2.1 fu_total fu_walked fu_edited fu_written v.2.2.1 v.2.2.2.1 v.2.2.2.2.1 v.2.2.2.2.2.1 au_text v.2.2.2.2.2.2.1 v.2.2.2.2.2.2.2.1 v.2.2.2.2.2.2.2.2.1 v.2.2.2.2.2.2.2.2.2.1 v.2.2.2.2.2.2.2.2.2.2.1 v.2.2.2.2.2.2.2.2.2.2.2.1 v.2.2.2.2.2.2.2.2.2.2.2.2.1 v.2.2.2.2.2.2.2.2.2.2.2.2.2.1 v.2.2.2.2.2.2.2.2.2.2.2.2.2.2.1 v.2.2.2.2.2.2.2.2.2.2.2.2.2.2.2.1 v.2.2.2.2.2.2.2.2.2.2.2.2.2.2.2.2.1 v.2.2.2.2.2.2.2.2.2.2.2.2.2.2.2.2.2.1 v.2.2.2.2.2.2.2.2.2.2.2.2.2.2.2.2.2.2.1 v.2.2.2.2.2.2.2.2.2.2.2.2.2.2.2.2.2.2.2.1 v.2.2.2.2.2.2.2.2.2.2.2.2.2.2.2.2.2.2.2.2)) := by
  refine CTi.std (by decide) (Nat.le_of_ble_eq_true rfl) ?_
  intro p e s m args below meth c A ls QF C0 hP hD hl hS hsz hnm hret
  obtain ⟨hx, hb, hr, hml, hown, hts, hlocks, hN, hA, hK⟩ := id C0
  have hown : s.vm.findClass R_Mo = some m.cls := hown
  have hl : lv_has ls 3 [(0, .ref qu)] := hl
  clear hsz hnm
  have blk_76 : ∀ (K_25 : Int32 → Int32 → Int32 → Int32 → Int32 → Int32 → Int32 → Int32 → (Nat → Int32) → (Nat → Int32) → (Nat → Int32) → (Nat → Int32) → (Nat → Int32) → (Nat → Int32) → (Nat → Int32) → (Nat → Int32) → (Nat → Int32) → (Nat → Int32) → (Nat → Int32) → (Nat → Int32) → (Nat → Int32) → (Nat → Int32) → (Nat → Int32) → Prop) (hK_25 : ∀ (x1 : Int32) (x2 : Int32) (fu_places : Int32) (fu_there : Int32) (fu_at : Int32) (fu_end : Int32) (fu_began : Int32) (fu_many : Int32) (au_segments : Nat → Int32) (au_names : Nat → Int32) (au_nameSize : Nat → Int32) (au_bases : Nat → Int32) (au_length : Nat → Int32) (au_links : Nat → Int32) (au_from : Nat → Int32) (au_to : Nat → Int32) (au_paths : Nat → Int32) (au_titles : Nat → Int32) (au_titleSize : Nat → Int32) (au_steps : Nat → Int32) (au_step : Nat → Int32) (au_sideOf : Nat → Int32) (au_within : Nat → Int32)  (H : Heap) (locs : List Loc) (ls : Array Slot), K_25 x1 x2 fu_places fu_there fu_at fu_end fu_began fu_many au_segments au_names au_nameSize au_bases au_length au_links au_from au_to au_paths au_titles au_titleSize au_steps au_step au_sideOf au_within → va_P (dC, dI) cls (W_Mo_load cI cC cB qu qu_text qu_segments qu_names qu_nameSize qu_bases qu_length qu_links qu_from qu_to qu_paths qu_titles qu_titleSize qu_steps qu_step qu_sideOf qu_within qu_read qu_cost qu_walk qu_edits qu_said fu_size fu_places fu_reads fu_there fu_total fu_walked fu_edited fu_written fu_at fu_end fu_began fu_many au_text au_segments au_names au_nameSize au_bases au_length au_links au_from au_to au_paths au_titles au_titleSize au_steps au_step au_sideOf au_within) H → va_D A (W_Mo_load cI cC cB qu qu_text qu_segments qu_names qu_nameSize qu_bases qu_length qu_links qu_from qu_to qu_paths qu_titles qu_titleSize qu_steps qu_step qu_sideOf qu_within qu_read qu_cost qu_walk qu_edits qu_said fu_size fu_places fu_reads fu_there fu_total fu_walked fu_edited fu_written fu_at fu_end fu_began fu_many au_text au_segments au_names au_nameSize au_bases au_length au_links au_from au_to au_paths au_titles au_titleSize au_steps au_step au_sideOf au_within) → va_S A s.heap H locs → lv_has ls 3 [(0, .ref qu), (1, .int x1), (2, .int x2)] → W p l e rm_Mo_load s m args below meth c H locs 0 0 QF (F0 m 25 ls [])) (x1 : Int32) (x2 : Int32) (fu_places : Int32) (fu_there : Int32) (fu_at : Int32) (fu_end : Int32) (fu_began : Int32) (fu_many : Int32) (au_segments : Nat → Int32) (au_names : Nat → Int32) (au_nameSize : Nat → Int32) (au_bases : Nat → Int32) (au_length : Nat → Int32) (au_links : Nat → Int32) (au_from : Nat → Int32) (au_to : Nat → Int32) (au_paths : Nat → Int32) (au_titles : Nat → Int32) (au_titleSize : Nat → Int32) (au_steps : Nat → Int32) (au_step : Nat → Int32) (au_sideOf : Nat → Int32) (au_within : Nat → Int32)  (H : Heap) (locs : List Loc) (ls : Array Slot), w_Mo_load_76 Q K_25 fu_size au_text x1 x2 fu_places fu_there fu_at fu_end fu_began fu_many au_segments au_names au_nameSize au_bases au_length au_links au_from au_to au_paths au_titles au_titleSize au_steps au_step au_sideOf au_within → va_P (dC, dI) cls (W_Mo_load cI cC cB qu qu_text qu_segments qu_names qu_nameSize qu_bases qu_length qu_links qu_from qu_to qu_paths qu_titles qu_titleSize qu_steps qu_step qu_sideOf qu_within qu_read qu_cost qu_walk qu_edits qu_said fu_size fu_places fu_reads fu_there fu_total fu_walked fu_edited fu_written fu_at fu_end fu_began fu_many au_text au_segments au_names au_nameSize au_bases au_length au_links au_from au_to au_paths au_titles au_titleSize au_steps au_step au_sideOf au_within) H → va_D A (W_Mo_load cI cC cB qu qu_text qu_segments qu_names qu_nameSize qu_bases qu_length qu_links qu_from qu_to qu_paths qu_titles qu_titleSize qu_steps qu_step qu_sideOf qu_within qu_read qu_cost qu_walk qu_edits qu_said fu_size fu_places fu_reads fu_there fu_total fu_walked fu_edited fu_written fu_at fu_end fu_began fu_many au_text au_segments au_names au_nameSize au_bases au_length au_links au_from au_to au_paths au_titles au_titleSize au_steps au_step au_sideOf au_within) → va_S A s.heap H locs → lv_has ls 3 [(0, .ref qu), (1, .int x1), (2, .int x2)] → W p l e rm_Mo_load s m args below meth c H locs 0 0 QF (F0 m 76 ls []) := by
    intro K_25 hK_25 x1 x2 fu_places fu_there fu_at fu_end fu_began fu_many au_segments au_names au_nameSize au_bases au_length au_links au_from au_to au_paths au_titles au_titleSize au_steps au_step au_sideOf au_within  H locs ls h hP hD hS hl
    unfold w_Mo_load_76 at h
    refine lv_aload_n hx hb d_Mo_load_76 rfl (lv_at hl 0 rfl) ?_
    refine lv_iload_n hx hb d_Mo_load_77 rfl (lv_at hl 2 rfl) ?_
    refine va_put (D := (dC, dI)) (ci := 6) (v := .int x2) (ty := .int) (C := R_Mo) (T := T_Mo) (N := 33) hx hb hts in_Mo t_Mo t_Mo_ok n_Mo hown hK hP hD hS 0 rfl rfl 29 (by decide) (hts _ w_411) (fun _ h9 => h9) rfl (by decide +kernel) rfl rfl (Nat.le_of_ble_eq_true rfl) d_Mo_load_78 (fun H locs hP hD hS => ?_)
    have hP : va_P (dC, dI) cls (W_Mo_load cI cC cB qu qu_text qu_segments qu_names qu_nameSize qu_bases qu_length qu_links qu_from qu_to qu_paths qu_titles qu_titleSize qu_steps qu_step qu_sideOf qu_within qu_read qu_cost qu_walk qu_edits qu_said fu_size fu_places fu_reads fu_there fu_total fu_walked fu_edited fu_written x2 fu_end fu_began fu_many au_text au_segments au_names au_nameSize au_bases au_length au_links au_from au_to au_paths au_titles au_titleSize au_steps au_step au_sideOf au_within) H := hP
    have hD : va_D A (W_Mo_load cI cC cB qu qu_text qu_segments qu_names qu_nameSize qu_bases qu_length qu_links qu_from qu_to qu_paths qu_titles qu_titleSize qu_steps qu_step qu_sideOf qu_within qu_read qu_cost qu_walk qu_edits qu_said fu_size fu_places fu_reads fu_there fu_total fu_walked fu_edited fu_written x2 fu_end fu_began fu_many au_text au_segments au_names au_nameSize au_bases au_length au_links au_from au_to au_paths au_titles au_titleSize au_steps au_step au_sideOf au_within) := hD
    refine lv_aload_n hx hb d_Mo_load_81 rfl (lv_at hl 0 rfl) ?_
    refine va_get (D := (dC, dI)) (ci := 6) (v := .int fu_end) (C := R_Mo) (T := T_Mo) (N := 33) hx hb hts in_Mo hown hK hP 0 rfl rfl 30 (by decide) (hts _ w_412) (fun _ h9 => h9) rfl d_Mo_load_82 ?_
    refine lv_aload_n hx hb d_Mo_load_85 rfl (lv_at hl 0 rfl) ?_
    refine va_get (D := (dC, dI)) (ci := 6) (v := .int fu_size) (C := R_Mo) (T := T_Mo) (N := 33) hx hb hts in_Mo hown hK hP 0 rfl rfl 0 (by decide) (hts _ w_409) (fun _ h9 => h9) rfl d_Mo_load_86 ?_
    refine lv_icmp_eq (tgt := 99) hx hb d_Mo_load_89 (by decide) (fun c_1 => ?_) (fun c_1 => ?_)
    · have h := h.1 c_1
      refine lv_iload_n hx hb d_Mo_load_99 rfl (lv_at hl 1 rfl) ?_
      refine lv_ineg hx hb d_Mo_load_100 ?_
      refine lv_topi (fun x_2 ex_2 => ?_)
      have h := h x_2 ex_2
      exact hret (fu_places, fu_there, x2, fu_end, fu_began, fu_many, au_segments, au_names, au_nameSize, au_bases, au_length, au_links, au_from, au_to, au_paths, au_titles, au_titleSize, au_steps, au_step, au_sideOf, au_within) () x_2 _ _ _ _ rfl h hP hD hS d_Mo_load_101
    · have h := h.2 c_1
      refine lv_aload_n hx hb d_Mo_load_92 rfl (lv_at hl 0 rfl) ?_
      refine call_V_i (As := []) (rest := []) C0 hP hD hS [0, 1, 2, 3, 4, 5, 6, 7, 8, 9, 10, 11, 12, 13, 14] [15, 16] [2, 3, 4, 5, 6, 7, 8, 9, 10, 11, 12, 13, 14, 15, 16, 0, 1] [(qu_sideOf, .inl (cI, 64, .inl au_sideOf)), (qu_within, .inl (cI, 64, .inl au_within))] (fun (v : Int32 × Int32 × Int32 × (Nat → Int32) × (Nat → Int32) × (Nat → Int32) × (Nat → Int32) × (Nat → Int32) × (Nat → Int32) × (Nat → Int32) × (Nat → Int32) × (Nat → Int32) × (Nat → Int32) × (Nat → Int32) × (Nat → Int32) × (Nat → Int32)) (b : Unit) => (W_Mo_load cI cC cB qu qu_text qu_segments qu_names qu_nameSize qu_bases qu_length qu_links qu_from qu_to qu_paths qu_titles qu_titleSize qu_steps qu_step qu_sideOf qu_within qu_read qu_cost qu_walk qu_edits qu_said fu_size fu_places fu_reads fu_there fu_total fu_walked fu_edited fu_written v.1 fu_end v.2.1 v.2.2.1 au_text v.2.2.2.1 v.2.2.2.2.1 v.2.2.2.2.2.1 v.2.2.2.2.2.2.1 v.2.2.2.2.2.2.2.1 v.2.2.2.2.2.2.2.2.1 v.2.2.2.2.2.2.2.2.2.1 v.2.2.2.2.2.2.2.2.2.2.1 v.2.2.2.2.2.2.2.2.2.2.2.1 v.2.2.2.2.2.2.2.2.2.2.2.2.1 v.2.2.2.2.2.2.2.2.2.2.2.2.2.1 v.2.2.2.2.2.2.2.2.2.2.2.2.2.2.1 v.2.2.2.2.2.2.2.2.2.2.2.2.2.2.2 au_sideOf au_within)) (ci := 6) rfl rfl (k_Mo_line l dC dI cI cC cB _ qu qu_text qu_segments qu_names qu_nameSize qu_bases qu_length qu_links qu_from qu_to qu_paths qu_titles qu_titleSize qu_steps qu_step qu_sideOf qu_within qu_read qu_cost qu_walk qu_edits qu_said fu_size fu_places fu_reads fu_there fu_total fu_walked fu_edited fu_written x2 fu_end fu_began fu_many au_text au_segments au_names au_nameSize au_bases au_length au_links au_from au_to au_paths au_titles au_titleSize au_steps au_step h) (g_V w_476 w_477 w_478 w_418 w_475) 0 rfl (by decide +kernel) rfl rfl ⟨Nat.le_of_ble_eq_true rfl, Nat.le_of_ble_eq_true rfl⟩ rfl rfl (by decide) (by decide) (by decide) (by decide) (fun _ _ => rfl) hl.1 rfl (Nat.le_of_ble_eq_true rfl) d_Mo_load_93 ⟨Nat.le_of_ble_eq_true rfl, Nat.le_of_ble_eq_true rfl⟩ (fun r_4 v_3 _ H locs h hP hD hS => ?_)
      have hP : va_P (dC, dI) cls (W_Mo_load cI cC cB qu qu_text qu_segments qu_names qu_nameSize qu_bases qu_length qu_links qu_from qu_to qu_paths qu_titles qu_titleSize qu_steps qu_step qu_sideOf qu_within qu_read qu_cost qu_walk qu_edits qu_said fu_size fu_places fu_reads fu_there fu_total fu_walked fu_edited fu_written v_3.1 fu_end v_3.2.1 v_3.2.2.1 au_text v_3.2.2.2.1 v_3.2.2.2.2.1 v_3.2.2.2.2.2.1 v_3.2.2.2.2.2.2.1 v_3.2.2.2.2.2.2.2.1 v_3.2.2.2.2.2.2.2.2.1 v_3.2.2.2.2.2.2.2.2.2.1 v_3.2.2.2.2.2.2.2.2.2.2.1 v_3.2.2.2.2.2.2.2.2.2.2.2.1 v_3.2.2.2.2.2.2.2.2.2.2.2.2.1 v_3.2.2.2.2.2.2.2.2.2.2.2.2.2.1 v_3.2.2.2.2.2.2.2.2.2.2.2.2.2.2.1 v_3.2.2.2.2.2.2.2.2.2.2.2.2.2.2.2 au_sideOf au_within) H := hP
      have hD : va_D A (W_Mo_load cI cC cB qu qu_text qu_segments qu_names qu_nameSize qu_bases qu_length qu_links qu_from qu_to qu_paths qu_titles qu_titleSize qu_steps qu_step qu_sideOf qu_within qu_read qu_cost qu_walk qu_edits qu_said fu_size fu_places fu_reads fu_there fu_total fu_walked fu_edited fu_written v_3.1 fu_end v_3.2.1 v_3.2.2.1 au_text v_3.2.2.2.1 v_3.2.2.2.2.1 v_3.2.2.2.2.2.1 v_3.2.2.2.2.2.2.1 v_3.2.2.2.2.2.2.2.1 v_3.2.2.2.2.2.2.2.2.1 v_3.2.2.2.2.2.2.2.2.2.1 v_3.2.2.2.2.2.2.2.2.2.2.1 v_3.2.2.2.2.2.2.2.2.2.2.2.1 v_3.2.2.2.2.2.2.2.2.2.2.2.2.1 v_3.2.2.2.2.2.2.2.2.2.2.2.2.2.1 v_3.2.2.2.2.2.2.2.2.2.2.2.2.2.2.1 v_3.2.2.2.2.2.2.2.2.2.2.2.2.2.2.2 au_sideOf au_within) := hD
      refine lv_if_ne (tgt := 102) hx hb d_Mo_load_96 (by decide) (fun c_5 => ?_) (fun c_5 => ?_)
      · have h := h.2 c_5
        refine lv_aload_n hx hb d_Mo_load_102 rfl (lv_at hl 0 rfl) ?_
        refine va_get (D := (dC, dI)) (ci := 6) (v := .int fu_end) (C := R_Mo) (T := T_Mo) (N := 33) hx hb hts in_Mo hown hK hP 0 rfl rfl 30 (by decide) (hts _ w_412) (fun _ h9 => h9) rfl d_Mo_load_103 ?_
        refine lv_iconst (v := 1) hx hb d_Mo_load_106 (by decide) ?_
        refine lv_iadd hx hb d_Mo_load_107 ?_
        refine lv_topi (fun x_6 ex_6 => ?_)
        have h := h x_6 ex_6
        refine lv_istore_n (lv' := [(2, .int x_6), (0, .ref qu), (1, .int x1)]) hx hb d_Mo_load_108 rfl hl (by decide) rfl (fun ls hl => ?_)
        obtain ⟨x1_7, ex1_7⟩ : ∃ y : Int32, y = x1 + 1 := ⟨_, rfl⟩
        have h := h x1_7 ex1_7
        refine lv_iinc (v := x1_7) (lv' := [(1, .int x1_7), (2, .int x_6), (0, .ref qu)]) hx hb d_Mo_load_109 hl (k := 2) rfl (by rw [ex1_7]; rfl) (by decide) rfl (fun ls hl => ?_)
        refine lv_goto (tgt := 25) hx hb d_Mo_load_112 (by decide) ?_
        exact hK_25 _ _ _ _ _ _ _ _ _ _ _ _ _ _ _ _ _ _ _ _ _ _ _ _ _ _ h hP hD hS (lv_sub hl [2, 0, 1] rfl)
      · have h := h.1 c_5
        refine lv_iload_n hx hb d_Mo_load_99 rfl (lv_at hl 1 rfl) ?_
        refine lv_ineg hx hb d_Mo_load_100 ?_
        refine lv_topi (fun x_8 ex_8 => ?_)
        have h := h x_8 ex_8
        exact hret (fu_places, fu_there, v_3.1, fu_end, v_3.2.1, v_3.2.2.1, v_3.2.2.2.1, v_3.2.2.2.2.1, v_3.2.2.2.2.2.1, v_3.2.2.2.2.2.2.1, v_3.2.2.2.2.2.2.2.1, v_3.2.2.2.2.2.2.2.2.1, v_3.2.2.2.2.2.2.2.2.2.1, v_3.2.2.2.2.2.2.2.2.2.2.1, v_3.2.2.2.2.2.2.2.2.2.2.2.1, v_3.2.2.2.2.2.2.2.2.2.2.2.2.1, v_3.2.2.2.2.2.2.2.2.2.2.2.2.2.1, v_3.2.2.2.2.2.2.2.2.2.2.2.2.2.2.1, v_3.2.2.2.2.2.2.2.2.2.2.2.2.2.2.2, au_sideOf, au_within) () x_8 _ _ _ _ rfl h hP hD hS d_Mo_load_101
  have blk_38 : ∀ (K_25 : Int32 → Int32 → Int32 → Int32 → Int32 → Int32 → Int32 → Int32 → (Nat → Int32) → (Nat → Int32) → (Nat → Int32) → (Nat → Int32) → (Nat → Int32) → (Nat → Int32) → (Nat → Int32) → (Nat → Int32) → (Nat → Int32) → (Nat → Int32) → (Nat → Int32) → (Nat → Int32) → (Nat → Int32) → (Nat → Int32) → (Nat → Int32) → Prop) (hK_25 : ∀ (x1 : Int32) (x2 : Int32) (fu_places : Int32) (fu_there : Int32) (fu_at : Int32) (fu_end : Int32) (fu_began : Int32) (fu_many : Int32) (au_segments : Nat → Int32) (au_names : Nat → Int32) (au_nameSize : Nat → Int32) (au_bases : Nat → Int32) (au_length : Nat → Int32) (au_links : Nat → Int32) (au_from : Nat → Int32) (au_to : Nat → Int32) (au_paths : Nat → Int32) (au_titles : Nat → Int32) (au_titleSize : Nat → Int32) (au_steps : Nat → Int32) (au_step : Nat → Int32) (au_sideOf : Nat → Int32) (au_within : Nat → Int32)  (H : Heap) (locs : List Loc) (ls : Array Slot), K_25 x1 x2 fu_places fu_there fu_at fu_end fu_began fu_many au_segments au_names au_nameSize au_bases au_length au_links au_from au_to au_paths au_titles au_titleSize au_steps au_step au_sideOf au_within → va_P (dC, dI) cls (W_Mo_load cI cC cB qu qu_text qu_segments qu_names qu_nameSize qu_bases qu_length qu_links qu_from qu_to qu_paths qu_titles qu_titleSize qu_steps qu_step qu_sideOf qu_within qu_read qu_cost qu_walk qu_edits qu_said fu_size fu_places fu_reads fu_there fu_total fu_walked fu_edited fu_written fu_at fu_end fu_began fu_many au_text au_segments au_names au_nameSize au_bases au_length au_links au_from au_to au_paths au_titles au_titleSize au_steps au_step au_sideOf au_within) H → va_D A (W_Mo_load cI cC cB qu qu_text qu_segments qu_names qu_nameSize qu_bases qu_length qu_links qu_from qu_to qu_paths qu_titles qu_titleSize qu_steps qu_step qu_sideOf qu_within qu_read qu_cost qu_walk qu_edits qu_said fu_size fu_places fu_reads fu_there fu_total fu_walked fu_edited fu_written fu_at fu_end fu_began fu_many au_text au_segments au_names au_nameSize au_bases au_length au_links au_from au_to au_paths au_titles au_titleSize au_steps au_step au_sideOf au_within) → va_S A s.heap H locs → lv_has ls 3 [(0, .ref qu), (1, .int x1), (2, .int x2)] → W p l e rm_Mo_load s m args below meth c H locs 0 0 QF (F0 m 25 ls [])) (n : Nat) (x1 : Int32) (x2 : Int32) (fu_places : Int32) (fu_there : Int32) (fu_at : Int32) (fu_end : Int32) (fu_began : Int32) (fu_many : Int32) (au_segments : Nat → Int32) (au_names : Nat → Int32) (au_nameSize : Nat → Int32) (au_bases : Nat → Int32) (au_length : Nat → Int32) (au_links : Nat → Int32) (au_from : Nat → Int32) (au_to : Nat → Int32) (au_paths : Nat → Int32) (au_titles : Nat → Int32) (au_titleSize : Nat → Int32) (au_steps : Nat → Int32) (au_step : Nat → Int32) (au_sideOf : Nat → Int32) (au_within : Nat → Int32)  (H : Heap) (locs : List Loc) (ls : Array Slot), w_Mo_load_38 Q K_25 fu_size au_text n x1 x2 fu_places fu_there fu_at fu_end fu_began fu_many au_segments au_names au_nameSize au_bases au_length au_links au_from au_to au_paths au_titles au_titleSize au_steps au_step au_sideOf au_within → va_P (dC, dI) cls (W_Mo_load cI cC cB qu qu_text qu_segments qu_names qu_nameSize qu_bases qu_length qu_links qu_from qu_to qu_paths qu_titles qu_titleSize qu_steps qu_step qu_sideOf qu_within qu_read qu_cost qu_walk qu_edits qu_said fu_size fu_places fu_reads fu_there fu_total fu_walked fu_edited fu_written fu_at fu_end fu_began fu_many au_text au_segments au_names au_nameSize au_bases au_length au_links au_from au_to au_paths au_titles au_titleSize au_steps au_step au_sideOf au_within) H → va_D A (W_Mo_load cI cC cB qu qu_text qu_segments qu_names qu_nameSize qu_bases qu_length qu_links qu_from qu_to qu_paths qu_titles qu_titleSize qu_steps qu_step qu_sideOf qu_within qu_read qu_cost qu_walk qu_edits qu_said fu_size fu_places fu_reads fu_there fu_total fu_walked fu_edited fu_written fu_at fu_end fu_began fu_many au_text au_segments au_names au_nameSize au_bases au_length au_links au_from au_to au_paths au_titles au_titleSize au_steps au_step au_sideOf au_within) → va_S A s.heap H locs → lv_has ls 3 [(0, .ref qu), (1, .int x1), (2, .int x2)] → W p l e rm_Mo_load s m args below meth c H locs 0 0 QF (F0 m 38 ls []) := by
    intro K_25 hK_25 n
    induction n with
    | zero => intro x1 x2 fu_places fu_there fu_at fu_end fu_began fu_many au_segments au_names au_nameSize au_bases au_length au_links au_from au_to au_paths au_titles au_titleSize au_steps au_step au_sideOf au_within  H locs ls h; exact (show False from h).elim
    | succ n ih =>
      intro x1 x2 fu_places fu_there fu_at fu_end fu_began fu_many au_segments au_names au_nameSize au_bases au_length au_links au_from au_to au_paths au_titles au_titleSize au_steps au_step au_sideOf au_within  H locs ls h hP hD hS hl
      have h : w_Mo_load_38B Q K_25 (w_Mo_load_38 Q K_25 fu_size au_text n) fu_size au_text x1 x2 fu_places fu_there fu_at fu_end fu_began fu_many au_segments au_names au_nameSize au_bases au_length au_links au_from au_to au_paths au_titles au_titleSize au_steps au_step au_sideOf au_within := h
      generalize w_Mo_load_38 Q K_25 fu_size au_text n = K_38 at h ih
      unfold w_Mo_load_38B at h
      refine lv_aload_n hx hb d_Mo_load_38 rfl (lv_at hl 0 rfl) ?_
      refine va_get (D := (dC, dI)) (ci := 6) (v := .int fu_end) (C := R_Mo) (T := T_Mo) (N := 33) hx hb hts in_Mo hown hK hP 0 rfl rfl 30 (by decide) (hts _ w_412) (fun _ h9 => h9) rfl d_Mo_load_39 ?_
      refine lv_aload_n hx hb d_Mo_load_42 rfl (lv_at hl 0 rfl) ?_
      refine va_get (D := (dC, dI)) (ci := 6) (v := .int fu_size) (C := R_Mo) (T := T_Mo) (N := 33) hx hb hts in_Mo hown hK hP 0 rfl rfl 0 (by decide) (hts _ w_409) (fun _ h9 => h9) rfl d_Mo_load_43 ?_
      refine lv_icmp_ge (tgt := 76) hx hb d_Mo_load_46 (by decide) (fun c_9 => ?_) (fun c_9 => ?_)
      · have h := h.1 c_9
        exact blk_76 _ hK_25 _ _ _ _ _ _ _ _ _ _ _ _ _ _ _ _ _ _ _ _ _ _ _ _ _ _ h hP hD hS (lv_sub hl [0, 1, 2] rfl)
      · have h := h.2 c_9
        refine lv_aload_n hx hb d_Mo_load_49 rfl (lv_at hl 0 rfl) ?_
        refine va_get (D := (dC, dI)) (ci := 6) (v := .ref qu_text) (C := R_Mo) (T := T_Mo) (N := 33) hx hb hts in_Mo hown hK hP 0 rfl rfl 1 (by decide) (hts _ w_410) (fun _ h9 => h9) rfl d_Mo_load_50 ?_
        refine lv_aload_n hx hb d_Mo_load_53 rfl (lv_at hl 0 rfl) ?_
        refine va_get (D := (dC, dI)) (ci := 6) (v := .int fu_end) (C := R_Mo) (T := T_Mo) (N := 33) hx hb hts in_Mo hown hK hP 0 rfl rfl 30 (by decide) (hts _ w_412) (fun _ h9 => h9) rfl d_Mo_load_54 ?_
        have hi_10 := h.1
        have h := h.2
        refine va_cald hx hb hK hP 1 1 rfl rfl hi_10 d_Mo_load_57 ?_
        refine lv_topi (fun y_11 ey_11 => ?_)
        have h := h y_11 ey_11
        refine lv_bipush (v := 10) hx hb d_Mo_load_58 (by decide) ?_
        refine lv_icmp_eq (tgt := 76) hx hb d_Mo_load_60 (by decide) (fun c_12 => ?_) (fun c_12 => ?_)
        · have h := h.1 c_12
          exact blk_76 _ hK_25 _ _ _ _ _ _ _ _ _ _ _ _ _ _ _ _ _ _ _ _ _ _ _ _ _ _ h hP hD hS (lv_sub hl [0, 1, 2] rfl)
        · have h := h.2 c_12
          refine lv_aload_n hx hb d_Mo_load_63 rfl (lv_at hl 0 rfl) ?_
          refine lv_dup hx hb d_Mo_load_64 rfl ?_
          refine va_get (D := (dC, dI)) (ci := 6) (v := .int fu_end) (C := R_Mo) (T := T_Mo) (N := 33) hx hb hts in_Mo hown hK hP 0 rfl rfl 30 (by decide) (hts _ w_412) (fun _ h9 => h9) rfl d_Mo_load_65 ?_
          refine lv_iconst (v := 1) hx hb d_Mo_load_68 (by decide) ?_
          refine lv_iadd hx hb d_Mo_load_69 ?_
          refine lv_topi (fun x_13 ex_13 => ?_)
          have h := h x_13 ex_13
          refine va_put (D := (dC, dI)) (ci := 6) (v := .int x_13) (ty := .int) (C := R_Mo) (T := T_Mo) (N := 33) hx hb hts in_Mo t_Mo t_Mo_ok n_Mo hown hK hP hD hS 0 rfl rfl 30 (by decide) (hts _ w_412) (fun _ h9 => h9) rfl (by decide +kernel) rfl rfl (Nat.le_of_ble_eq_true rfl) d_Mo_load_70 (fun H locs hP hD hS => ?_)
          have hP : va_P (dC, dI) cls (W_Mo_load cI cC cB qu qu_text qu_segments qu_names qu_nameSize qu_bases qu_length qu_links qu_from qu_to qu_paths qu_titles qu_titleSize qu_steps qu_step qu_sideOf qu_within qu_read qu_cost qu_walk qu_edits qu_said fu_size fu_places fu_reads fu_there fu_total fu_walked fu_edited fu_written fu_at x_13 fu_began fu_many au_text au_segments au_names au_nameSize au_bases au_length au_links au_from au_to au_paths au_titles au_titleSize au_steps au_step au_sideOf au_within) H := hP
          have hD : va_D A (W_Mo_load cI cC cB qu qu_text qu_segments qu_names qu_nameSize qu_bases qu_length qu_links qu_from qu_to qu_paths qu_titles qu_titleSize qu_steps qu_step qu_sideOf qu_within qu_read qu_cost qu_walk qu_edits qu_said fu_size fu_places fu_reads fu_there fu_total fu_walked fu_edited fu_written fu_at x_13 fu_began fu_many au_text au_segments au_names au_nameSize au_bases au_length au_links au_from au_to au_paths au_titles au_titleSize au_steps au_step au_sideOf au_within) := hD
          refine lv_goto (tgt := 38) hx hb d_Mo_load_73 (by decide) ?_
          exact ih _ _ _ _ _ _ _ _ _ _ _ _ _ _ _ _ _ _ _ _ _ _ _ _ _ _ h hP hD hS (lv_sub hl [0, 1, 2] rfl)
  have blk_25 : ∀  (n : Nat) (x1 : Int32) (x2 : Int32) (fu_places : Int32) (fu_there : Int32) (fu_at : Int32) (fu_end : Int32) (fu_began : Int32) (fu_many : Int32) (au_segments : Nat → Int32) (au_names : Nat → Int32) (au_nameSize : Nat → Int32) (au_bases : Nat → Int32) (au_length : Nat → Int32) (au_links : Nat → Int32) (au_from : Nat → Int32) (au_to : Nat → Int32) (au_paths : Nat → Int32) (au_titles : Nat → Int32) (au_titleSize : Nat → Int32) (au_steps : Nat → Int32) (au_step : Nat → Int32) (au_sideOf : Nat → Int32) (au_within : Nat → Int32)  (H : Heap) (locs : List Loc) (ls : Array Slot), w_Mo_load_25 Q  fu_size au_text n x1 x2 fu_places fu_there fu_at fu_end fu_began fu_many au_segments au_names au_nameSize au_bases au_length au_links au_from au_to au_paths au_titles au_titleSize au_steps au_step au_sideOf au_within → va_P (dC, dI) cls (W_Mo_load cI cC cB qu qu_text qu_segments qu_names qu_nameSize qu_bases qu_length qu_links qu_from qu_to qu_paths qu_titles qu_titleSize qu_steps qu_step qu_sideOf qu_within qu_read qu_cost qu_walk qu_edits qu_said fu_size fu_places fu_reads fu_there fu_total fu_walked fu_edited fu_written fu_at fu_end fu_began fu_many au_text au_segments au_names au_nameSize au_bases au_length au_links au_from au_to au_paths au_titles au_titleSize au_steps au_step au_sideOf au_within) H → va_D A (W_Mo_load cI cC cB qu qu_text qu_segments qu_names qu_nameSize qu_bases qu_length qu_links qu_from qu_to qu_paths qu_titles qu_titleSize qu_steps qu_step qu_sideOf qu_within qu_read qu_cost qu_walk qu_edits qu_said fu_size fu_places fu_reads fu_there fu_total fu_walked fu_edited fu_written fu_at fu_end fu_began fu_many au_text au_segments au_names au_nameSize au_bases au_length au_links au_from au_to au_paths au_titles au_titleSize au_steps au_step au_sideOf au_within) → va_S A s.heap H locs → lv_has ls 3 [(0, .ref qu), (1, .int x1), (2, .int x2)] → W p l e rm_Mo_load s m args below meth c H locs 0 0 QF (F0 m 25 ls []) := by
    intro  n
    induction n with
    | zero => intro x1 x2 fu_places fu_there fu_at fu_end fu_began fu_many au_segments au_names au_nameSize au_bases au_length au_links au_from au_to au_paths au_titles au_titleSize au_steps au_step au_sideOf au_within  H locs ls h; exact (show False from h).elim
    | succ n ih =>
      intro x1 x2 fu_places fu_there fu_at fu_end fu_began fu_many au_segments au_names au_nameSize au_bases au_length au_links au_from au_to au_paths au_titles au_titleSize au_steps au_step au_sideOf au_within  H locs ls h hP hD hS hl
      have h : w_Mo_load_25B Q  (w_Mo_load_25 Q  fu_size au_text n) fu_size au_text x1 x2 fu_places fu_there fu_at fu_end fu_began fu_many au_segments au_names au_nameSize au_bases au_length au_links au_from au_to au_paths au_titles au_titleSize au_steps au_step au_sideOf au_within := h
      generalize w_Mo_load_25 Q  fu_size au_text n = K_25 at h ih
      unfold w_Mo_load_25B at h
      refine lv_iload_n hx hb d_Mo_load_25 rfl (lv_at hl 2 rfl) ?_
      refine lv_aload_n hx hb d_Mo_load_26 rfl (lv_at hl 0 rfl) ?_
      refine va_get (D := (dC, dI)) (ci := 6) (v := .int fu_size) (C := R_Mo) (T := T_Mo) (N := 33) hx hb hts in_Mo hown hK hP 0 rfl rfl 0 (by decide) (hts _ w_409) (fun _ h9 => h9) rfl d_Mo_load_27 ?_
      refine lv_icmp_ge (tgt := 115) hx hb d_Mo_load_30 (by decide) (fun c_14 => ?_) (fun c_14 => ?_)
      · have h := h.1 c_14
        refine lv_aload_n hx hb d_Mo_load_115 rfl (lv_at hl 0 rfl) ?_
        refine call_V_v (As := []) (rest := []) C0 hP hD hS [0, 2, 3, 4, 5, 6, 7, 8, 9, 10, 13, 14, 15, 16] [1, 11, 12] [3, 0, 4, 5, 6, 7, 8, 9, 10, 11, 12, 1, 2, 13, 14, 15, 16] [(qu_text, .inl (cC, 400, .inl au_text)), (qu_titles, .inl (cC, 24, .inl au_titles)), (qu_titleSize, .inl (cI, 8, .inl au_titleSize))] (fun (v : Int32 × Int32 × (Nat → Int32) × (Nat → Int32) × (Nat → Int32) × (Nat → Int32) × (Nat → Int32) × (Nat → Int32) × (Nat → Int32) × (Nat → Int32) × (Nat → Int32) × (Nat → Int32) × (Nat → Int32) × (Nat → Int32) × (Nat → Int32)) (b : Unit) => (W_Mo_load cI cC cB qu qu_text qu_segments qu_names qu_nameSize qu_bases qu_length qu_links qu_from qu_to qu_paths qu_titles qu_titleSize qu_steps qu_step qu_sideOf qu_within qu_read qu_cost qu_walk qu_edits qu_said fu_size v.1 fu_reads v.2.1 fu_total fu_walked fu_edited fu_written fu_at fu_end fu_began fu_many au_text v.2.2.1 v.2.2.2.1 v.2.2.2.2.1 v.2.2.2.2.2.1 v.2.2.2.2.2.2.1 v.2.2.2.2.2.2.2.1 v.2.2.2.2.2.2.2.2.1 v.2.2.2.2.2.2.2.2.2.1 v.2.2.2.2.2.2.2.2.2.2.1 au_titles au_titleSize v.2.2.2.2.2.2.2.2.2.2.2.1 v.2.2.2.2.2.2.2.2.2.2.2.2.1 v.2.2.2.2.2.2.2.2.2.2.2.2.2.1 v.2.2.2.2.2.2.2.2.2.2.2.2.2.2)) (ci := 6) rfl rfl (k_Mo_adopt l dC dI cI cC cB _ qu qu_segments qu_names qu_nameSize qu_bases qu_length qu_links qu_from qu_to qu_paths qu_steps qu_step qu_sideOf qu_within qu_text qu_titles qu_titleSize qu_read qu_cost qu_walk qu_edits qu_said fu_size fu_places fu_reads fu_there fu_total fu_walked fu_edited fu_written fu_at fu_end fu_began fu_many au_segments au_names au_nameSize au_bases au_length au_links au_from au_to au_paths au_steps au_step au_sideOf au_within h) (g_V w_484 w_485 w_486 w_418 w_483) 0 rfl (by decide +kernel) rfl rfl ⟨Nat.le_of_ble_eq_true rfl, Nat.le_of_ble_eq_true rfl⟩ rfl rfl (by decide) (by decide) (by decide) (by decide) (fun _ _ => rfl) hl.1 rfl (Nat.le_of_ble_eq_true rfl) d_Mo_load_116 ⟨Nat.le_of_ble_eq_true rfl, Nat.le_of_ble_eq_true rfl⟩ (fun v_15 _ H locs h hP hD hS => ?_)
        have hP : va_P (dC, dI) cls (W_Mo_load cI cC cB qu qu_text qu_segments qu_names qu_nameSize qu_bases qu_length qu_links qu_from qu_to qu_paths qu_titles qu_titleSize qu_steps qu_step qu_sideOf qu_within qu_read qu_cost qu_walk qu_edits qu_said fu_size v_15.1 fu_reads v_15.2.1 fu_total fu_walked fu_edited fu_written fu_at fu_end fu_began fu_many au_text v_15.2.2.1 v_15.2.2.2.1 v_15.2.2.2.2.1 v_15.2.2.2.2.2.1 v_15.2.2.2.2.2.2.1 v_15.2.2.2.2.2.2.2.1 v_15.2.2.2.2.2.2.2.2.1 v_15.2.2.2.2.2.2.2.2.2.1 v_15.2.2.2.2.2.2.2.2.2.2.1 au_titles au_titleSize v_15.2.2.2.2.2.2.2.2.2.2.2.1 v_15.2.2.2.2.2.2.2.2.2.2.2.2.1 v_15.2.2.2.2.2.2.2.2.2.2.2.2.2.1 v_15.2.2.2.2.2.2.2.2.2.2.2.2.2.2) H := hP
        have hD : va_D A (W_Mo_load cI cC cB qu qu_text qu_segments qu_names qu_nameSize qu_bases qu_length qu_links qu_from qu_to qu_paths qu_titles qu_titleSize qu_steps qu_step qu_sideOf qu_within qu_read qu_cost qu_walk qu_edits qu_said fu_size v_15.1 fu_reads v_15.2.1 fu_total fu_walked fu_edited fu_written fu_at fu_end fu_began fu_many au_text v_15.2.2.1 v_15.2.2.2.1 v_15.2.2.2.2.1 v_15.2.2.2.2.2.1 v_15.2.2.2.2.2.2.1 v_15.2.2.2.2.2.2.2.1 v_15.2.2.2.2.2.2.2.2.1 v_15.2.2.2.2.2.2.2.2.2.1 v_15.2.2.2.2.2.2.2.2.2.2.1 au_titles au_titleSize v_15.2.2.2.2.2.2.2.2.2.2.2.1 v_15.2.2.2.2.2.2.2.2.2.2.2.2.1 v_15.2.2.2.2.2.2.2.2.2.2.2.2.2.1 v_15.2.2.2.2.2.2.2.2.2.2.2.2.2.2) := hD
        refine lv_iconst (v := 0) hx hb d_Mo_load_119 (by decide) ?_
        exact hret (v_15.1, v_15.2.1, fu_at, fu_end, fu_began, fu_many, v_15.2.2.1, v_15.2.2.2.1, v_15.2.2.2.2.1, v_15.2.2.2.2.2.1, v_15.2.2.2.2.2.2.1, v_15.2.2.2.2.2.2.2.1, v_15.2.2.2.2.2.2.2.2.1, v_15.2.2.2.2.2.2.2.2.2.1, v_15.2.2.2.2.2.2.2.2.2.2.1, au_titles, au_titleSize, v_15.2.2.2.2.2.2.2.2.2.2.2.1, v_15.2.2.2.2.2.2.2.2.2.2.2.2.1, v_15.2.2.2.2.2.2.2.2.2.2.2.2.2.1, v_15.2.2.2.2.2.2.2.2.2.2.2.2.2.2) () 0 _ _ _ _ rfl h hP hD hS d_Mo_load_120
      · have h := h.2 c_14
        refine lv_aload_n hx hb d_Mo_load_33 rfl (lv_at hl 0 rfl) ?_
        refine lv_iload_n hx hb d_Mo_load_34 rfl (lv_at hl 2 rfl) ?_
        refine va_put (D := (dC, dI)) (ci := 6) (v := .int x2) (ty := .int) (C := R_Mo) (T := T_Mo) (N := 33) hx hb hts in_Mo t_Mo t_Mo_ok n_Mo hown hK hP hD hS 0 rfl rfl 30 (by decide) (hts _ w_412) (fun _ h9 => h9) rfl (by decide +kernel) rfl rfl (Nat.le_of_ble_eq_true rfl) d_Mo_load_35 (fun H locs hP hD hS => ?_)
        have hP : va_P (dC, dI) cls (W_Mo_load cI cC cB qu qu_text qu_segments qu_names qu_nameSize qu_bases qu_length qu_links qu_from qu_to qu_paths qu_titles qu_titleSize qu_steps qu_step qu_sideOf qu_within qu_read qu_cost qu_walk qu_edits qu_said fu_size fu_places fu_reads fu_there fu_total fu_walked fu_edited fu_written fu_at x2 fu_began fu_many au_text au_segments au_names au_nameSize au_bases au_length au_links au_from au_to au_paths au_titles au_titleSize au_steps au_step au_sideOf au_within) H := hP
        have hD : va_D A (W_Mo_load cI cC cB qu qu_text qu_segments qu_names qu_nameSize qu_bases qu_length qu_links qu_from qu_to qu_paths qu_titles qu_titleSize qu_steps qu_step qu_sideOf qu_within qu_read qu_cost qu_walk qu_edits qu_said fu_size fu_places fu_reads fu_there fu_total fu_walked fu_edited fu_written fu_at x2 fu_began fu_many au_text au_segments au_names au_nameSize au_bases au_length au_links au_from au_to au_paths au_titles au_titleSize au_steps au_step au_sideOf au_within) := hD
        obtain ⟨fu_38, h⟩ := h
        exact blk_38 _ ih _ _ _ _ _ _ _ _ _ _ _ _ _ _ _ _ _ _ _ _ _ _ _ _ _ _ _ h hP hD hS (lv_sub hl [0, 1, 2] rfl)
  unfold wp_Mo_load at h
  refine lv_aload_n hx hb d_Mo_load_0 rfl (lv_at hl 0 rfl) ?_
  refine va_get (D := (dC, dI)) (ci := 6) (v := .ref qu_segments) (C := R_Mo) (T := T_Mo) (N := 33) hx hb hts in_Mo hown hK hP 0 rfl rfl 2 (by decide) (hts _ w_431) (fun _ h9 => h9) rfl d_Mo_load_1 ?_
  refine lv_iconst (v := 1) hx hb d_Mo_load_4 (by decide) ?_
  refine lv_iconst (v := 0) hx hb d_Mo_load_5 (by decide) ?_
  have hi_17 := h.1
  have h := h.2
  refine va_iast hx hb hK hP hD hS 2 0 rfl rfl hi_17 d_Mo_load_6 (fun H locs hP hD hS => ?_)
  obtain ⟨au_segments_18, eau_segments_18⟩ : ∃ z : Nat → Int32, z = upd au_segments (1 : Int32).toNatClampNeg 0 := ⟨_, rfl⟩
  have h := h au_segments_18 eau_segments_18
  have hP : va_P (dC, dI) cls (W_Mo_load cI cC cB qu qu_text qu_segments qu_names qu_nameSize qu_bases qu_length qu_links qu_from qu_to qu_paths qu_titles qu_titleSize qu_steps qu_step qu_sideOf qu_within qu_read qu_cost qu_walk qu_edits qu_said fu_size fu_places fu_reads fu_there fu_total fu_walked fu_edited fu_written fu_at fu_end fu_began fu_many au_text au_segments_18 au_names au_nameSize au_bases au_length au_links au_from au_to au_paths au_titles au_titleSize au_steps au_step au_sideOf au_within) H := by rw [eau_segments_18]; exact hP
  have hD : va_D A (W_Mo_load cI cC cB qu qu_text qu_segments qu_names qu_nameSize qu_bases qu_length qu_links qu_from qu_to qu_paths qu_titles qu_titleSize qu_steps qu_step qu_sideOf qu_within qu_read qu_cost qu_walk qu_edits qu_said fu_size fu_places fu_reads fu_there fu_total fu_walked fu_edited fu_written fu_at fu_end fu_began fu_many au_text au_segments_18 au_names au_nameSize au_bases au_length au_links au_from au_to au_paths au_titles au_titleSize au_steps au_step au_sideOf au_within) := by rw [eau_segments_18]; exact hD
  refine lv_aload_n hx hb d_Mo_load_7 rfl (lv_at hl 0 rfl) ?_
  refine va_get (D := (dC, dI)) (ci := 6) (v := .ref qu_links) (C := R_Mo) (T := T_Mo) (N := 33) hx hb hts in_Mo hown hK hP 0 rfl rfl 7 (by decide) (hts _ w_443) (fun _ h9 => h9) rfl d_Mo_load_8 ?_
  refine lv_iconst (v := 1) hx hb d_Mo_load_11 (by decide) ?_
  refine lv_iconst (v := 0) hx hb d_Mo_load_12 (by decide) ?_
  have hi_19 := h.1
  have h := h.2
  refine va_iast hx hb hK hP hD hS 7 0 rfl rfl hi_19 d_Mo_load_13 (fun H locs hP hD hS => ?_)
  obtain ⟨au_links_20, eau_links_20⟩ : ∃ z : Nat → Int32, z = upd au_links (1 : Int32).toNatClampNeg 0 := ⟨_, rfl⟩
  have h := h au_links_20 eau_links_20
  have hP : va_P (dC, dI) cls (W_Mo_load cI cC cB qu qu_text qu_segments qu_names qu_nameSize qu_bases qu_length qu_links qu_from qu_to qu_paths qu_titles qu_titleSize qu_steps qu_step qu_sideOf qu_within qu_read qu_cost qu_walk qu_edits qu_said fu_size fu_places fu_reads fu_there fu_total fu_walked fu_edited fu_written fu_at fu_end fu_began fu_many au_text au_segments_18 au_names au_nameSize au_bases au_length au_links_20 au_from au_to au_paths au_titles au_titleSize au_steps au_step au_sideOf au_within) H := by rw [eau_links_20]; exact hP
  have hD : va_D A (W_Mo_load cI cC cB qu qu_text qu_segments qu_names qu_nameSize qu_bases qu_length qu_links qu_from qu_to qu_paths qu_titles qu_titleSize qu_steps qu_step qu_sideOf qu_within qu_read qu_cost qu_walk qu_edits qu_said fu_size fu_places fu_reads fu_there fu_total fu_walked fu_edited fu_written fu_at fu_end fu_began fu_many au_text au_segments_18 au_names au_nameSize au_bases au_length au_links_20 au_from au_to au_paths au_titles au_titleSize au_steps au_step au_sideOf au_within) := by rw [eau_links_20]; exact hD
  refine lv_aload_n hx hb d_Mo_load_14 rfl (lv_at hl 0 rfl) ?_
  refine va_get (D := (dC, dI)) (ci := 6) (v := .ref qu_paths) (C := R_Mo) (T := T_Mo) (N := 33) hx hb hts in_Mo hown hK hP 0 rfl rfl 10 (by decide) (hts _ w_420) (fun _ h9 => h9) rfl d_Mo_load_15 ?_
  refine lv_iconst (v := 1) hx hb d_Mo_load_18 (by decide) ?_
  refine lv_iconst (v := 0) hx hb d_Mo_load_19 (by decide) ?_
  have hi_21 := h.1
  have h := h.2
  refine va_iast hx hb hK hP hD hS 10 0 rfl rfl hi_21 d_Mo_load_20 (fun H locs hP hD hS => ?_)
  obtain ⟨au_paths_22, eau_paths_22⟩ : ∃ z : Nat → Int32, z = upd au_paths (1 : Int32).toNatClampNeg 0 := ⟨_, rfl⟩
  have h := h au_paths_22 eau_paths_22
  have hP : va_P (dC, dI) cls (W_Mo_load cI cC cB qu qu_text qu_segments qu_names qu_nameSize qu_bases qu_length qu_links qu_from qu_to qu_paths qu_titles qu_titleSize qu_steps qu_step qu_sideOf qu_within qu_read qu_cost qu_walk qu_edits qu_said fu_size fu_places fu_reads fu_there fu_total fu_walked fu_edited fu_written fu_at fu_end fu_began fu_many au_text au_segments_18 au_names au_nameSize au_bases au_length au_links_20 au_from au_to au_paths_22 au_titles au_titleSize au_steps au_step au_sideOf au_within) H := by rw [eau_paths_22]; exact hP
  have hD : va_D A (W_Mo_load cI cC cB qu qu_text qu_segments qu_names qu_nameSize qu_bases qu_length qu_links qu_from qu_to qu_paths qu_titles qu_titleSize qu_steps qu_step qu_sideOf qu_within qu_read qu_cost qu_walk qu_edits qu_said fu_size fu_places fu_reads fu_there fu_total fu_walked fu_edited fu_written fu_at fu_end fu_began fu_many au_text au_segments_18 au_names au_nameSize au_bases au_length au_links_20 au_from au_to au_paths_22 au_titles au_titleSize au_steps au_step au_sideOf au_within) := by rw [eau_paths_22]; exact hD
  refine lv_iconst (v := 1) hx hb d_Mo_load_21 (by decide) ?_
  refine lv_istore_n (lv' := [(1, .int 1), (0, .ref qu)]) hx hb d_Mo_load_22 rfl hl (by decide) rfl (fun ls hl => ?_)
  refine lv_iconst (v := 0) hx hb d_Mo_load_23 (by decide) ?_
  refine lv_istore_n (lv' := [(2, .int 0), (1, .int 1), (0, .ref qu)]) hx hb d_Mo_load_24 rfl hl (by decide) rfl (fun ls hl => ?_)
  obtain ⟨fu_25, h⟩ := h
  exact blk_25  _ _ _ _ _ _ _ _ _ _ _ _ _ _ _ _ _ _ _ _ _ _ _ _ _ _ _ h hP hD hS (lv_sub hl [2, 1, 0] rfl)
abbrev W_Mo_size (cI cC cB : ClassId) (qu : Nat) (qu_segments : Nat) (qu_links : Nat) (qu_paths : Nat) (qu_text : Nat) (qu_names : Nat) (qu_nameSize : Nat) (qu_bases : Nat) (qu_length : Nat) (qu_from : Nat) (qu_to : Nat) (qu_titles : Nat) (qu_titleSize : Nat) (qu_steps : Nat) (qu_step : Nat) (qu_sideOf : Nat) (qu_within : Nat) (qu_read : Nat) (qu_cost : Nat) (qu_walk : Nat) (qu_edits : Nat) (qu_said : Nat) (fu_size : Int32) (fu_places : Int32) (fu_reads : Int32) (fu_there : Int32) (fu_total : Int32) (fu_walked : Int32) (fu_edited : Int32) (fu_written : Int32) (fu_at : Int32) (fu_end : Int32) (fu_began : Int32) (fu_many : Int32) (au_segments : Nat → Int32) (au_links : Nat → Int32) (au_paths : Nat → Int32) : va_W := [(qu, .inr (6, [.int fu_size, .ref qu_text, .ref qu_segments, .ref qu_names, .ref qu_nameSize, .ref qu_bases, .ref qu_length, .ref qu_links, .ref qu_from, .ref qu_to, .ref qu_paths, .ref qu_titles, .ref qu_titleSize, .ref qu_steps, .ref qu_step, .int fu_places, .ref qu_sideOf, .ref qu_within, .int fu_reads, .ref qu_read, .ref qu_cost, .int fu_there, .int fu_total, .int fu_walked, .ref qu_walk, .int fu_edited, .ref qu_edits, .int fu_written, .ref qu_said, .int fu_at, .int fu_end, .int fu_began, .int fu_many])), (qu_segments, .inl (cI, 2, .inl au_segments)), (qu_links, .inl (cI, 2, .inl au_links)), (qu_paths, .inl (cI, 2, .inl au_paths))]
def wp_Mo_size (Q : Int32 → Unit → Prop) (p1 : Int32) (fu_places : Int32) (au_segments : Nat → Int32) (au_links : Nat → Int32) (au_paths : Nat → Int32) : Prop := ((p1 = 0 → (vp_in (0 : Int32) 2 ∧ (∀ y_10 : Int32, y_10 = au_segments (0 : Int32).toNatClampNeg → (Q y_10 ())))) ∧ (¬ p1 = 0 → (((p1 = 1 → (vp_in (0 : Int32) 2 ∧ (∀ y_8 : Int32, y_8 = au_links (0 : Int32).toNatClampNeg → (Q y_8 ())))) ∧ (¬ p1 = 1 → (((p1 = 2 → (vp_in (0 : Int32) 2 ∧ (∀ y_6 : Int32, y_6 = au_paths (0 : Int32).toNatClampNeg → (Q y_6 ())))) ∧ (¬ p1 = 2 → (((p1 = 3 → (Q fu_places ())) ∧ (¬ p1 = 3 → (Q (-1) ()))))))))))))
abbrev rm_Mo_size : Room := { frames := 0, cells := 0, slots := 0, locals := 0 }
set_option maxHeartbeats 4000000 in
set_option maxRecDepth 100000 in
theorem k_Mo_size (l : Launch) (dC : Nat → ClassId) (dI : Nat → Nat → Nat) (cI cC cB : ClassId) (sz : Nat) (qu : Nat) (qu_segments : Nat) (qu_links : Nat) (qu_paths : Nat) (qu_text : Nat) (qu_names : Nat) (qu_nameSize : Nat) (qu_bases : Nat) (qu_length : Nat) (qu_from : Nat) (qu_to : Nat) (qu_titles : Nat) (qu_titleSize : Nat) (qu_steps : Nat) (qu_step : Nat) (qu_sideOf : Nat) (qu_within : Nat) (qu_read : Nat) (qu_cost : Nat) (qu_walk : Nat) (qu_edits : Nat) (qu_said : Nat) (fu_size : Int32) (fu_places : Int32) (fu_reads : Int32) (fu_there : Int32) (fu_total : Int32) (fu_walked : Int32) (fu_edited : Int32) (fu_written : Int32) (fu_at : Int32) (fu_end : Int32) (fu_began : Int32) (fu_many : Int32) (au_segments : Nat → Int32) (au_links : Nat → Int32) (au_paths : Nat → Int32) (p1 : Int32) {Q : Int32 → Unit → Prop} (h : wp_Mo_size Q p1 fu_places au_segments au_links au_paths) :
    CTi l y_Mo_size (wM y_Mo_size c_Mo_size 2 (some .int)) rm_Mo_size 0 0 (dC, dI) (tysL cI cC cB) [.ref qu, .int p1] (W_Mo_size cI cC cB qu qu_segments qu_links qu_paths qu_text qu_names qu_nameSize qu_bases qu_length qu_from qu_to qu_titles qu_titleSize qu_steps qu_step qu_sideOf qu_within qu_read qu_cost qu_walk qu_edits qu_said fu_size fu_places fu_reads fu_there fu_total fu_walked fu_edited fu_written fu_at fu_end fu_began fu_many au_segments au_links au_paths) sz Q (fun (v : Unit) (b : Unit) => (W_Mo_size cI cC cB qu qu_segments qu_links qu_paths qu_text qu_names qu_nameSize qu_bases qu_length qu_from qu_to qu_titles qu_titleSize qu_steps qu_step qu_sideOf qu_within qu_read qu_cost qu_walk qu_edits qu_said fu_size fu_places fu_reads fu_there fu_total fu_walked fu_edited fu_written fu_at fu_end fu_began fu_many au_segments au_links au_paths)) := by
  refine CTi.std (by decide) (Nat.le_of_ble_eq_true rfl) ?_
  intro p e s m args below meth c A ls QF C0 hP hD hl hS hsz hnm hret
  obtain ⟨hx, hb, hr, hml, hown, hts, hlocks, hN, hA, hK⟩ := id C0
  have hown : s.vm.findClass R_Mo = some m.cls := hown
  have hl : lv_has ls 2 [(0, .ref qu), (1, .int p1)] := hl
  clear hsz hnm
  unfold wp_Mo_size at h
  refine lv_iload_n hx hb d_Mo_size_0 rfl (lv_at hl 1 rfl) ?_
  refine lv_if_ne (tgt := 13) hx hb d_Mo_size_1 (by decide) (fun c_1 => ?_) (fun c_1 => ?_)
  · have h := h.2 c_1
    refine lv_iload_n hx hb d_Mo_size_13 rfl (lv_at hl 1 rfl) ?_
    refine lv_iconst (v := 1) hx hb d_Mo_size_14 (by decide) ?_
    refine lv_icmp_ne (tgt := 27) hx hb d_Mo_size_15 (by decide) (fun c_2 => ?_) (fun c_2 => ?_)
    · have h := h.2 c_2
      refine lv_iload_n hx hb d_Mo_size_27 rfl (lv_at hl 1 rfl) ?_
      refine lv_iconst (v := 2) hx hb d_Mo_size_28 (by decide) ?_
      refine lv_icmp_ne (tgt := 41) hx hb d_Mo_size_29 (by decide) (fun c_3 => ?_) (fun c_3 => ?_)
      · have h := h.2 c_3
        refine lv_iload_n hx hb d_Mo_size_41 rfl (lv_at hl 1 rfl) ?_
        refine lv_iconst (v := 3) hx hb d_Mo_size_42 (by decide) ?_
        refine lv_icmp_ne (tgt := 53) hx hb d_Mo_size_43 (by decide) (fun c_4 => ?_) (fun c_4 => ?_)
        · have h := h.2 c_4
          refine lv_iconst (v := (-1)) hx hb d_Mo_size_53 (by decide) ?_
          exact hret () () (-1) _ _ _ _ rfl h hP hD hS d_Mo_size_54
        · have h := h.1 c_4
          refine lv_aload_n hx hb d_Mo_size_46 rfl (lv_at hl 0 rfl) ?_
          refine va_get (D := (dC, dI)) (ci := 6) (v := .int fu_places) (C := R_Mo) (T := T_Mo) (N := 33) hx hb hts in_Mo hown hK hP 0 rfl rfl 15 (by decide) (hts _ w_480) (fun _ h9 => h9) rfl d_Mo_size_47 ?_
          refine lv_goto (tgt := 54) hx hb d_Mo_size_50 (by decide) ?_
          exact hret () () fu_places _ _ _ _ rfl h hP hD hS d_Mo_size_54
      · have h := h.1 c_3
        refine lv_aload_n hx hb d_Mo_size_32 rfl (lv_at hl 0 rfl) ?_
        refine va_get (D := (dC, dI)) (ci := 6) (v := .ref qu_paths) (C := R_Mo) (T := T_Mo) (N := 33) hx hb hts in_Mo hown hK hP 0 rfl rfl 10 (by decide) (hts _ w_420) (fun _ h9 => h9) rfl d_Mo_size_33 ?_
        refine lv_iconst (v := 0) hx hb d_Mo_size_36 (by decide) ?_
        have hi_5 := h.1
        have h := h.2
        refine va_iald hx hb hK hP 3 0 rfl rfl hi_5 d_Mo_size_37 ?_
        refine lv_topi (fun y_6 ey_6 => ?_)
        have h := h y_6 ey_6
        refine lv_goto (tgt := 54) hx hb d_Mo_size_38 (by decide) ?_
        exact hret () () y_6 _ _ _ _ rfl h hP hD hS d_Mo_size_54
    · have h := h.1 c_2
      refine lv_aload_n hx hb d_Mo_size_18 rfl (lv_at hl 0 rfl) ?_
      refine va_get (D := (dC, dI)) (ci := 6) (v := .ref qu_links) (C := R_Mo) (T := T_Mo) (N := 33) hx hb hts in_Mo hown hK hP 0 rfl rfl 7 (by decide) (hts _ w_443) (fun _ h9 => h9) rfl d_Mo_size_19 ?_
      refine lv_iconst (v := 0) hx hb d_Mo_size_22 (by decide) ?_
      have hi_7 := h.1
      have h := h.2
      refine va_iald hx hb hK hP 2 0 rfl rfl hi_7 d_Mo_size_23 ?_
      refine lv_topi (fun y_8 ey_8 => ?_)
      have h := h y_8 ey_8
      refine lv_goto (tgt := 54) hx hb d_Mo_size_24 (by decide) ?_
      exact hret () () y_8 _ _ _ _ rfl h hP hD hS d_Mo_size_54
  · have h := h.1 c_1
    refine lv_aload_n hx hb d_Mo_size_4 rfl (lv_at hl 0 rfl) ?_
    refine va_get (D := (dC, dI)) (ci := 6) (v := .ref qu_segments) (C := R_Mo) (T := T_Mo) (N := 33) hx hb hts in_Mo hown hK hP 0 rfl rfl 2 (by decide) (hts _ w_431) (fun _ h9 => h9) rfl d_Mo_size_5 ?_
    refine lv_iconst (v := 0) hx hb d_Mo_size_8 (by decide) ?_
    have hi_9 := h.1
    have h := h.2
    refine va_iald hx hb hK hP 1 0 rfl rfl hi_9 d_Mo_size_9 ?_
    refine lv_topi (fun y_10 ey_10 => ?_)
    have h := h y_10 ey_10
    refine lv_goto (tgt := 54) hx hb d_Mo_size_10 (by decide) ?_
    exact hret () () y_10 _ _ _ _ rfl h hP hD hS d_Mo_size_54
abbrev W_Mo_place (cI cC cB : ClassId) (qu : Nat) (qu_text : Nat) (qu_segments : Nat) (qu_names : Nat) (qu_nameSize : Nat) (qu_bases : Nat) (qu_length : Nat) (qu_links : Nat) (qu_from : Nat) (qu_to : Nat) (qu_paths : Nat) (qu_titles : Nat) (qu_titleSize : Nat) (qu_steps : Nat) (qu_step : Nat) (qu_sideOf : Nat) (qu_within : Nat) (qu_read : Nat) (qu_cost : Nat) (qu_walk : Nat) (qu_edits : Nat) (qu_said : Nat) (fu_size : Int32) (fu_places : Int32) (fu_reads : Int32) (fu_there : Int32) (fu_total : Int32) (fu_walked : Int32) (fu_edited : Int32) (fu_written : Int32) (fu_at : Int32) (fu_end : Int32) (fu_began : Int32) (fu_many : Int32) : va_W := [(qu, .inr (6, [.int fu_size, .ref qu_text, .ref qu_segments, .ref qu_names, .ref qu_nameSize, .ref qu_bases, .ref qu_length, .ref qu_links, .ref qu_from, .ref qu_to, .ref qu_paths, .ref qu_titles, .ref qu_titleSize, .ref qu_steps, .ref qu_step, .int fu_places, .ref qu_sideOf, .ref qu_within, .int fu_reads, .ref qu_read, .ref qu_cost, .int fu_there, .int fu_total, .int fu_walked, .ref qu_walk, .int fu_edited, .ref qu_edits, .int fu_written, .ref qu_said, .int fu_at, .int fu_end, .int fu_began, .int fu_many]))]
def wp_Mo_place (Q : Int32 → Unit → Prop) (p1 : Int32) (fu_places : Int32) : Prop := ((p1 < 0 → (Q 0 ())) ∧ (¬ p1 < 0 → (((fu_places ≤ p1 → (Q 0 ())) ∧ (¬ fu_places ≤ p1 → (Q 1 ()))))))
abbrev rm_Mo_place : Room := { frames := 0, cells := 0, slots := 0, locals := 0 }
set_option maxHeartbeats 4000000 in
set_option maxRecDepth 100000 in
theorem k_Mo_place (l : Launch) (dC : Nat → ClassId) (dI : Nat → Nat → Nat) (cI cC cB : ClassId) (sz : Nat) (qu : Nat) (qu_text : Nat) (qu_segments : Nat) (qu_names : Nat) (qu_nameSize : Nat) (qu_bases : Nat) (qu_length : Nat) (qu_links : Nat) (qu_from : Nat) (qu_to : Nat) (qu_paths : Nat) (qu_titles : Nat) (qu_titleSize : Nat) (qu_steps : Nat) (qu_step : Nat) (qu_sideOf : Nat) (qu_within : Nat) (qu_read : Nat) (qu_cost : Nat) (qu_walk : Nat) (qu_edits : Nat) (qu_said : Nat) (fu_size : Int32) (fu_places : Int32) (fu_reads : Int32) (fu_there : Int32) (fu_total : Int32) (fu_walked : Int32) (fu_edited : Int32) (fu_written : Int32) (fu_at : Int32) (fu_end : Int32) (fu_began : Int32) (fu_many : Int32) (p1 : Int32) {Q : Int32 → Unit → Prop} (h : wp_Mo_place Q p1 fu_places) :
    CTi l y_Mo_place (wM y_Mo_place c_Mo_place 2 (some .boolean)) rm_Mo_place 0 0 (dC, dI) (tysL cI cC cB) [.ref qu, .int p1] (W_Mo_place cI cC cB qu qu_text qu_segments qu_names qu_nameSize qu_bases qu_length qu_links qu_from qu_to qu_paths qu_titles qu_titleSize qu_steps qu_step qu_sideOf qu_within qu_read qu_cost qu_walk qu_edits qu_said fu_size fu_places fu_reads fu_there fu_total fu_walked fu_edited fu_written fu_at fu_end fu_began fu_many) sz Q (fun (v : Unit) (b : Unit) => (W_Mo_place cI cC cB qu qu_text qu_segments qu_names qu_nameSize qu_bases qu_length qu_links qu_from qu_to qu_paths qu_titles qu_titleSize qu_steps qu_step qu_sideOf qu_within qu_read qu_cost qu_walk qu_edits qu_said fu_size fu_places fu_reads fu_there fu_total fu_walked fu_edited fu_written fu_at fu_end fu_began fu_many)) := by
  refine CTi.std (by decide) (Nat.le_of_ble_eq_true rfl) ?_
  intro p e s m args below meth c A ls QF C0 hP hD hl hS hsz hnm hret
  obtain ⟨hx, hb, hr, hml, hown, hts, hlocks, hN, hA, hK⟩ := id C0
  have hown : s.vm.findClass R_Mo = some m.cls := hown
  have hl : lv_has ls 2 [(0, .ref qu), (1, .int p1)] := hl
  clear hsz hnm
  unfold wp_Mo_place at h
  refine lv_iload_n hx hb d_Mo_place_0 rfl (lv_at hl 1 rfl) ?_
  refine lv_if_lt (tgt := 16) hx hb d_Mo_place_1 (by decide) (fun c_1 => ?_) (fun c_1 => ?_)
  · have h := h.1 c_1
    refine lv_iconst (v := 0) hx hb d_Mo_place_16 (by decide) ?_
    exact hret () () 0 _ _ _ _ rfl h hP hD hS d_Mo_place_17
  · have h := h.2 c_1
    refine lv_iload_n hx hb d_Mo_place_4 rfl (lv_at hl 1 rfl) ?_
    refine lv_aload_n hx hb d_Mo_place_5 rfl (lv_at hl 0 rfl) ?_
    refine va_get (D := (dC, dI)) (ci := 6) (v := .int fu_places) (C := R_Mo) (T := T_Mo) (N := 33) hx hb hts in_Mo hown hK hP 0 rfl rfl 15 (by decide) (hts _ w_480) (fun _ h9 => h9) rfl d_Mo_place_6 ?_
    refine lv_icmp_ge (tgt := 16) hx hb d_Mo_place_9 (by decide) (fun c_2 => ?_) (fun c_2 => ?_)
    · have h := h.1 c_2
      refine lv_iconst (v := 0) hx hb d_Mo_place_16 (by decide) ?_
      exact hret () () 0 _ _ _ _ rfl h hP hD hS d_Mo_place_17
    · have h := h.2 c_2
      refine lv_iconst (v := 1) hx hb d_Mo_place_12 (by decide) ?_
      refine lv_goto (tgt := 17) hx hb d_Mo_place_13 (by decide) ?_
      exact hret () () 1 _ _ _ _ rfl h hP hD hS d_Mo_place_17
abbrev W_Mo_baseOf (cI cC cB : ClassId) (qu : Nat) (qu_bases : Nat) (qu_length : Nat) (qu_sideOf : Nat) (qu_within : Nat) (qu_text : Nat) (qu_segments : Nat) (qu_names : Nat) (qu_nameSize : Nat) (qu_links : Nat) (qu_from : Nat) (qu_to : Nat) (qu_paths : Nat) (qu_titles : Nat) (qu_titleSize : Nat) (qu_steps : Nat) (qu_step : Nat) (qu_read : Nat) (qu_cost : Nat) (qu_walk : Nat) (qu_edits : Nat) (qu_said : Nat) (fu_size : Int32) (fu_places : Int32) (fu_reads : Int32) (fu_there : Int32) (fu_total : Int32) (fu_walked : Int32) (fu_edited : Int32) (fu_written : Int32) (fu_at : Int32) (fu_end : Int32) (fu_began : Int32) (fu_many : Int32) (au_bases : Nat → Int32) (au_length : Nat → Int32) (au_sideOf : Nat → Int32) (au_within : Nat → Int32) : va_W := [(qu, .inr (6, [.int fu_size, .ref qu_text, .ref qu_segments, .ref qu_names, .ref qu_nameSize, .ref qu_bases, .ref qu_length, .ref qu_links, .ref qu_from, .ref qu_to, .ref qu_paths, .ref qu_titles, .ref qu_titleSize, .ref qu_steps, .ref qu_step, .int fu_places, .ref qu_sideOf, .ref qu_within, .int fu_reads, .ref qu_read, .ref qu_cost, .int fu_there, .int fu_total, .int fu_walked, .ref qu_walk, .int fu_edited, .ref qu_edits, .int fu_written, .ref qu_said, .int fu_at, .int fu_end, .int fu_began, .int fu_many])), (qu_bases, .inl (cC, 64, .inl au_bases)), (qu_length, .inl (cI, 16, .inl au_length)), (qu_sideOf, .inl (cI, 64, .inl au_sideOf)), (qu_within, .inl (cI, 64, .inl au_within))]
def wp_Mo_baseOf (Q : Int32 → Unit → Prop) (p1 : Int32) (au_bases : Nat → Int32) (au_length : Nat → Int32) (au_sideOf : Nat → Int32) (au_within : Nat → Int32) : Prop := vp_in p1 64 ∧ (∀ x_2 : Int32, x_2 = (au_sideOf p1.toNatClampNeg) / 2 → (vp_in p1 64 ∧ (∀ x_4 : Int32, x_4 = (au_sideOf p1.toNatClampNeg) - (au_sideOf p1.toNatClampNeg) / 2 * 2 → (((x_4 = 0 → (vp_in p1 64 ∧ (∀ x_15 : Int32, x_15 = (4 * x_2) + (au_within p1.toNatClampNeg) → (vp_in x_15 64 ∧ (∀ y_17 : Int32, y_17 = au_bases x_15.toNatClampNeg → ((narrow .char (.int y_17) = .int y_17 ∧ Q y_17 ()))))))) ∧ (¬ x_4 = 0 → (vp_in x_2 16 ∧ (vp_in p1 64 ∧ (∀ x_8 : Int32, x_8 = (((4 * x_2) + (au_length x_2.toNatClampNeg)) - 1) - (au_within p1.toNatClampNeg) → (vp_in x_8 64 ∧ (∀ y_10 : Int32, y_10 = au_bases x_8.toNatClampNeg → (((y_10 = 65 → (Q 84 ())) ∧ (¬ y_10 = 65 → (((y_10 = 84 → (Q 65 ())) ∧ (¬ y_10 = 84 → (((y_10 = 67 → (Q 71 ())) ∧ (¬ y_10 = 67 → (Q 67 ())))))))))))))))))))))
abbrev rm_Mo_baseOf : Room := { frames := 0, cells := 0, slots := 0, locals := 0 }
set_option maxHeartbeats 4000000 in
set_option maxRecDepth 100000 in
theorem k_Mo_baseOf (l : Launch) (dC : Nat → ClassId) (dI : Nat → Nat → Nat) (cI cC cB : ClassId) (sz : Nat) (qu : Nat) (qu_bases : Nat) (qu_length : Nat) (qu_sideOf : Nat) (qu_within : Nat) (qu_text : Nat) (qu_segments : Nat) (qu_names : Nat) (qu_nameSize : Nat) (qu_links : Nat) (qu_from : Nat) (qu_to : Nat) (qu_paths : Nat) (qu_titles : Nat) (qu_titleSize : Nat) (qu_steps : Nat) (qu_step : Nat) (qu_read : Nat) (qu_cost : Nat) (qu_walk : Nat) (qu_edits : Nat) (qu_said : Nat) (fu_size : Int32) (fu_places : Int32) (fu_reads : Int32) (fu_there : Int32) (fu_total : Int32) (fu_walked : Int32) (fu_edited : Int32) (fu_written : Int32) (fu_at : Int32) (fu_end : Int32) (fu_began : Int32) (fu_many : Int32) (au_bases : Nat → Int32) (au_length : Nat → Int32) (au_sideOf : Nat → Int32) (au_within : Nat → Int32) (p1 : Int32) {Q : Int32 → Unit → Prop} (h : wp_Mo_baseOf Q p1 au_bases au_length au_sideOf au_within) :
    CTi l y_Mo_baseOf (wM y_Mo_baseOf c_Mo_baseOf 4 (some .char)) rm_Mo_baseOf 0 0 (dC, dI) (tysL cI cC cB) [.ref qu, .int p1] (W_Mo_baseOf cI cC cB qu qu_bases qu_length qu_sideOf qu_within qu_text qu_segments qu_names qu_nameSize qu_links qu_from qu_to qu_paths qu_titles qu_titleSize qu_steps qu_step qu_read qu_cost qu_walk qu_edits qu_said fu_size fu_places fu_reads fu_there fu_total fu_walked fu_edited fu_written fu_at fu_end fu_began fu_many au_bases au_length au_sideOf au_within) sz Q (fun (v : Unit) (b : Unit) => (W_Mo_baseOf cI cC cB qu qu_bases qu_length qu_sideOf qu_within qu_text qu_segments qu_names qu_nameSize qu_links qu_from qu_to qu_paths qu_titles qu_titleSize qu_steps qu_step qu_read qu_cost qu_walk qu_edits qu_said fu_size fu_places fu_reads fu_there fu_total fu_walked fu_edited fu_written fu_at fu_end fu_began fu_many au_bases au_length au_sideOf au_within)) := by
  refine CTi.std (by decide) (Nat.le_of_ble_eq_true rfl) ?_
  intro p e s m args below meth c A ls QF C0 hP hD hl hS hsz hnm hret
  obtain ⟨hx, hb, hr, hml, hown, hts, hlocks, hN, hA, hK⟩ := id C0
  have hown : s.vm.findClass R_Mo = some m.cls := hown
  have hl : lv_has ls 4 [(0, .ref qu), (1, .int p1)] := hl
  clear hsz hnm
  unfold wp_Mo_baseOf at h
  refine lv_aload_n hx hb d_Mo_baseOf_0 rfl (lv_at hl 0 rfl) ?_
  refine va_get (D := (dC, dI)) (ci := 6) (v := .ref qu_sideOf) (C := R_Mo) (T := T_Mo) (N := 33) hx hb hts in_Mo hown hK hP 0 rfl rfl 16 (by decide) (hts _ w_479) (fun _ h9 => h9) rfl d_Mo_baseOf_1 ?_
  refine lv_iload_n hx hb d_Mo_baseOf_4 rfl (lv_at hl 1 rfl) ?_
  have hi_1 := h.1
  have h := h.2
  refine va_iald hx hb hK hP 3 0 rfl rfl hi_1 d_Mo_baseOf_5 ?_
  refine lv_iconst (v := 2) hx hb d_Mo_baseOf_6 (by decide) ?_
  refine lv_idiv hx hb d_Mo_baseOf_7 (by decide) ?_
  refine lv_topi (fun x_2 ex_2 => ?_)
  have h := h x_2 ex_2
  refine lv_istore_n (lv' := [(2, .int x_2), (0, .ref qu), (1, .int p1)]) hx hb d_Mo_baseOf_8 rfl hl (by decide) rfl (fun ls hl => ?_)
  refine lv_aload_n hx hb d_Mo_baseOf_9 rfl (lv_at hl 1 rfl) ?_
  refine va_get (D := (dC, dI)) (ci := 6) (v := .ref qu_sideOf) (C := R_Mo) (T := T_Mo) (N := 33) hx hb hts in_Mo hown hK hP 0 rfl rfl 16 (by decide) (hts _ w_479) (fun _ h9 => h9) rfl d_Mo_baseOf_10 ?_
  refine lv_iload_n hx hb d_Mo_baseOf_13 rfl (lv_at hl 2 rfl) ?_
  have hi_3 := h.1
  have h := h.2
  refine va_iald hx hb hK hP 3 0 rfl rfl hi_3 d_Mo_baseOf_14 ?_
  refine lv_iconst (v := 2) hx hb d_Mo_baseOf_15 (by decide) ?_
  refine lv_irem hx hb d_Mo_baseOf_16 (by decide) ?_
  refine lv_topi (fun x_4 ex_4 => ?_)
  have h := h x_4 ex_4
  refine lv_if_ne (tgt := 36) hx hb d_Mo_baseOf_17 (by decide) (fun c_5 => ?_) (fun c_5 => ?_)
  · have h := h.2 c_5
    refine lv_aload_n hx hb d_Mo_baseOf_36 rfl (lv_at hl 1 rfl) ?_
    refine va_get (D := (dC, dI)) (ci := 6) (v := .ref qu_bases) (C := R_Mo) (T := T_Mo) (N := 33) hx hb hts in_Mo hown hK hP 0 rfl rfl 5 (by decide) (hts _ w_467) (fun _ h9 => h9) rfl d_Mo_baseOf_37 ?_
    refine lv_iconst (v := 4) hx hb d_Mo_baseOf_40 (by decide) ?_
    refine lv_iload_n hx hb d_Mo_baseOf_41 rfl (lv_at hl 0 rfl) ?_
    refine lv_imul hx hb d_Mo_baseOf_42 ?_
    refine lv_aload_n hx hb d_Mo_baseOf_43 rfl (lv_at hl 1 rfl) ?_
    refine va_get (D := (dC, dI)) (ci := 6) (v := .ref qu_length) (C := R_Mo) (T := T_Mo) (N := 33) hx hb hts in_Mo hown hK hP 0 rfl rfl 6 (by decide) (hts _ w_466) (fun _ h9 => h9) rfl d_Mo_baseOf_44 ?_
    refine lv_iload_n hx hb d_Mo_baseOf_47 rfl (lv_at hl 0 rfl) ?_
    have hi_6 := h.1
    have h := h.2
    refine va_iald hx hb hK hP 2 0 rfl rfl hi_6 d_Mo_baseOf_48 ?_
    refine lv_iadd hx hb d_Mo_baseOf_49 ?_
    refine lv_iconst (v := 1) hx hb d_Mo_baseOf_50 (by decide) ?_
    refine lv_isub hx hb d_Mo_baseOf_51 ?_
    refine lv_aload_n hx hb d_Mo_baseOf_52 rfl (lv_at hl 1 rfl) ?_
    refine va_get (D := (dC, dI)) (ci := 6) (v := .ref qu_within) (C := R_Mo) (T := T_Mo) (N := 33) hx hb hts in_Mo hown hK hP 0 rfl rfl 17 (by decide) (hts _ w_481) (fun _ h9 => h9) rfl d_Mo_baseOf_53 ?_
    refine lv_iload_n hx hb d_Mo_baseOf_56 rfl (lv_at hl 2 rfl) ?_
    have hi_7 := h.1
    have h := h.2
    refine va_iald hx hb hK hP 4 0 rfl rfl hi_7 d_Mo_baseOf_57 ?_
    refine lv_isub hx hb d_Mo_baseOf_58 ?_
    refine lv_topi (fun x_8 ex_8 => ?_)
    have h := h x_8 ex_8
    have hi_9 := h.1
    have h := h.2
    refine va_cald hx hb hK hP 1 1 rfl rfl hi_9 d_Mo_baseOf_59 ?_
    refine lv_topi (fun y_10 ey_10 => ?_)
    have h := h y_10 ey_10
    refine lv_istore_n (lv' := [(3, .int y_10), (2, .int x_2), (0, .ref qu), (1, .int p1)]) hx hb d_Mo_baseOf_60 rfl hl (by decide) rfl (fun ls hl => ?_)
    refine lv_iload_n hx hb d_Mo_baseOf_61 rfl (lv_at hl 0 rfl) ?_
    refine lv_bipush (v := 65) hx hb d_Mo_baseOf_62 (by decide) ?_
    refine lv_icmp_ne (tgt := 72) hx hb d_Mo_baseOf_64 (by decide) (fun c_11 => ?_) (fun c_11 => ?_)
    · have h := h.2 c_11
      refine lv_iload_n hx hb d_Mo_baseOf_72 rfl (lv_at hl 0 rfl) ?_
      refine lv_bipush (v := 84) hx hb d_Mo_baseOf_73 (by decide) ?_
      refine lv_icmp_ne (tgt := 83) hx hb d_Mo_baseOf_75 (by decide) (fun c_12 => ?_) (fun c_12 => ?_)
      · have h := h.2 c_12
        refine lv_iload_n hx hb d_Mo_baseOf_83 rfl (lv_at hl 0 rfl) ?_
        refine lv_bipush (v := 67) hx hb d_Mo_baseOf_84 (by decide) ?_
        refine lv_icmp_ne (tgt := 94) hx hb d_Mo_baseOf_86 (by decide) (fun c_13 => ?_) (fun c_13 => ?_)
        · have h := h.2 c_13
          refine lv_bipush (v := 67) hx hb d_Mo_baseOf_94 (by decide) ?_
          exact hret () () 67 _ _ _ _ rfl h hP hD hS d_Mo_baseOf_96
        · have h := h.1 c_13
          refine lv_bipush (v := 71) hx hb d_Mo_baseOf_89 (by decide) ?_
          refine lv_goto (tgt := 96) hx hb d_Mo_baseOf_91 (by decide) ?_
          exact hret () () 71 _ _ _ _ rfl h hP hD hS d_Mo_baseOf_96
      · have h := h.1 c_12
        refine lv_bipush (v := 65) hx hb d_Mo_baseOf_78 (by decide) ?_
        refine lv_goto (tgt := 96) hx hb d_Mo_baseOf_80 (by decide) ?_
        exact hret () () 65 _ _ _ _ rfl h hP hD hS d_Mo_baseOf_96
    · have h := h.1 c_11
      refine lv_bipush (v := 84) hx hb d_Mo_baseOf_67 (by decide) ?_
      refine lv_goto (tgt := 96) hx hb d_Mo_baseOf_69 (by decide) ?_
      exact hret () () 84 _ _ _ _ rfl h hP hD hS d_Mo_baseOf_96
  · have h := h.1 c_5
    refine lv_aload_n hx hb d_Mo_baseOf_20 rfl (lv_at hl 1 rfl) ?_
    refine va_get (D := (dC, dI)) (ci := 6) (v := .ref qu_bases) (C := R_Mo) (T := T_Mo) (N := 33) hx hb hts in_Mo hown hK hP 0 rfl rfl 5 (by decide) (hts _ w_467) (fun _ h9 => h9) rfl d_Mo_baseOf_21 ?_
    refine lv_iconst (v := 4) hx hb d_Mo_baseOf_24 (by decide) ?_
    refine lv_iload_n hx hb d_Mo_baseOf_25 rfl (lv_at hl 0 rfl) ?_
    refine lv_imul hx hb d_Mo_baseOf_26 ?_
    refine lv_aload_n hx hb d_Mo_baseOf_27 rfl (lv_at hl 1 rfl) ?_
    refine va_get (D := (dC, dI)) (ci := 6) (v := .ref qu_within) (C := R_Mo) (T := T_Mo) (N := 33) hx hb hts in_Mo hown hK hP 0 rfl rfl 17 (by decide) (hts _ w_481) (fun _ h9 => h9) rfl d_Mo_baseOf_28 ?_
    refine lv_iload_n hx hb d_Mo_baseOf_31 rfl (lv_at hl 2 rfl) ?_
    have hi_14 := h.1
    have h := h.2
    refine va_iald hx hb hK hP 4 0 rfl rfl hi_14 d_Mo_baseOf_32 ?_
    refine lv_iadd hx hb d_Mo_baseOf_33 ?_
    refine lv_topi (fun x_15 ex_15 => ?_)
    have h := h x_15 ex_15
    have hi_16 := h.1
    have h := h.2
    refine va_cald hx hb hK hP 1 1 rfl rfl hi_16 d_Mo_baseOf_34 ?_
    refine lv_topi (fun y_17 ey_17 => ?_)
    have h := h y_17 ey_17
    exact hret () () y_17 _ _ _ _ h.1 h.2 hP hD hS d_Mo_baseOf_35
abbrev W_Mo_base (cI cC cB : ClassId) (qu : Nat) (qu_bases : Nat) (qu_length : Nat) (qu_sideOf : Nat) (qu_within : Nat) (qu_text : Nat) (qu_segments : Nat) (qu_names : Nat) (qu_nameSize : Nat) (qu_links : Nat) (qu_from : Nat) (qu_to : Nat) (qu_paths : Nat) (qu_titles : Nat) (qu_titleSize : Nat) (qu_steps : Nat) (qu_step : Nat) (qu_read : Nat) (qu_cost : Nat) (qu_walk : Nat) (qu_edits : Nat) (qu_said : Nat) (fu_size : Int32) (fu_places : Int32) (fu_reads : Int32) (fu_there : Int32) (fu_total : Int32) (fu_walked : Int32) (fu_edited : Int32) (fu_written : Int32) (fu_at : Int32) (fu_end : Int32) (fu_began : Int32) (fu_many : Int32) (au_bases : Nat → Int32) (au_length : Nat → Int32) (au_sideOf : Nat → Int32) (au_within : Nat → Int32) : va_W := [(qu, .inr (6, [.int fu_size, .ref qu_text, .ref qu_segments, .ref qu_names, .ref qu_nameSize, .ref qu_bases, .ref qu_length, .ref qu_links, .ref qu_from, .ref qu_to, .ref qu_paths, .ref qu_titles, .ref qu_titleSize, .ref qu_steps, .ref qu_step, .int fu_places, .ref qu_sideOf, .ref qu_within, .int fu_reads, .ref qu_read, .ref qu_cost, .int fu_there, .int fu_total, .int fu_walked, .ref qu_walk, .int fu_edited, .ref qu_edits, .int fu_written, .ref qu_said, .int fu_at, .int fu_end, .int fu_began, .int fu_many])), (qu_bases, .inl (cC, 64, .inl au_bases)), (qu_length, .inl (cI, 16, .inl au_length)), (qu_sideOf, .inl (cI, 64, .inl au_sideOf)), (qu_within, .inl (cI, 64, .inl au_within))]
def wp_Mo_base (Q : Int32 → Unit → Prop) (p1 : Int32) (fu_places : Int32) (au_bases : Nat → Int32) (au_length : Nat → Int32) (au_sideOf : Nat → Int32) (au_within : Nat → Int32) : Prop := wp_Mo_place (fun r_2 v_1 => ((r_2 = 0 → (Q (-1) ())) ∧ (¬ r_2 = 0 → (wp_Mo_baseOf (fun r_5 v_4 => Q r_5 ()) p1 au_bases au_length au_sideOf au_within)))) p1 fu_places
abbrev rm_Mo_base : Room := { frames := 1, cells := 0, slots := 0, locals := 23 }
set_option maxHeartbeats 4000000 in
set_option maxRecDepth 100000 in
theorem k_Mo_base (l : Launch) (dC : Nat → ClassId) (dI : Nat → Nat → Nat) (cI cC cB : ClassId) (sz : Nat) (qu : Nat) (qu_bases : Nat) (qu_length : Nat) (qu_sideOf : Nat) (qu_within : Nat) (qu_text : Nat) (qu_segments : Nat) (qu_names : Nat) (qu_nameSize : Nat) (qu_links : Nat) (qu_from : Nat) (qu_to : Nat) (qu_paths : Nat) (qu_titles : Nat) (qu_titleSize : Nat) (qu_steps : Nat) (qu_step : Nat) (qu_read : Nat) (qu_cost : Nat) (qu_walk : Nat) (qu_edits : Nat) (qu_said : Nat) (fu_size : Int32) (fu_places : Int32) (fu_reads : Int32) (fu_there : Int32) (fu_total : Int32) (fu_walked : Int32) (fu_edited : Int32) (fu_written : Int32) (fu_at : Int32) (fu_end : Int32) (fu_began : Int32) (fu_many : Int32) (au_bases : Nat → Int32) (au_length : Nat → Int32) (au_sideOf : Nat → Int32) (au_within : Nat → Int32) (p1 : Int32) {Q : Int32 → Unit → Prop} (h : wp_Mo_base Q p1 fu_places au_bases au_length au_sideOf au_within) :
    CTi l y_Mo_base (wM y_Mo_base c_Mo_base 2 (some .int)) rm_Mo_base 0 0 (dC, dI) (tysL cI cC cB) [.ref qu, .int p1] (W_Mo_base cI cC cB qu qu_bases qu_length qu_sideOf qu_within qu_text qu_segments qu_names qu_nameSize qu_links qu_from qu_to qu_paths qu_titles qu_titleSize qu_steps qu_step qu_read qu_cost qu_walk qu_edits qu_said fu_size fu_places fu_reads fu_there fu_total fu_walked fu_edited fu_written fu_at fu_end fu_began fu_many au_bases au_length au_sideOf au_within) sz Q (fun (v : Unit) (b : Unit) => (W_Mo_base cI cC cB qu qu_bases qu_length qu_sideOf qu_within qu_text qu_segments qu_names qu_nameSize qu_links qu_from qu_to qu_paths qu_titles qu_titleSize qu_steps qu_step qu_read qu_cost qu_walk qu_edits qu_said fu_size fu_places fu_reads fu_there fu_total fu_walked fu_edited fu_written fu_at fu_end fu_began fu_many au_bases au_length au_sideOf au_within)) := by
  refine CTi.std (by decide) (Nat.le_of_ble_eq_true rfl) ?_
  intro p e s m args below meth c A ls QF C0 hP hD hl hS hsz hnm hret
  obtain ⟨hx, hb, hr, hml, hown, hts, hlocks, hN, hA, hK⟩ := id C0
  have hown : s.vm.findClass R_Mo = some m.cls := hown
  have hl : lv_has ls 2 [(0, .ref qu), (1, .int p1)] := hl
  clear hsz hnm
  unfold wp_Mo_base at h
  refine lv_aload_n hx hb d_Mo_base_0 rfl (lv_at hl 0 rfl) ?_
  refine lv_iload_n hx hb d_Mo_base_1 rfl (lv_at hl 1 rfl) ?_
  refine call_V_i (As := [.int p1]) (rest := []) C0 hP hD hS [0] [1, 2, 3, 4] [4, 0, 1, 2, 3] [(qu_bases, .inl (cC, 64, .inl au_bases)), (qu_length, .inl (cI, 16, .inl au_length)), (qu_sideOf, .inl (cI, 64, .inl au_sideOf)), (qu_within, .inl (cI, 64, .inl au_within))] (fun (v : Unit) (b : Unit) => (W_Mo_base cI cC cB qu qu_bases qu_length qu_sideOf qu_within qu_text qu_segments qu_names qu_nameSize qu_links qu_from qu_to qu_paths qu_titles qu_titleSize qu_steps qu_step qu_read qu_cost qu_walk qu_edits qu_said fu_size fu_places fu_reads fu_there fu_total fu_walked fu_edited fu_written fu_at fu_end fu_began fu_many au_bases au_length au_sideOf au_within)) (ci := 6) rfl rfl (k_Mo_place l dC dI cI cC cB _ qu qu_text qu_segments qu_names qu_nameSize qu_bases qu_length qu_links qu_from qu_to qu_paths qu_titles qu_titleSize qu_steps qu_step qu_sideOf qu_within qu_read qu_cost qu_walk qu_edits qu_said fu_size fu_places fu_reads fu_there fu_total fu_walked fu_edited fu_written fu_at fu_end fu_began fu_many p1 h) (g_V w_492 w_493 w_494 w_418 w_491) 1 rfl (by decide +kernel) rfl rfl ⟨Nat.le_of_ble_eq_true rfl, Nat.le_of_ble_eq_true rfl⟩ rfl rfl (by decide) (by decide) (by decide) (by decide) (fun _ _ => rfl) hl.1 rfl (Nat.le_of_ble_eq_true rfl) d_Mo_base_2 ⟨Nat.le_of_ble_eq_true rfl, Nat.le_of_ble_eq_true rfl⟩ (fun r_2 v_1 _ H locs h hP hD hS => ?_)
  have hP : va_P (dC, dI) cls (W_Mo_base cI cC cB qu qu_bases qu_length qu_sideOf qu_within qu_text qu_segments qu_names qu_nameSize qu_links qu_from qu_to qu_paths qu_titles qu_titleSize qu_steps qu_step qu_read qu_cost qu_walk qu_edits qu_said fu_size fu_places fu_reads fu_there fu_total fu_walked fu_edited fu_written fu_at fu_end fu_began fu_many au_bases au_length au_sideOf au_within) H := hP
  have hD : va_D A (W_Mo_base cI cC cB qu qu_bases qu_length qu_sideOf qu_within qu_text qu_segments qu_names qu_nameSize qu_links qu_from qu_to qu_paths qu_titles qu_titleSize qu_steps qu_step qu_read qu_cost qu_walk qu_edits qu_said fu_size fu_places fu_reads fu_there fu_total fu_walked fu_edited fu_written fu_at fu_end fu_began fu_many au_bases au_length au_sideOf au_within) := hD
  refine lv_if_eq (tgt := 16) hx hb d_Mo_base_5 (by decide) (fun c_3 => ?_) (fun c_3 => ?_)
  · have h := h.1 c_3
    refine lv_iconst (v := (-1)) hx hb d_Mo_base_16 (by decide) ?_
    exact hret () () (-1) _ _ _ _ rfl h hP hD hS d_Mo_base_17
  · have h := h.2 c_3
    refine lv_aload_n hx hb d_Mo_base_8 rfl (lv_at hl 0 rfl) ?_
    refine lv_iload_n hx hb d_Mo_base_9 rfl (lv_at hl 1 rfl) ?_
    refine call_V_i (As := [.int p1]) (rest := []) C0 hP hD hS [0, 1, 2, 3, 4] [] [0, 1, 2, 3, 4] [] (fun (v : Unit) (b : Unit) => (W_Mo_base cI cC cB qu qu_bases qu_length qu_sideOf qu_within qu_text qu_segments qu_names qu_nameSize qu_links qu_from qu_to qu_paths qu_titles qu_titleSize qu_steps qu_step qu_read qu_cost qu_walk qu_edits qu_said fu_size fu_places fu_reads fu_there fu_total fu_walked fu_edited fu_written fu_at fu_end fu_began fu_many au_bases au_length au_sideOf au_within)) (ci := 6) rfl rfl (k_Mo_baseOf l dC dI cI cC cB _ qu qu_bases qu_length qu_sideOf qu_within qu_text qu_segments qu_names qu_nameSize qu_links qu_from qu_to qu_paths qu_titles qu_titleSize qu_steps qu_step qu_read qu_cost qu_walk qu_edits qu_said fu_size fu_places fu_reads fu_there fu_total fu_walked fu_edited fu_written fu_at fu_end fu_began fu_many au_bases au_length au_sideOf au_within p1 h) (g_V w_488 w_489 w_490 w_418 w_487) 1 rfl (by decide +kernel) rfl rfl ⟨Nat.le_of_ble_eq_true rfl, Nat.le_of_ble_eq_true rfl⟩ rfl rfl (by decide) (by decide) (by decide) (by decide) (fun _ _ => rfl) hl.1 rfl (Nat.le_of_ble_eq_true rfl) d_Mo_base_10 ⟨Nat.le_of_ble_eq_true rfl, Nat.le_of_ble_eq_true rfl⟩ (fun r_5 v_4 _ H locs h hP hD hS => ?_)
    have hP : va_P (dC, dI) cls (W_Mo_base cI cC cB qu qu_bases qu_length qu_sideOf qu_within qu_text qu_segments qu_names qu_nameSize qu_links qu_from qu_to qu_paths qu_titles qu_titleSize qu_steps qu_step qu_read qu_cost qu_walk qu_edits qu_said fu_size fu_places fu_reads fu_there fu_total fu_walked fu_edited fu_written fu_at fu_end fu_began fu_many au_bases au_length au_sideOf au_within) H := hP
    have hD : va_D A (W_Mo_base cI cC cB qu qu_bases qu_length qu_sideOf qu_within qu_text qu_segments qu_names qu_nameSize qu_links qu_from qu_to qu_paths qu_titles qu_titleSize qu_steps qu_step qu_read qu_cost qu_walk qu_edits qu_said fu_size fu_places fu_reads fu_there fu_total fu_walked fu_edited fu_written fu_at fu_end fu_began fu_many au_bases au_length au_sideOf au_within) := hD
    refine lv_goto (tgt := 17) hx hb d_Mo_base_13 (by decide) ?_
    exact hret () () r_5 _ _ _ _ rfl h hP hD hS d_Mo_base_17
abbrev W_Mo_isLast (cI cC cB : ClassId) (qu : Nat) (qu_length : Nat) (qu_sideOf : Nat) (qu_within : Nat) (qu_text : Nat) (qu_segments : Nat) (qu_names : Nat) (qu_nameSize : Nat) (qu_bases : Nat) (qu_links : Nat) (qu_from : Nat) (qu_to : Nat) (qu_paths : Nat) (qu_titles : Nat) (qu_titleSize : Nat) (qu_steps : Nat) (qu_step : Nat) (qu_read : Nat) (qu_cost : Nat) (qu_walk : Nat) (qu_edits : Nat) (qu_said : Nat) (fu_size : Int32) (fu_places : Int32) (fu_reads : Int32) (fu_there : Int32) (fu_total : Int32) (fu_walked : Int32) (fu_edited : Int32) (fu_written : Int32) (fu_at : Int32) (fu_end : Int32) (fu_began : Int32) (fu_many : Int32) (au_length : Nat → Int32) (au_sideOf : Nat → Int32) (au_within : Nat → Int32) : va_W := [(qu, .inr (6, [.int fu_size, .ref qu_text, .ref qu_segments, .ref qu_names, .ref qu_nameSize, .ref qu_bases, .ref qu_length, .ref qu_links, .ref qu_from, .ref qu_to, .ref qu_paths, .ref qu_titles, .ref qu_titleSize, .ref qu_steps, .ref qu_step, .int fu_places, .ref qu_sideOf, .ref qu_within, .int fu_reads, .ref qu_read, .ref qu_cost, .int fu_there, .int fu_total, .int fu_walked, .ref qu_walk, .int fu_edited, .ref qu_edits, .int fu_written, .ref qu_said, .int fu_at, .int fu_end, .int fu_began, .int fu_many])), (qu_length, .inl (cI, 16, .inl au_length)), (qu_sideOf, .inl (cI, 64, .inl au_sideOf)), (qu_within, .inl (cI, 64, .inl au_within))]
def wp_Mo_isLast (Q : Int32 → Unit → Prop) (p1 : Int32) (au_length : Nat → Int32) (au_sideOf : Nat → Int32) (au_within : Nat → Int32) : Prop := vp_in p1 64 ∧ (∀ y_2 : Int32, y_2 = au_within p1.toNatClampNeg → (vp_in p1 64 ∧ (∀ x_4 : Int32, x_4 = (au_sideOf p1.toNatClampNeg) / 2 → (vp_in x_4 16 ∧ (∀ x_6 : Int32, x_6 = (au_length x_4.toNatClampNeg) - 1 → (((y_2 = x_6 → (Q 1 ())) ∧ (¬ y_2 = x_6 → (Q 0 ())))))))))
abbrev rm_Mo_isLast : Room := { frames := 0, cells := 0, slots := 0, locals := 0 }
set_option maxHeartbeats 4000000 in
set_option maxRecDepth 100000 in
theorem k_Mo_isLast (l : Launch) (dC : Nat → ClassId) (dI : Nat → Nat → Nat) (cI cC cB : ClassId) (sz : Nat) (qu : Nat) (qu_length : Nat) (qu_sideOf : Nat) (qu_within : Nat) (qu_text : Nat) (qu_segments : Nat) (qu_names : Nat) (qu_nameSize : Nat) (qu_bases : Nat) (qu_links : Nat) (qu_from : Nat) (qu_to : Nat) (qu_paths : Nat) (qu_titles : Nat) (qu_titleSize : Nat) (qu_steps : Nat) (qu_step : Nat) (qu_read : Nat) (qu_cost : Nat) (qu_walk : Nat) (qu_edits : Nat) (qu_said : Nat) (fu_size : Int32) (fu_places : Int32) (fu_reads : Int32) (fu_there : Int32) (fu_total : Int32) (fu_walked : Int32) (fu_edited : Int32) (fu_written : Int32) (fu_at : Int32) (fu_end : Int32) (fu_began : Int32) (fu_many : Int32) (au_length : Nat → Int32) (au_sideOf : Nat → Int32) (au_within : Nat → Int32) (p1 : Int32) {Q : Int32 → Unit → Prop} (h : wp_Mo_isLast Q p1 au_length au_sideOf au_within) :
    CTi l y_Mo_isLast (wM y_Mo_isLast c_Mo_isLast 2 (some .boolean)) rm_Mo_isLast 0 0 (dC, dI) (tysL cI cC cB) [.ref qu, .int p1] (W_Mo_isLast cI cC cB qu qu_length qu_sideOf qu_within qu_text qu_segments qu_names qu_nameSize qu_bases qu_links qu_from qu_to qu_paths qu_titles qu_titleSize qu_steps qu_step qu_read qu_cost qu_walk qu_edits qu_said fu_size fu_places fu_reads fu_there fu_total fu_walked fu_edited fu_written fu_at fu_end fu_began fu_many au_length au_sideOf au_within) sz Q (fun (v : Unit) (b : Unit) => (W_Mo_isLast cI cC cB qu qu_length qu_sideOf qu_within qu_text qu_segments qu_names qu_nameSize qu_bases qu_links qu_from qu_to qu_paths qu_titles qu_titleSize qu_steps qu_step qu_read qu_cost qu_walk qu_edits qu_said fu_size fu_places fu_reads fu_there fu_total fu_walked fu_edited fu_written fu_at fu_end fu_began fu_many au_length au_sideOf au_within)) := by
  refine CTi.std (by decide) (Nat.le_of_ble_eq_true rfl) ?_
  intro p e s m args below meth c A ls QF C0 hP hD hl hS hsz hnm hret
  obtain ⟨hx, hb, hr, hml, hown, hts, hlocks, hN, hA, hK⟩ := id C0
  have hown : s.vm.findClass R_Mo = some m.cls := hown
  have hl : lv_has ls 2 [(0, .ref qu), (1, .int p1)] := hl
  clear hsz hnm
  unfold wp_Mo_isLast at h
  refine lv_aload_n hx hb d_Mo_isLast_0 rfl (lv_at hl 0 rfl) ?_
  refine va_get (D := (dC, dI)) (ci := 6) (v := .ref qu_within) (C := R_Mo) (T := T_Mo) (N := 33) hx hb hts in_Mo hown hK hP 0 rfl rfl 17 (by decide) (hts _ w_481) (fun _ h9 => h9) rfl d_Mo_isLast_1 ?_
  refine lv_iload_n hx hb d_Mo_isLast_4 rfl (lv_at hl 1 rfl) ?_
  have hi_1 := h.1
  have h := h.2
  refine va_iald hx hb hK hP 3 0 rfl rfl hi_1 d_Mo_isLast_5 ?_
  refine lv_topi (fun y_2 ey_2 => ?_)
  have h := h y_2 ey_2
  refine lv_aload_n hx hb d_Mo_isLast_6 rfl (lv_at hl 0 rfl) ?_
  refine va_get (D := (dC, dI)) (ci := 6) (v := .ref qu_length) (C := R_Mo) (T := T_Mo) (N := 33) hx hb hts in_Mo hown hK hP 0 rfl rfl 6 (by decide) (hts _ w_466) (fun _ h9 => h9) rfl d_Mo_isLast_7 ?_
  refine lv_aload_n hx hb d_Mo_isLast_10 rfl (lv_at hl 0 rfl) ?_
  refine va_get (D := (dC, dI)) (ci := 6) (v := .ref qu_sideOf) (C := R_Mo) (T := T_Mo) (N := 33) hx hb hts in_Mo hown hK hP 0 rfl rfl 16 (by decide) (hts _ w_479) (fun _ h9 => h9) rfl d_Mo_isLast_11 ?_
  refine lv_iload_n hx hb d_Mo_isLast_14 rfl (lv_at hl 1 rfl) ?_
  have hi_3 := h.1
  have h := h.2
  refine va_iald hx hb hK hP 2 0 rfl rfl hi_3 d_Mo_isLast_15 ?_
  refine lv_iconst (v := 2) hx hb d_Mo_isLast_16 (by decide) ?_
  refine lv_idiv hx hb d_Mo_isLast_17 (by decide) ?_
  refine lv_topi (fun x_4 ex_4 => ?_)
  have h := h x_4 ex_4
  have hi_5 := h.1
  have h := h.2
  refine va_iald hx hb hK hP 1 0 rfl rfl hi_5 d_Mo_isLast_18 ?_
  refine lv_iconst (v := 1) hx hb d_Mo_isLast_19 (by decide) ?_
  refine lv_isub hx hb d_Mo_isLast_20 ?_
  refine lv_topi (fun x_6 ex_6 => ?_)
  have h := h x_6 ex_6
  refine lv_icmp_ne (tgt := 28) hx hb d_Mo_isLast_21 (by decide) (fun c_7 => ?_) (fun c_7 => ?_)
  · have h := h.2 c_7
    refine lv_iconst (v := 0) hx hb d_Mo_isLast_28 (by decide) ?_
    exact hret () () 0 _ _ _ _ rfl h hP hD hS d_Mo_isLast_29
  · have h := h.1 c_7
    refine lv_iconst (v := 1) hx hb d_Mo_isLast_24 (by decide) ?_
    refine lv_goto (tgt := 29) hx hb d_Mo_isLast_25 (by decide) ?_
    exact hret () () 1 _ _ _ _ rfl h hP hD hS d_Mo_isLast_29
abbrev W_Mo_after (cI cC cB : ClassId) (qu : Nat) (qu_length : Nat) (qu_links : Nat) (qu_from : Nat) (qu_to : Nat) (qu_sideOf : Nat) (qu_within : Nat) (qu_text : Nat) (qu_segments : Nat) (qu_names : Nat) (qu_nameSize : Nat) (qu_bases : Nat) (qu_paths : Nat) (qu_titles : Nat) (qu_titleSize : Nat) (qu_steps : Nat) (qu_step : Nat) (qu_read : Nat) (qu_cost : Nat) (qu_walk : Nat) (qu_edits : Nat) (qu_said : Nat) (fu_size : Int32) (fu_places : Int32) (fu_reads : Int32) (fu_there : Int32) (fu_total : Int32) (fu_walked : Int32) (fu_edited : Int32) (fu_written : Int32) (fu_at : Int32) (fu_end : Int32) (fu_began : Int32) (fu_many : Int32) (au_length : Nat → Int32) (au_links : Nat → Int32) (au_from : Nat → Int32) (au_to : Nat → Int32) (au_sideOf : Nat → Int32) (au_within : Nat → Int32) : va_W := [(qu, .inr (6, [.int fu_size, .ref qu_text, .ref qu_segments, .ref qu_names, .ref qu_nameSize, .ref qu_bases, .ref qu_length, .ref qu_links, .ref qu_from, .ref qu_to, .ref qu_paths, .ref qu_titles, .ref qu_titleSize, .ref qu_steps, .ref qu_step, .int fu_places, .ref qu_sideOf, .ref qu_within, .int fu_reads, .ref qu_read, .ref qu_cost, .int fu_there, .int fu_total, .int fu_walked, .ref qu_walk, .int fu_edited, .ref qu_edits, .int fu_written, .ref qu_said, .int fu_at, .int fu_end, .int fu_began, .int fu_many])), (qu_length, .inl (cI, 16, .inl au_length)), (qu_links, .inl (cI, 2, .inl au_links)), (qu_from, .inl (cI, 24, .inl au_from)), (qu_to, .inl (cI, 24, .inl au_to)), (qu_sideOf, .inl (cI, 64, .inl au_sideOf)), (qu_within, .inl (cI, 64, .inl au_within))]
def wp_Mo_after (Q : Int32 → Unit → Prop) (p1 : Int32) (p2 : Int32) (au_length : Nat → Int32) (au_links : Nat → Int32) (au_from : Nat → Int32) (au_to : Nat → Int32) (au_sideOf : Nat → Int32) (au_within : Nat → Int32) : Prop := wp_Mo_isLast (fun r_2 v_1 => ((r_2 = 0 → (∀ x_14 : Int32, x_14 = p1 + 1 → (((p2 = x_14 → (Q 1 ())) ∧ (¬ p2 = x_14 → (Q 0 ())))))) ∧ (¬ r_2 = 0 → (vp_in p2 64 ∧ (∀ y_5 : Int32, y_5 = au_within p2.toNatClampNeg → (((y_5 = 0 → (vp_in p1 64 ∧ (∀ y_8 : Int32, y_8 = au_sideOf p1.toNatClampNeg → (vp_in p2 64 ∧ (∀ y_10 : Int32, y_10 = au_sideOf p2.toNatClampNeg → (wp_Mo_linked (fun r_12 v_11 => ((r_12 = 0 → (Q 0 ())) ∧ (¬ r_12 = 0 → (Q 1 ())))) 0 y_8 y_10 au_links au_from au_to)))))) ∧ (¬ y_5 = 0 → (Q 0 ()))))))))) p1 au_length au_sideOf au_within
abbrev rm_Mo_after : Room := { frames := 1, cells := 0, slots := 0, locals := 25 }
set_option maxHeartbeats 4000000 in
set_option maxRecDepth 100000 in
theorem k_Mo_after (l : Launch) (dC : Nat → ClassId) (dI : Nat → Nat → Nat) (cI cC cB : ClassId) (sz : Nat) (qu : Nat) (qu_length : Nat) (qu_links : Nat) (qu_from : Nat) (qu_to : Nat) (qu_sideOf : Nat) (qu_within : Nat) (qu_text : Nat) (qu_segments : Nat) (qu_names : Nat) (qu_nameSize : Nat) (qu_bases : Nat) (qu_paths : Nat) (qu_titles : Nat) (qu_titleSize : Nat) (qu_steps : Nat) (qu_step : Nat) (qu_read : Nat) (qu_cost : Nat) (qu_walk : Nat) (qu_edits : Nat) (qu_said : Nat) (fu_size : Int32) (fu_places : Int32) (fu_reads : Int32) (fu_there : Int32) (fu_total : Int32) (fu_walked : Int32) (fu_edited : Int32) (fu_written : Int32) (fu_at : Int32) (fu_end : Int32) (fu_began : Int32) (fu_many : Int32) (au_length : Nat → Int32) (au_links : Nat → Int32) (au_from : Nat → Int32) (au_to : Nat → Int32) (au_sideOf : Nat → Int32) (au_within : Nat → Int32) (p1 : Int32) (p2 : Int32) {Q : Int32 → Unit → Prop} (h : wp_Mo_after Q p1 p2 au_length au_links au_from au_to au_sideOf au_within) :
    CTi l y_Mo_after (wM y_Mo_after c_Mo_after 3 (some .boolean)) rm_Mo_after 0 0 (dC, dI) (tysL cI cC cB) [.ref qu, .int p1, .int p2] (W_Mo_after cI cC cB qu qu_length qu_links qu_from qu_to qu_sideOf qu_within qu_text qu_segments qu_names qu_nameSize qu_bases qu_paths qu_titles qu_titleSize qu_steps qu_step qu_read qu_cost qu_walk qu_edits qu_said fu_size fu_places fu_reads fu_there fu_total fu_walked fu_edited fu_written fu_at fu_end fu_began fu_many au_length au_links au_from au_to au_sideOf au_within) sz Q (fun (v : Unit) (b : Unit) => (W_Mo_after cI cC cB qu qu_length qu_links qu_from qu_to qu_sideOf qu_within qu_text qu_segments qu_names qu_nameSize qu_bases qu_paths qu_titles qu_titleSize qu_steps qu_step qu_read qu_cost qu_walk qu_edits qu_said fu_size fu_places fu_reads fu_there fu_total fu_walked fu_edited fu_written fu_at fu_end fu_began fu_many au_length au_links au_from au_to au_sideOf au_within)) := by
  refine CTi.std (by decide) (Nat.le_of_ble_eq_true rfl) ?_
  intro p e s m args below meth c A ls QF C0 hP hD hl hS hsz hnm hret
  obtain ⟨hx, hb, hr, hml, hown, hts, hlocks, hN, hA, hK⟩ := id C0
  have hown : s.vm.findClass R_Mo = some m.cls := hown
  have hl : lv_has ls 3 [(0, .ref qu), (1, .int p1), (2, .int p2)] := hl
  clear hsz hnm
  unfold wp_Mo_after at h
  refine lv_aload_n hx hb d_Mo_after_0 rfl (lv_at hl 0 rfl) ?_
  refine lv_iload_n hx hb d_Mo_after_1 rfl (lv_at hl 1 rfl) ?_
  refine call_V_i (As := [.int p1]) (rest := []) C0 hP hD hS [0, 1, 5, 6] [2, 3, 4] [3, 4, 0, 1, 2, 5, 6] [(qu_links, .inl (cI, 2, .inl au_links)), (qu_from, .inl (cI, 24, .inl au_from)), (qu_to, .inl (cI, 24, .inl au_to))] (fun (v : Unit) (b : Unit) => (W_Mo_after cI cC cB qu qu_length qu_links qu_from qu_to qu_sideOf qu_within qu_text qu_segments qu_names qu_nameSize qu_bases qu_paths qu_titles qu_titleSize qu_steps qu_step qu_read qu_cost qu_walk qu_edits qu_said fu_size fu_places fu_reads fu_there fu_total fu_walked fu_edited fu_written fu_at fu_end fu_began fu_many au_length au_links au_from au_to au_sideOf au_within)) (ci := 6) rfl rfl (k_Mo_isLast l dC dI cI cC cB _ qu qu_length qu_sideOf qu_within qu_text qu_segments qu_names qu_nameSize qu_bases qu_links qu_from qu_to qu_paths qu_titles qu_titleSize qu_steps qu_step qu_read qu_cost qu_walk qu_edits qu_said fu_size fu_places fu_reads fu_there fu_total fu_walked fu_edited fu_written fu_at fu_end fu_began fu_many au_length au_sideOf au_within p1 h) (g_V w_496 w_497 w_498 w_418 w_495) 1 rfl (by decide +kernel) rfl rfl ⟨Nat.le_of_ble_eq_true rfl, Nat.le_of_ble_eq_true rfl⟩ rfl rfl (by decide) (by decide) (by decide) (by decide) (fun _ _ => rfl) hl.1 rfl (Nat.le_of_ble_eq_true rfl) d_Mo_after_2 ⟨Nat.le_of_ble_eq_true rfl, Nat.le_of_ble_eq_true rfl⟩ (fun r_2 v_1 _ H locs h hP hD hS => ?_)
  have hP : va_P (dC, dI) cls (W_Mo_after cI cC cB qu qu_length qu_links qu_from qu_to qu_sideOf qu_within qu_text qu_segments qu_names qu_nameSize qu_bases qu_paths qu_titles qu_titleSize qu_steps qu_step qu_read qu_cost qu_walk qu_edits qu_said fu_size fu_places fu_reads fu_there fu_total fu_walked fu_edited fu_written fu_at fu_end fu_began fu_many au_length au_links au_from au_to au_sideOf au_within) H := hP
  have hD : va_D A (W_Mo_after cI cC cB qu qu_length qu_links qu_from qu_to qu_sideOf qu_within qu_text qu_segments qu_names qu_nameSize qu_bases qu_paths qu_titles qu_titleSize qu_steps qu_step qu_read qu_cost qu_walk qu_edits qu_said fu_size fu_places fu_reads fu_there fu_total fu_walked fu_edited fu_written fu_at fu_end fu_began fu_many au_length au_links au_from au_to au_sideOf au_within) := hD
  refine lv_if_ne (tgt := 21) hx hb d_Mo_after_5 (by decide) (fun c_3 => ?_) (fun c_3 => ?_)
  · have h := h.2 c_3
    refine lv_aload_n hx hb d_Mo_after_21 rfl (lv_at hl 0 rfl) ?_
    refine va_get (D := (dC, dI)) (ci := 6) (v := .ref qu_within) (C := R_Mo) (T := T_Mo) (N := 33) hx hb hts in_Mo hown hK hP 0 rfl rfl 17 (by decide) (hts _ w_481) (fun _ h9 => h9) rfl d_Mo_after_22 ?_
    refine lv_iload_n hx hb d_Mo_after_25 rfl (lv_at hl 2 rfl) ?_
    have hi_4 := h.1
    have h := h.2
    refine va_iald hx hb hK hP 6 0 rfl rfl hi_4 d_Mo_after_26 ?_
    refine lv_topi (fun y_5 ey_5 => ?_)
    have h := h y_5 ey_5
    refine lv_if_ne (tgt := 54) hx hb d_Mo_after_27 (by decide) (fun c_6 => ?_) (fun c_6 => ?_)
    · have h := h.2 c_6
      refine lv_iconst (v := 0) hx hb d_Mo_after_54 (by decide) ?_
      exact hret () () 0 _ _ _ _ rfl h hP hD hS d_Mo_after_55
    · have h := h.1 c_6
      refine lv_aload_n hx hb d_Mo_after_30 rfl (lv_at hl 0 rfl) ?_
      refine lv_iconst (v := 0) hx hb d_Mo_after_31 (by decide) ?_
      refine lv_aload_n hx hb d_Mo_after_32 rfl (lv_at hl 0 rfl) ?_
      refine va_get (D := (dC, dI)) (ci := 6) (v := .ref qu_sideOf) (C := R_Mo) (T := T_Mo) (N := 33) hx hb hts in_Mo hown hK hP 0 rfl rfl 16 (by decide) (hts _ w_479) (fun _ h9 => h9) rfl d_Mo_after_33 ?_
      refine lv_iload_n hx hb d_Mo_after_36 rfl (lv_at hl 1 rfl) ?_
      have hi_7 := h.1
      have h := h.2
      refine va_iald hx hb hK hP 5 0 rfl rfl hi_7 d_Mo_after_37 ?_
      refine lv_topi (fun y_8 ey_8 => ?_)
      have h := h y_8 ey_8
      refine lv_aload_n hx hb d_Mo_after_38 rfl (lv_at hl 0 rfl) ?_
      refine va_get (D := (dC, dI)) (ci := 6) (v := .ref qu_sideOf) (C := R_Mo) (T := T_Mo) (N := 33) hx hb hts in_Mo hown hK hP 0 rfl rfl 16 (by decide) (hts _ w_479) (fun _ h9 => h9) rfl d_Mo_after_39 ?_
      refine lv_iload_n hx hb d_Mo_after_42 rfl (lv_at hl 2 rfl) ?_
      have hi_9 := h.1
      have h := h.2
      refine va_iald hx hb hK hP 5 0 rfl rfl hi_9 d_Mo_after_43 ?_
      refine lv_topi (fun y_10 ey_10 => ?_)
      have h := h y_10 ey_10
      refine call_V_i (As := [.int 0, .int y_8, .int y_10]) (rest := []) C0 hP hD hS [0, 2, 3, 4] [1, 5, 6] [3, 0, 4, 5, 6, 1, 2] [(qu_length, .inl (cI, 16, .inl au_length)), (qu_sideOf, .inl (cI, 64, .inl au_sideOf)), (qu_within, .inl (cI, 64, .inl au_within))] (fun (v : Unit) (b : Unit) => (W_Mo_after cI cC cB qu qu_length qu_links qu_from qu_to qu_sideOf qu_within qu_text qu_segments qu_names qu_nameSize qu_bases qu_paths qu_titles qu_titleSize qu_steps qu_step qu_read qu_cost qu_walk qu_edits qu_said fu_size fu_places fu_reads fu_there fu_total fu_walked fu_edited fu_written fu_at fu_end fu_began fu_many au_length au_links au_from au_to au_sideOf au_within)) (ci := 6) rfl rfl (k_Mo_linked l dC dI cI cC cB _ qu qu_links qu_from qu_to qu_text qu_segments qu_names qu_nameSize qu_bases qu_length qu_paths qu_titles qu_titleSize qu_steps qu_step qu_sideOf qu_within qu_read qu_cost qu_walk qu_edits qu_said fu_size fu_places fu_reads fu_there fu_total fu_walked fu_edited fu_written fu_at fu_end fu_began fu_many au_links au_from au_to 0 y_8 y_10 h) (g_V w_445 w_446 w_447 w_418 w_444) 3 rfl (by decide +kernel) rfl rfl ⟨Nat.le_of_ble_eq_true rfl, Nat.le_of_ble_eq_true rfl⟩ rfl rfl (by decide) (by decide) (by decide) (by decide) (fun _ _ => rfl) hl.1 rfl (Nat.le_of_ble_eq_true rfl) d_Mo_after_44 ⟨Nat.le_of_ble_eq_true rfl, Nat.le_of_ble_eq_true rfl⟩ (fun r_12 v_11 _ H locs h hP hD hS => ?_)
      have hP : va_P (dC, dI) cls (W_Mo_after cI cC cB qu qu_length qu_links qu_from qu_to qu_sideOf qu_within qu_text qu_segments qu_names qu_nameSize qu_bases qu_paths qu_titles qu_titleSize qu_steps qu_step qu_read qu_cost qu_walk qu_edits qu_said fu_size fu_places fu_reads fu_there fu_total fu_walked fu_edited fu_written fu_at fu_end fu_began fu_many au_length au_links au_from au_to au_sideOf au_within) H := hP
      have hD : va_D A (W_Mo_after cI cC cB qu qu_length qu_links qu_from qu_to qu_sideOf qu_within qu_text qu_segments qu_names qu_nameSize qu_bases qu_paths qu_titles qu_titleSize qu_steps qu_step qu_read qu_cost qu_walk qu_edits qu_said fu_size fu_places fu_reads fu_there fu_total fu_walked fu_edited fu_written fu_at fu_end fu_began fu_many au_length au_links au_from au_to au_sideOf au_within) := hD
      refine lv_if_eq (tgt := 54) hx hb d_Mo_after_47 (by decide) (fun c_13 => ?_) (fun c_13 => ?_)
      · have h := h.1 c_13
        refine lv_iconst (v := 0) hx hb d_Mo_after_54 (by decide) ?_
        exact hret () () 0 _ _ _ _ rfl h hP hD hS d_Mo_after_55
      · have h := h.2 c_13
        refine lv_iconst (v := 1) hx hb d_Mo_after_50 (by decide) ?_
        refine lv_goto (tgt := 55) hx hb d_Mo_after_51 (by decide) ?_
        exact hret () () 1 _ _ _ _ rfl h hP hD hS d_Mo_after_55
  · have h := h.1 c_3
    refine lv_iload_n hx hb d_Mo_after_8 rfl (lv_at hl 2 rfl) ?_
    refine lv_iload_n hx hb d_Mo_after_9 rfl (lv_at hl 1 rfl) ?_
    refine lv_iconst (v := 1) hx hb d_Mo_after_10 (by decide) ?_
    refine lv_iadd hx hb d_Mo_after_11 ?_
    refine lv_topi (fun x_14 ex_14 => ?_)
    have h := h x_14 ex_14
    refine lv_icmp_ne (tgt := 19) hx hb d_Mo_after_12 (by decide) (fun c_15 => ?_) (fun c_15 => ?_)
    · have h := h.2 c_15
      refine lv_iconst (v := 0) hx hb d_Mo_after_19 (by decide) ?_
      exact hret () () 0 _ _ _ _ rfl h hP hD hS d_Mo_after_20
    · have h := h.1 c_15
      refine lv_iconst (v := 1) hx hb d_Mo_after_15 (by decide) ?_
      refine lv_goto (tgt := 20) hx hb d_Mo_after_16 (by decide) ?_
      exact hret () () 1 _ _ _ _ rfl h hP hD hS d_Mo_after_20
abbrev W_Mo_follows (cI cC cB : ClassId) (qu : Nat) (qu_length : Nat) (qu_links : Nat) (qu_from : Nat) (qu_to : Nat) (qu_sideOf : Nat) (qu_within : Nat) (qu_text : Nat) (qu_segments : Nat) (qu_names : Nat) (qu_nameSize : Nat) (qu_bases : Nat) (qu_paths : Nat) (qu_titles : Nat) (qu_titleSize : Nat) (qu_steps : Nat) (qu_step : Nat) (qu_read : Nat) (qu_cost : Nat) (qu_walk : Nat) (qu_edits : Nat) (qu_said : Nat) (fu_size : Int32) (fu_places : Int32) (fu_reads : Int32) (fu_there : Int32) (fu_total : Int32) (fu_walked : Int32) (fu_edited : Int32) (fu_written : Int32) (fu_at : Int32) (fu_end : Int32) (fu_began : Int32) (fu_many : Int32) (au_length : Nat → Int32) (au_links : Nat → Int32) (au_from : Nat → Int32) (au_to : Nat → Int32) (au_sideOf : Nat → Int32) (au_within : Nat → Int32) : va_W := [(qu, .inr (6, [.int fu_size, .ref qu_text, .ref qu_segments, .ref qu_names, .ref qu_nameSize, .ref qu_bases, .ref qu_length, .ref qu_links, .ref qu_from, .ref qu_to, .ref qu_paths, .ref qu_titles, .ref qu_titleSize, .ref qu_steps, .ref qu_step, .int fu_places, .ref qu_sideOf, .ref qu_within, .int fu_reads, .ref qu_read, .ref qu_cost, .int fu_there, .int fu_total, .int fu_walked, .ref qu_walk, .int fu_edited, .ref qu_edits, .int fu_written, .ref qu_said, .int fu_at, .int fu_end, .int fu_began, .int fu_many])), (qu_length, .inl (cI, 16, .inl au_length)), (qu_links, .inl (cI, 2, .inl au_links)), (qu_from, .inl (cI, 24, .inl au_from)), (qu_to, .inl (cI, 24, .inl au_to)), (qu_sideOf, .inl (cI, 64, .inl au_sideOf)), (qu_within, .inl (cI, 64, .inl au_within))]
def wp_Mo_follows (Q : Int32 → Unit → Prop) (p1 : Int32) (p2 : Int32) (fu_places : Int32) (au_length : Nat → Int32) (au_links : Nat → Int32) (au_from : Nat → Int32) (au_to : Nat → Int32) (au_sideOf : Nat → Int32) (au_within : Nat → Int32) : Prop := wp_Mo_place (fun r_2 v_1 => ((r_2 = 0 → (Q 0 ())) ∧ (¬ r_2 = 0 → (wp_Mo_place (fun r_5 v_4 => ((r_5 = 0 → (Q 0 ())) ∧ (¬ r_5 = 0 → (wp_Mo_after (fun r_8 v_7 => ((r_8 = 0 → (Q 0 ())) ∧ (¬ r_8 = 0 → (Q 1 ())))) p1 p2 au_length au_links au_from au_to au_sideOf au_within)))) p2 fu_places)))) p1 fu_places
abbrev rm_Mo_follows : Room := { frames := 2, cells := 0, slots := 0, locals := 47 }
set_option maxHeartbeats 4000000 in
set_option maxRecDepth 100000 in
theorem k_Mo_follows (l : Launch) (dC : Nat → ClassId) (dI : Nat → Nat → Nat) (cI cC cB : ClassId) (sz : Nat) (qu : Nat) (qu_length : Nat) (qu_links : Nat) (qu_from : Nat) (qu_to : Nat) (qu_sideOf : Nat) (qu_within : Nat) (qu_text : Nat) (qu_segments : Nat) (qu_names : Nat) (qu_nameSize : Nat) (qu_bases : Nat) (qu_paths : Nat) (qu_titles : Nat) (qu_titleSize : Nat) (qu_steps : Nat) (qu_step : Nat) (qu_read : Nat) (qu_cost : Nat) (qu_walk : Nat) (qu_edits : Nat) (qu_said : Nat) (fu_size : Int32) (fu_places : Int32) (fu_reads : Int32) (fu_there : Int32) (fu_total : Int32) (fu_walked : Int32) (fu_edited : Int32) (fu_written : Int32) (fu_at : Int32) (fu_end : Int32) (fu_began : Int32) (fu_many : Int32) (au_length : Nat → Int32) (au_links : Nat → Int32) (au_from : Nat → Int32) (au_to : Nat → Int32) (au_sideOf : Nat → Int32) (au_within : Nat → Int32) (p1 : Int32) (p2 : Int32) {Q : Int32 → Unit → Prop} (h : wp_Mo_follows Q p1 p2 fu_places au_length au_links au_from au_to au_sideOf au_within) :
    CTi l y_Mo_follows (wM y_Mo_follows c_Mo_follows 3 (some .boolean)) rm_Mo_follows 0 0 (dC, dI) (tysL cI cC cB) [.ref qu, .int p1, .int p2] (W_Mo_follows cI cC cB qu qu_length qu_links qu_from qu_to qu_sideOf qu_within qu_text qu_segments qu_names qu_nameSize qu_bases qu_paths qu_titles qu_titleSize qu_steps qu_step qu_read qu_cost qu_walk qu_edits qu_said fu_size fu_places fu_reads fu_there fu_total fu_walked fu_edited fu_written fu_at fu_end fu_began fu_many au_length au_links au_from au_to au_sideOf au_within) sz Q (fun (v : Unit) (b : Unit) => (W_Mo_follows cI cC cB qu qu_length qu_links qu_from qu_to qu_sideOf qu_within qu_text qu_segments qu_names qu_nameSize qu_bases qu_paths qu_titles qu_titleSize qu_steps qu_step qu_read qu_cost qu_walk qu_edits qu_said fu_size fu_places fu_reads fu_there fu_total fu_walked fu_edited fu_written fu_at fu_end fu_began fu_many au_length au_links au_from au_to au_sideOf au_within)) := by
  refine CTi.std (by decide) (Nat.le_of_ble_eq_true rfl) ?_
  intro p e s m args below meth c A ls QF C0 hP hD hl hS hsz hnm hret
  obtain ⟨hx, hb, hr, hml, hown, hts, hlocks, hN, hA, hK⟩ := id C0
  have hown : s.vm.findClass R_Mo = some m.cls := hown
  have hl : lv_has ls 3 [(0, .ref qu), (1, .int p1), (2, .int p2)] := hl
  clear hsz hnm
  unfold wp_Mo_follows at h
  refine lv_aload_n hx hb d_Mo_follows_0 rfl (lv_at hl 0 rfl) ?_
  refine lv_iload_n hx hb d_Mo_follows_1 rfl (lv_at hl 1 rfl) ?_
  refine call_V_i (As := [.int p1]) (rest := []) C0 hP hD hS [0] [1, 2, 3, 4, 5, 6] [6, 0, 1, 2, 3, 4, 5] [(qu_length, .inl (cI, 16, .inl au_length)), (qu_links, .inl (cI, 2, .inl au_links)), (qu_from, .inl (cI, 24, .inl au_from)), (qu_to, .inl (cI, 24, .inl au_to)), (qu_sideOf, .inl (cI, 64, .inl au_sideOf)), (qu_within, .inl (cI, 64, .inl au_within))] (fun (v : Unit) (b : Unit) => (W_Mo_follows cI cC cB qu qu_length qu_links qu_from qu_to qu_sideOf qu_within qu_text qu_segments qu_names qu_nameSize qu_bases qu_paths qu_titles qu_titleSize qu_steps qu_step qu_read qu_cost qu_walk qu_edits qu_said fu_size fu_places fu_reads fu_there fu_total fu_walked fu_edited fu_written fu_at fu_end fu_began fu_many au_length au_links au_from au_to au_sideOf au_within)) (ci := 6) rfl rfl (k_Mo_place l dC dI cI cC cB _ qu qu_text qu_segments qu_names qu_nameSize qu_bases qu_length qu_links qu_from qu_to qu_paths qu_titles qu_titleSize qu_steps qu_step qu_sideOf qu_within qu_read qu_cost qu_walk qu_edits qu_said fu_size fu_places fu_reads fu_there fu_total fu_walked fu_edited fu_written fu_at fu_end fu_began fu_many p1 h) (g_V w_492 w_493 w_494 w_418 w_491) 1 rfl (by decide +kernel) rfl rfl ⟨Nat.le_of_ble_eq_true rfl, Nat.le_of_ble_eq_true rfl⟩ rfl rfl (by decide) (by decide) (by decide) (by decide) (fun _ _ => rfl) hl.1 rfl (Nat.le_of_ble_eq_true rfl) d_Mo_follows_2 ⟨Nat.le_of_ble_eq_true rfl, Nat.le_of_ble_eq_true rfl⟩ (fun r_2 v_1 _ H locs h hP hD hS => ?_)
  have hP : va_P (dC, dI) cls (W_Mo_follows cI cC cB qu qu_length qu_links qu_from qu_to qu_sideOf qu_within qu_text qu_segments qu_names qu_nameSize qu_bases qu_paths qu_titles qu_titleSize qu_steps qu_step qu_read qu_cost qu_walk qu_edits qu_said fu_size fu_places fu_reads fu_there fu_total fu_walked fu_edited fu_written fu_at fu_end fu_began fu_many au_length au_links au_from au_to au_sideOf au_within) H := hP
  have hD : va_D A (W_Mo_follows cI cC cB qu qu_length qu_links qu_from qu_to qu_sideOf qu_within qu_text qu_segments qu_names qu_nameSize qu_bases qu_paths qu_titles qu_titleSize qu_steps qu_step qu_read qu_cost qu_walk qu_edits qu_said fu_size fu_places fu_reads fu_there fu_total fu_walked fu_edited fu_written fu_at fu_end fu_began fu_many au_length au_links au_from au_to au_sideOf au_within) := hD
  refine lv_if_eq (tgt := 29) hx hb d_Mo_follows_5 (by decide) (fun c_3 => ?_) (fun c_3 => ?_)
  · have h := h.1 c_3
    refine lv_iconst (v := 0) hx hb d_Mo_follows_29 (by decide) ?_
    exact hret () () 0 _ _ _ _ rfl h hP hD hS d_Mo_follows_30
  · have h := h.2 c_3
    refine lv_aload_n hx hb d_Mo_follows_8 rfl (lv_at hl 0 rfl) ?_
    refine lv_iload_n hx hb d_Mo_follows_9 rfl (lv_at hl 2 rfl) ?_
    refine call_V_i (As := [.int p2]) (rest := []) C0 hP hD hS [0] [1, 2, 3, 4, 5, 6] [6, 0, 1, 2, 3, 4, 5] [(qu_length, .inl (cI, 16, .inl au_length)), (qu_links, .inl (cI, 2, .inl au_links)), (qu_from, .inl (cI, 24, .inl au_from)), (qu_to, .inl (cI, 24, .inl au_to)), (qu_sideOf, .inl (cI, 64, .inl au_sideOf)), (qu_within, .inl (cI, 64, .inl au_within))] (fun (v : Unit) (b : Unit) => (W_Mo_follows cI cC cB qu qu_length qu_links qu_from qu_to qu_sideOf qu_within qu_text qu_segments qu_names qu_nameSize qu_bases qu_paths qu_titles qu_titleSize qu_steps qu_step qu_read qu_cost qu_walk qu_edits qu_said fu_size fu_places fu_reads fu_there fu_total fu_walked fu_edited fu_written fu_at fu_end fu_began fu_many au_length au_links au_from au_to au_sideOf au_within)) (ci := 6) rfl rfl (k_Mo_place l dC dI cI cC cB _ qu qu_text qu_segments qu_names qu_nameSize qu_bases qu_length qu_links qu_from qu_to qu_paths qu_titles qu_titleSize qu_steps qu_step qu_sideOf qu_within qu_read qu_cost qu_walk qu_edits qu_said fu_size fu_places fu_reads fu_there fu_total fu_walked fu_edited fu_written fu_at fu_end fu_began fu_many p2 h) (g_V w_492 w_493 w_494 w_418 w_491) 1 rfl (by decide +kernel) rfl rfl ⟨Nat.le_of_ble_eq_true rfl, Nat.le_of_ble_eq_true rfl⟩ rfl rfl (by decide) (by decide) (by decide) (by decide) (fun _ _ => rfl) hl.1 rfl (Nat.le_of_ble_eq_true rfl) d_Mo_follows_10 ⟨Nat.le_of_ble_eq_true rfl, Nat.le_of_ble_eq_true rfl⟩ (fun r_5 v_4 _ H locs h hP hD hS => ?_)
    have hP : va_P (dC, dI) cls (W_Mo_follows cI cC cB qu qu_length qu_links qu_from qu_to qu_sideOf qu_within qu_text qu_segments qu_names qu_nameSize qu_bases qu_paths qu_titles qu_titleSize qu_steps qu_step qu_read qu_cost qu_walk qu_edits qu_said fu_size fu_places fu_reads fu_there fu_total fu_walked fu_edited fu_written fu_at fu_end fu_began fu_many au_length au_links au_from au_to au_sideOf au_within) H := hP
    have hD : va_D A (W_Mo_follows cI cC cB qu qu_length qu_links qu_from qu_to qu_sideOf qu_within qu_text qu_segments qu_names qu_nameSize qu_bases qu_paths qu_titles qu_titleSize qu_steps qu_step qu_read qu_cost qu_walk qu_edits qu_said fu_size fu_places fu_reads fu_there fu_total fu_walked fu_edited fu_written fu_at fu_end fu_began fu_many au_length au_links au_from au_to au_sideOf au_within) := hD
    refine lv_if_eq (tgt := 29) hx hb d_Mo_follows_13 (by decide) (fun c_6 => ?_) (fun c_6 => ?_)
    · have h := h.1 c_6
      refine lv_iconst (v := 0) hx hb d_Mo_follows_29 (by decide) ?_
      exact hret () () 0 _ _ _ _ rfl h hP hD hS d_Mo_follows_30
    · have h := h.2 c_6
      refine lv_aload_n hx hb d_Mo_follows_16 rfl (lv_at hl 0 rfl) ?_
      refine lv_iload_n hx hb d_Mo_follows_17 rfl (lv_at hl 1 rfl) ?_
      refine lv_iload_n hx hb d_Mo_follows_18 rfl (lv_at hl 2 rfl) ?_
      refine call_V_i (As := [.int p1, .int p2]) (rest := []) C0 hP hD hS [0, 1, 2, 3, 4, 5, 6] [] [0, 1, 2, 3, 4, 5, 6] [] (fun (v : Unit) (b : Unit) => (W_Mo_follows cI cC cB qu qu_length qu_links qu_from qu_to qu_sideOf qu_within qu_text qu_segments qu_names qu_nameSize qu_bases qu_paths qu_titles qu_titleSize qu_steps qu_step qu_read qu_cost qu_walk qu_edits qu_said fu_size fu_places fu_reads fu_there fu_total fu_walked fu_edited fu_written fu_at fu_end fu_began fu_many au_length au_links au_from au_to au_sideOf au_within)) (ci := 6) rfl rfl (k_Mo_after l dC dI cI cC cB _ qu qu_length qu_links qu_from qu_to qu_sideOf qu_within qu_text qu_segments qu_names qu_nameSize qu_bases qu_paths qu_titles qu_titleSize qu_steps qu_step qu_read qu_cost qu_walk qu_edits qu_said fu_size fu_places fu_reads fu_there fu_total fu_walked fu_edited fu_written fu_at fu_end fu_began fu_many au_length au_links au_from au_to au_sideOf au_within p1 p2 h) (g_V w_500 w_501 w_502 w_418 w_499) 2 rfl (by decide +kernel) rfl rfl ⟨Nat.le_of_ble_eq_true rfl, Nat.le_of_ble_eq_true rfl⟩ rfl rfl (by decide) (by decide) (by decide) (by decide) (fun _ _ => rfl) hl.1 rfl (Nat.le_of_ble_eq_true rfl) d_Mo_follows_19 ⟨Nat.le_of_ble_eq_true rfl, Nat.le_of_ble_eq_true rfl⟩ (fun r_8 v_7 _ H locs h hP hD hS => ?_)
      have hP : va_P (dC, dI) cls (W_Mo_follows cI cC cB qu qu_length qu_links qu_from qu_to qu_sideOf qu_within qu_text qu_segments qu_names qu_nameSize qu_bases qu_paths qu_titles qu_titleSize qu_steps qu_step qu_read qu_cost qu_walk qu_edits qu_said fu_size fu_places fu_reads fu_there fu_total fu_walked fu_edited fu_written fu_at fu_end fu_began fu_many au_length au_links au_from au_to au_sideOf au_within) H := hP
      have hD : va_D A (W_Mo_follows cI cC cB qu qu_length qu_links qu_from qu_to qu_sideOf qu_within qu_text qu_segments qu_names qu_nameSize qu_bases qu_paths qu_titles qu_titleSize qu_steps qu_step qu_read qu_cost qu_walk qu_edits qu_said fu_size fu_places fu_reads fu_there fu_total fu_walked fu_edited fu_written fu_at fu_end fu_began fu_many au_length au_links au_from au_to au_sideOf au_within) := hD
      refine lv_if_eq (tgt := 29) hx hb d_Mo_follows_22 (by decide) (fun c_9 => ?_) (fun c_9 => ?_)
      · have h := h.1 c_9
        refine lv_iconst (v := 0) hx hb d_Mo_follows_29 (by decide) ?_
        exact hret () () 0 _ _ _ _ rfl h hP hD hS d_Mo_follows_30
      · have h := h.2 c_9
        refine lv_iconst (v := 1) hx hb d_Mo_follows_25 (by decide) ?_
        refine lv_goto (tgt := 30) hx hb d_Mo_follows_26 (by decide) ?_
        exact hret () () 1 _ _ _ _ rfl h hP hD hS d_Mo_follows_30
abbrev W_Mo_read (cI cC cB : ClassId) (qu : Nat) (qu_read : Nat) (qu_text : Nat) (qu_segments : Nat) (qu_names : Nat) (qu_nameSize : Nat) (qu_bases : Nat) (qu_length : Nat) (qu_links : Nat) (qu_from : Nat) (qu_to : Nat) (qu_paths : Nat) (qu_titles : Nat) (qu_titleSize : Nat) (qu_steps : Nat) (qu_step : Nat) (qu_sideOf : Nat) (qu_within : Nat) (qu_cost : Nat) (qu_walk : Nat) (qu_edits : Nat) (qu_said : Nat) (fu_size : Int32) (fu_places : Int32) (fu_reads : Int32) (fu_there : Int32) (fu_total : Int32) (fu_walked : Int32) (fu_edited : Int32) (fu_written : Int32) (fu_at : Int32) (fu_end : Int32) (fu_began : Int32) (fu_many : Int32) (au_read : Nat → Int32) : va_W := [(qu, .inr (6, [.int fu_size, .ref qu_text, .ref qu_segments, .ref qu_names, .ref qu_nameSize, .ref qu_bases, .ref qu_length, .ref qu_links, .ref qu_from, .ref qu_to, .ref qu_paths, .ref qu_titles, .ref qu_titleSize, .ref qu_steps, .ref qu_step, .int fu_places, .ref qu_sideOf, .ref qu_within, .int fu_reads, .ref qu_read, .ref qu_cost, .int fu_there, .int fu_total, .int fu_walked, .ref qu_walk, .int fu_edited, .ref qu_edits, .int fu_written, .ref qu_said, .int fu_at, .int fu_end, .int fu_began, .int fu_many])), (qu_read, .inl (cC, 12, .inl au_read))]
def wp_Mo_read (Q : Int32 → (Int32 × (Nat → Int32)) → Prop) (p1 : Int32) (fu_reads : Int32) (au_read : Nat → Int32) : Prop := wp_Mo_isBase (fun r_2 v_1 => ((r_2 = 0 → (Q 0 (fu_reads, au_read))) ∧ (¬ r_2 = 0 → (((fu_reads = 12 → (Q 0 (fu_reads, au_read))) ∧ (¬ fu_reads = 12 → (vp_in fu_reads 12 ∧ (∀ au_read_6 : Nat → Int32, au_read_6 = upd au_read fu_reads.toNatClampNeg (vp_nar .char p1) → (∀ x_7 : Int32, x_7 = fu_reads + 1 → (Q 1 (x_7, au_read_6))))))))))) p1
abbrev rm_Mo_read : Room := { frames := 1, cells := 0, slots := 0, locals := 20 }
set_option maxHeartbeats 4000000 in
set_option maxRecDepth 100000 in
theorem k_Mo_read (l : Launch) (dC : Nat → ClassId) (dI : Nat → Nat → Nat) (cI cC cB : ClassId) (sz : Nat) (qu : Nat) (qu_read : Nat) (qu_text : Nat) (qu_segments : Nat) (qu_names : Nat) (qu_nameSize : Nat) (qu_bases : Nat) (qu_length : Nat) (qu_links : Nat) (qu_from : Nat) (qu_to : Nat) (qu_paths : Nat) (qu_titles : Nat) (qu_titleSize : Nat) (qu_steps : Nat) (qu_step : Nat) (qu_sideOf : Nat) (qu_within : Nat) (qu_cost : Nat) (qu_walk : Nat) (qu_edits : Nat) (qu_said : Nat) (fu_size : Int32) (fu_places : Int32) (fu_reads : Int32) (fu_there : Int32) (fu_total : Int32) (fu_walked : Int32) (fu_edited : Int32) (fu_written : Int32) (fu_at : Int32) (fu_end : Int32) (fu_began : Int32) (fu_many : Int32) (au_read : Nat → Int32) (p1 : Int32) {Q : Int32 → (Int32 × (Nat → Int32)) → Prop} (h : wp_Mo_read Q p1 fu_reads au_read) :
    CTi l y_Mo_read (wM y_Mo_read c_Mo_read 2 (some .boolean)) rm_Mo_read 0 0 (dC, dI) (tysL cI cC cB) [.ref qu, .int p1] (W_Mo_read cI cC cB qu qu_read qu_text qu_segments qu_names qu_nameSize qu_bases qu_length qu_links qu_from qu_to qu_paths qu_titles qu_titleSize qu_steps qu_step qu_sideOf qu_within qu_cost qu_walk qu_edits qu_said fu_size fu_places fu_reads fu_there fu_total fu_walked fu_edited fu_written fu_at fu_end fu_began fu_many au_read) sz Q (fun (v : Int32 × (Nat → Int32)) (b : Unit) => (W_Mo_read cI cC cB qu qu_read qu_text qu_segments qu_names qu_nameSize qu_bases qu_length qu_links qu_from qu_to qu_paths qu_titles qu_titleSize qu_steps qu_step qu_sideOf qu_within qu_cost qu_walk qu_edits qu_said fu_size fu_places v.1 fu_there fu_total fu_walked fu_edited fu_written fu_at fu_end fu_began fu_many v.2)) := by
  refine CTi.std (by decide) (Nat.le_of_ble_eq_true rfl) ?_
  intro p e s m args below meth c A ls QF C0 hP hD hl hS hsz hnm hret
  obtain ⟨hx, hb, hr, hml, hown, hts, hlocks, hN, hA, hK⟩ := id C0
  have hown : s.vm.findClass R_Mo = some m.cls := hown
  have hl : lv_has ls 2 [(0, .ref qu), (1, .int p1)] := hl
  clear hsz hnm
  unfold wp_Mo_read at h
  refine lv_iload_n hx hb d_Mo_read_0 rfl (lv_at hl 1 rfl) ?_
  refine call_S_i (As := [.int p1]) (rest := []) C0 hP hD hS [] [0, 1] [0, 1] [(qu, .inr (6, [.int fu_size, .ref qu_text, .ref qu_segments, .ref qu_names, .ref qu_nameSize, .ref qu_bases, .ref qu_length, .ref qu_links, .ref qu_from, .ref qu_to, .ref qu_paths, .ref qu_titles, .ref qu_titleSize, .ref qu_steps, .ref qu_step, .int fu_places, .ref qu_sideOf, .ref qu_within, .int fu_reads, .ref qu_read, .ref qu_cost, .int fu_there, .int fu_total, .int fu_walked, .ref qu_walk, .int fu_edited, .ref qu_edits, .int fu_written, .ref qu_said, .int fu_at, .int fu_end, .int fu_began, .int fu_many])), (qu_read, .inl (cC, 12, .inl au_read))] (fun (v : Unit) (b : Unit) => (W_Mo_read cI cC cB qu qu_read qu_text qu_segments qu_names qu_nameSize qu_bases qu_length qu_links qu_from qu_to qu_paths qu_titles qu_titleSize qu_steps qu_step qu_sideOf qu_within qu_cost qu_walk qu_edits qu_said fu_size fu_places fu_reads fu_there fu_total fu_walked fu_edited fu_written fu_at fu_end fu_began fu_many au_read)) (k_Mo_isBase l dC dI cI cC cB _ p1 h) (g_S w_469 w_470 w_418 w_468) 1 rfl (by decide +kernel) rfl rfl ⟨Nat.le_of_ble_eq_true rfl, Nat.le_of_ble_eq_true rfl⟩ rfl rfl (by decide) (by decide) (by decide) (by decide) (fun _ _ => rfl) hl.1 rfl (Nat.le_of_ble_eq_true rfl) d_Mo_read_1 ⟨Nat.le_of_ble_eq_true rfl, Nat.le_of_ble_eq_true rfl⟩ (fun r_2 v_1 _ H locs h hP hD hS => ?_)
  have hP : va_P (dC, dI) cls (W_Mo_read cI cC cB qu qu_read qu_text qu_segments qu_names qu_nameSize qu_bases qu_length qu_links qu_from qu_to qu_paths qu_titles qu_titleSize qu_steps qu_step qu_sideOf qu_within qu_cost qu_walk qu_edits qu_said fu_size fu_places fu_reads fu_there fu_total fu_walked fu_edited fu_written fu_at fu_end fu_began fu_many au_read) H := hP
  have hD : va_D A (W_Mo_read cI cC cB qu qu_read qu_text qu_segments qu_names qu_nameSize qu_bases qu_length qu_links qu_from qu_to qu_paths qu_titles qu_titleSize qu_steps qu_step qu_sideOf qu_within qu_cost qu_walk qu_edits qu_said fu_size fu_places fu_reads fu_there fu_total fu_walked fu_edited fu_written fu_at fu_end fu_began fu_many au_read) := hD
  refine lv_if_eq (tgt := 16) hx hb d_Mo_read_4 (by decide) (fun c_3 => ?_) (fun c_3 => ?_)
  · have h := h.1 c_3
    refine lv_iconst (v := 0) hx hb d_Mo_read_16 (by decide) ?_
    exact hret (fu_reads, au_read) () 0 _ _ _ _ rfl h hP hD hS d_Mo_read_17
  · have h := h.2 c_3
    refine lv_aload_n hx hb d_Mo_read_7 rfl (lv_at hl 0 rfl) ?_
    refine va_get (D := (dC, dI)) (ci := 6) (v := .int fu_reads) (C := R_Mo) (T := T_Mo) (N := 33) hx hb hts in_Mo hown hK hP 0 rfl rfl 18 (by decide) (hts _ w_503) (fun _ h9 => h9) rfl d_Mo_read_8 ?_
    refine lv_bipush (v := 12) hx hb d_Mo_read_11 (by decide) ?_
    refine lv_icmp_ne (tgt := 18) hx hb d_Mo_read_13 (by decide) (fun c_4 => ?_) (fun c_4 => ?_)
    · have h := h.2 c_4
      refine lv_aload_n hx hb d_Mo_read_18 rfl (lv_at hl 0 rfl) ?_
      refine va_get (D := (dC, dI)) (ci := 6) (v := .ref qu_read) (C := R_Mo) (T := T_Mo) (N := 33) hx hb hts in_Mo hown hK hP 0 rfl rfl 19 (by decide) (hts _ w_504) (fun _ h9 => h9) rfl d_Mo_read_19 ?_
      refine lv_aload_n hx hb d_Mo_read_22 rfl (lv_at hl 0 rfl) ?_
      refine va_get (D := (dC, dI)) (ci := 6) (v := .int fu_reads) (C := R_Mo) (T := T_Mo) (N := 33) hx hb hts in_Mo hown hK hP 0 rfl rfl 18 (by decide) (hts _ w_503) (fun _ h9 => h9) rfl d_Mo_read_23 ?_
      refine lv_iload_n hx hb d_Mo_read_26 rfl (lv_at hl 1 rfl) ?_
      have hi_5 := h.1
      have h := h.2
      refine va_cast hx hb hK hP hD hS 1 1 rfl rfl hi_5 d_Mo_read_27 (fun H locs hP hD hS => ?_)
      obtain ⟨au_read_6, eau_read_6⟩ : ∃ z : Nat → Int32, z = upd au_read fu_reads.toNatClampNeg (vp_nar .char p1) := ⟨_, rfl⟩
      have h := h au_read_6 eau_read_6
      have hP : va_P (dC, dI) cls (W_Mo_read cI cC cB qu qu_read qu_text qu_segments qu_names qu_nameSize qu_bases qu_length qu_links qu_from qu_to qu_paths qu_titles qu_titleSize qu_steps qu_step qu_sideOf qu_within qu_cost qu_walk qu_edits qu_said fu_size fu_places fu_reads fu_there fu_total fu_walked fu_edited fu_written fu_at fu_end fu_began fu_many au_read_6) H := by rw [eau_read_6]; exact hP
      have hD : va_D A (W_Mo_read cI cC cB qu qu_read qu_text qu_segments qu_names qu_nameSize qu_bases qu_length qu_links qu_from qu_to qu_paths qu_titles qu_titleSize qu_steps qu_step qu_sideOf qu_within qu_cost qu_walk qu_edits qu_said fu_size fu_places fu_reads fu_there fu_total fu_walked fu_edited fu_written fu_at fu_end fu_began fu_many au_read_6) := by rw [eau_read_6]; exact hD
      refine lv_aload_n hx hb d_Mo_read_28 rfl (lv_at hl 0 rfl) ?_
      refine lv_dup hx hb d_Mo_read_29 rfl ?_
      refine va_get (D := (dC, dI)) (ci := 6) (v := .int fu_reads) (C := R_Mo) (T := T_Mo) (N := 33) hx hb hts in_Mo hown hK hP 0 rfl rfl 18 (by decide) (hts _ w_503) (fun _ h9 => h9) rfl d_Mo_read_30 ?_
      refine lv_iconst (v := 1) hx hb d_Mo_read_33 (by decide) ?_
      refine lv_iadd hx hb d_Mo_read_34 ?_
      refine lv_topi (fun x_7 ex_7 => ?_)
      have h := h x_7 ex_7
      refine va_put (D := (dC, dI)) (ci := 6) (v := .int x_7) (ty := .int) (C := R_Mo) (T := T_Mo) (N := 33) hx hb hts in_Mo t_Mo t_Mo_ok n_Mo hown hK hP hD hS 0 rfl rfl 18 (by decide) (hts _ w_503) (fun _ h9 => h9) rfl (by decide +kernel) rfl rfl (Nat.le_of_ble_eq_true rfl) d_Mo_read_35 (fun H locs hP hD hS => ?_)
      have hP : va_P (dC, dI) cls (W_Mo_read cI cC cB qu qu_read qu_text qu_segments qu_names qu_nameSize qu_bases qu_length qu_links qu_from qu_to qu_paths qu_titles qu_titleSize qu_steps qu_step qu_sideOf qu_within qu_cost qu_walk qu_edits qu_said fu_size fu_places x_7 fu_there fu_total fu_walked fu_edited fu_written fu_at fu_end fu_began fu_many au_read_6) H := hP
      have hD : va_D A (W_Mo_read cI cC cB qu qu_read qu_text qu_segments qu_names qu_nameSize qu_bases qu_length qu_links qu_from qu_to qu_paths qu_titles qu_titleSize qu_steps qu_step qu_sideOf qu_within qu_cost qu_walk qu_edits qu_said fu_size fu_places x_7 fu_there fu_total fu_walked fu_edited fu_written fu_at fu_end fu_began fu_many au_read_6) := hD
      refine lv_iconst (v := 1) hx hb d_Mo_read_38 (by decide) ?_
      exact hret (x_7, au_read_6) () 1 _ _ _ _ rfl h hP hD hS d_Mo_read_39
    · have h := h.1 c_4
      refine lv_iconst (v := 0) hx hb d_Mo_read_16 (by decide) ?_
      exact hret (fu_reads, au_read) () 0 _ _ _ _ rfl h hP hD hS d_Mo_read_17
abbrev W_Mo_drop (cI cC cB : ClassId) (qu : Nat) (qu_text : Nat) (qu_segments : Nat) (qu_names : Nat) (qu_nameSize : Nat) (qu_bases : Nat) (qu_length : Nat) (qu_links : Nat) (qu_from : Nat) (qu_to : Nat) (qu_paths : Nat) (qu_titles : Nat) (qu_titleSize : Nat) (qu_steps : Nat) (qu_step : Nat) (qu_sideOf : Nat) (qu_within : Nat) (qu_read : Nat) (qu_cost : Nat) (qu_walk : Nat) (qu_edits : Nat) (qu_said : Nat) (fu_size : Int32) (fu_places : Int32) (fu_reads : Int32) (fu_there : Int32) (fu_total : Int32) (fu_walked : Int32) (fu_edited : Int32) (fu_written : Int32) (fu_at : Int32) (fu_end : Int32) (fu_began : Int32) (fu_many : Int32) : va_W := [(qu, .inr (6, [.int fu_size, .ref qu_text, .ref qu_segments, .ref qu_names, .ref qu_nameSize, .ref qu_bases, .ref qu_length, .ref qu_links, .ref qu_from, .ref qu_to, .ref qu_paths, .ref qu_titles, .ref qu_titleSize, .ref qu_steps, .ref qu_step, .int fu_places, .ref qu_sideOf, .ref qu_within, .int fu_reads, .ref qu_read, .ref qu_cost, .int fu_there, .int fu_total, .int fu_walked, .ref qu_walk, .int fu_edited, .ref qu_edits, .int fu_written, .ref qu_said, .int fu_at, .int fu_end, .int fu_began, .int fu_many]))]
def wp_Mo_drop (Q : Int32 → Prop)  (fu_reads : Int32) : Prop := Q 0
abbrev rm_Mo_drop : Room := { frames := 0, cells := 0, slots := 0, locals := 0 }
set_option maxHeartbeats 4000000 in
set_option maxRecDepth 100000 in
theorem k_Mo_drop (l : Launch) (dC : Nat → ClassId) (dI : Nat → Nat → Nat) (cI cC cB : ClassId) (sz : Nat) (qu : Nat) (qu_text : Nat) (qu_segments : Nat) (qu_names : Nat) (qu_nameSize : Nat) (qu_bases : Nat) (qu_length : Nat) (qu_links : Nat) (qu_from : Nat) (qu_to : Nat) (qu_paths : Nat) (qu_titles : Nat) (qu_titleSize : Nat) (qu_steps : Nat) (qu_step : Nat) (qu_sideOf : Nat) (qu_within : Nat) (qu_read : Nat) (qu_cost : Nat) (qu_walk : Nat) (qu_edits : Nat) (qu_said : Nat) (fu_size : Int32) (fu_places : Int32) (fu_reads : Int32) (fu_there : Int32) (fu_total : Int32) (fu_walked : Int32) (fu_edited : Int32) (fu_written : Int32) (fu_at : Int32) (fu_end : Int32) (fu_began : Int32) (fu_many : Int32)  {Q : Int32 → Prop} (h : wp_Mo_drop Q  fu_reads) :
    CTv l y_Mo_drop (wM y_Mo_drop c_Mo_drop 1 none) rm_Mo_drop 0 0 (dC, dI) (tysL cI cC cB) [.ref qu] (W_Mo_drop cI cC cB qu qu_text qu_segments qu_names qu_nameSize qu_bases qu_length qu_links qu_from qu_to qu_paths qu_titles qu_titleSize qu_steps qu_step qu_sideOf qu_within qu_read qu_cost qu_walk qu_edits qu_said fu_size fu_places fu_reads fu_there fu_total fu_walked fu_edited fu_written fu_at fu_end fu_began fu_many) sz Q (fun (v : Int32) (b : Unit) => (W_Mo_drop cI cC cB qu qu_text qu_segments qu_names qu_nameSize qu_bases qu_length qu_links qu_from qu_to qu_paths qu_titles qu_titleSize qu_steps qu_step qu_sideOf qu_within qu_read qu_cost qu_walk qu_edits qu_said fu_size fu_places v fu_there fu_total fu_walked fu_edited fu_written fu_at fu_end fu_began fu_many)) := by
  refine CTv.std (by decide) (Nat.le_of_ble_eq_true rfl) ?_
  intro p e s m args below meth c A ls QF C0 hP hD hl hS hsz hnm hret
  obtain ⟨hx, hb, hr, hml, hown, hts, hlocks, hN, hA, hK⟩ := id C0
  have hown : s.vm.findClass R_Mo = some m.cls := hown
  have hl : lv_has ls 1 [(0, .ref qu)] := hl
  clear hsz hnm
  unfold wp_Mo_drop at h
  refine lv_aload_n hx hb d_Mo_drop_0 rfl (lv_at hl 0 rfl) ?_
  refine lv_iconst (v := 0) hx hb d_Mo_drop_1 (by decide) ?_
  refine va_put (D := (dC, dI)) (ci := 6) (v := .int 0) (ty := .int) (C := R_Mo) (T := T_Mo) (N := 33) hx hb hts in_Mo t_Mo t_Mo_ok n_Mo hown hK hP hD hS 0 rfl rfl 18 (by decide) (hts _ w_503) (fun _ h9 => h9) rfl (by decide +kernel) rfl rfl (Nat.le_of_ble_eq_true rfl) d_Mo_drop_2 (fun H locs hP hD hS => ?_)
  have hP : va_P (dC, dI) cls (W_Mo_drop cI cC cB qu qu_text qu_segments qu_names qu_nameSize qu_bases qu_length qu_links qu_from qu_to qu_paths qu_titles qu_titleSize qu_steps qu_step qu_sideOf qu_within qu_read qu_cost qu_walk qu_edits qu_said fu_size fu_places 0 fu_there fu_total fu_walked fu_edited fu_written fu_at fu_end fu_began fu_many) H := hP
  have hD : va_D A (W_Mo_drop cI cC cB qu qu_text qu_segments qu_names qu_nameSize qu_bases qu_length qu_links qu_from qu_to qu_paths qu_titles qu_titleSize qu_steps qu_step qu_sideOf qu_within qu_read qu_cost qu_walk qu_edits qu_said fu_size fu_places 0 fu_there fu_total fu_walked fu_edited fu_written fu_at fu_end fu_began fu_many) := hD
  exact hret 0 () _ _ _ _ h hP hD hS d_Mo_drop_5
