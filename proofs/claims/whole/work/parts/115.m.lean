abbrev W_Mo_lower (cI cC cB : ClassId) (qu : Nat) (qu_bases : Nat) (qu_length : Nat) (qu_links : Nat) (qu_from : Nat) (qu_to : Nat) (qu_sideOf : Nat) (qu_within : Nat) (qu_read : Nat) (qu_cost : Nat) (qu_text : Nat) (qu_segments : Nat) (qu_names : Nat) (qu_nameSize : Nat) (qu_paths : Nat) (qu_titles : Nat) (qu_titleSize : Nat) (qu_steps : Nat) (qu_step : Nat) (qu_walk : Nat) (qu_edits : Nat) (qu_said : Nat) (fu_size : Int32) (fu_places : Int32) (fu_reads : Int32) (fu_there : Int32) (fu_total : Int32) (fu_walked : Int32) (fu_edited : Int32) (fu_written : Int32) (fu_at : Int32) (fu_end : Int32) (fu_began : Int32) (fu_many : Int32) (au_bases : Nat → Int32) (au_length : Nat → Int32) (au_links : Nat → Int32) (au_from : Nat → Int32) (au_to : Nat → Int32) (au_sideOf : Nat → Int32) (au_within : Nat → Int32) (au_read : Nat → Int32) (au_cost : Nat → Int32) : va_W := [(qu, .inr (6, [.int fu_size, .ref qu_text, .ref qu_segments, .ref qu_names, .ref qu_nameSize, .ref qu_bases, .ref qu_length, .ref qu_links, .ref qu_from, .ref qu_to, .ref qu_paths, .ref qu_titles, .ref qu_titleSize, .ref qu_steps, .ref qu_step, .int fu_places, .ref qu_sideOf, .ref qu_within, .int fu_reads, .ref qu_read, .ref qu_cost, .int fu_there, .int fu_total, .int fu_walked, .ref qu_walk, .int fu_edited, .ref qu_edits, .int fu_written, .ref qu_said, .int fu_at, .int fu_end, .int fu_began, .int fu_many])), (qu_bases, .inl (cC, 64, .inl au_bases)), (qu_length, .inl (cI, 16, .inl au_length)), (qu_links, .inl (cI, 2, .inl au_links)), (qu_from, .inl (cI, 24, .inl au_from)), (qu_to, .inl (cI, 24, .inl au_to)), (qu_sideOf, .inl (cI, 64, .inl au_sideOf)), (qu_within, .inl (cI, 64, .inl au_within)), (qu_read, .inl (cC, 12, .inl au_read)), (qu_cost, .inl (cI, 832, .inl au_cost))]
def w_Mo_lower_210 (Q : Int32 → Unit → Prop) (K_154 : Int32 → Int32 → Prop) (p1 : Int32) (p2 : Int32) (fu_places : Int32) (au_bases : Nat → Int32) (au_length : Nat → Int32) (au_links : Nat → Int32) (au_from : Nat → Int32) (au_to : Nat → Int32) (au_sideOf : Nat → Int32) (au_within : Nat → Int32) (au_read : Nat → Int32) (au_cost : Nat → Int32) (x3 : Int32) (x4 : Int32) : Prop := ∀ x4_1 : Int32, x4_1 = x4 + 1 → (K_154 x3 x4_1)
def w_Mo_lower_209 (Q : Int32 → Unit → Prop) (K_154 : Int32 → Int32 → Prop) (p1 : Int32) (p2 : Int32) (fu_places : Int32) (au_bases : Nat → Int32) (au_length : Nat → Int32) (au_links : Nat → Int32) (au_from : Nat → Int32) (au_to : Nat → Int32) (au_sideOf : Nat → Int32) (au_within : Nat → Int32) (au_read : Nat → Int32) (au_cost : Nat → Int32) (x4 : Int32) (s0 : Int32) : Prop := w_Mo_lower_210 Q K_154 p1 p2 fu_places au_bases au_length au_links au_from au_to au_sideOf au_within au_read au_cost s0 x4
def w_Mo_lower_154B (Q : Int32 → Unit → Prop)  (K_154 : Int32 → Int32 → Prop) (p1 : Int32) (p2 : Int32) (fu_places : Int32) (au_bases : Nat → Int32) (au_length : Nat → Int32) (au_links : Nat → Int32) (au_from : Nat → Int32) (au_to : Nat → Int32) (au_sideOf : Nat → Int32) (au_within : Nat → Int32) (au_read : Nat → Int32) (au_cost : Nat → Int32) (x3 : Int32) (x4 : Int32) : Prop := ((fu_places ≤ x4 → (Q x3 ())) ∧ (¬ fu_places ≤ x4 → (wp_Mo_after (fun r_4 v_3 => ((r_4 = 0 → (w_Mo_lower_210 Q K_154 p1 p2 fu_places au_bases au_length au_links au_from au_to au_sideOf au_within au_read au_cost x3 x4)) ∧ (¬ r_4 = 0 → (∀ x_6 : Int32, x_6 = (64 * p1) + x4 → (vp_in x_6 832 ∧ (∀ x_8 : Int32, x_8 = (au_cost x_6.toNatClampNeg) + 1 → (((x3 ≤ x_8 → (w_Mo_lower_209 Q K_154 p1 p2 fu_places au_bases au_length au_links au_from au_to au_sideOf au_within au_read au_cost x4 x3)) ∧ (¬ x3 ≤ x_8 → (∀ x_10 : Int32, x_10 = (64 * p1) + x4 → (vp_in x_10 832 ∧ (∀ x_12 : Int32, x_12 = (au_cost x_10.toNatClampNeg) + 1 → (w_Mo_lower_209 Q K_154 p1 p2 fu_places au_bases au_length au_links au_from au_to au_sideOf au_within au_read au_cost x4 x_12))))))))))))) x4 p2 au_length au_links au_from au_to au_sideOf au_within)))
def w_Mo_lower_154 (Q : Int32 → Unit → Prop)  (p1 : Int32) (p2 : Int32) (fu_places : Int32) (au_bases : Nat → Int32) (au_length : Nat → Int32) (au_links : Nat → Int32) (au_from : Nat → Int32) (au_to : Nat → Int32) (au_sideOf : Nat → Int32) (au_within : Nat → Int32) (au_read : Nat → Int32) (au_cost : Nat → Int32) : Nat → Int32 → Int32 → Prop
  | 0 => fun _ _ => False
  | n + 1 => fun x3 x4 => w_Mo_lower_154B Q  (w_Mo_lower_154 Q  p1 p2 fu_places au_bases au_length au_links au_from au_to au_sideOf au_within au_read au_cost n) p1 p2 fu_places au_bases au_length au_links au_from au_to au_sideOf au_within au_read au_cost x3 x4
def w_Mo_lower_151 (Q : Int32 → Unit → Prop)  (p1 : Int32) (p2 : Int32) (fu_places : Int32) (au_bases : Nat → Int32) (au_length : Nat → Int32) (au_links : Nat → Int32) (au_from : Nat → Int32) (au_to : Nat → Int32) (au_sideOf : Nat → Int32) (au_within : Nat → Int32) (au_read : Nat → Int32) (au_cost : Nat → Int32) (x3 : Int32) : Prop := ∃ fu_154 : Nat, w_Mo_lower_154 Q p1 p2 fu_places au_bases au_length au_links au_from au_to au_sideOf au_within au_read au_cost fu_154 x3 0
def w_Mo_lower_145 (Q : Int32 → Unit → Prop) (K_81 : Int32 → Int32 → Int32 → Prop) (p1 : Int32) (p2 : Int32) (fu_places : Int32) (au_bases : Nat → Int32) (au_length : Nat → Int32) (au_links : Nat → Int32) (au_from : Nat → Int32) (au_to : Nat → Int32) (au_sideOf : Nat → Int32) (au_within : Nat → Int32) (au_read : Nat → Int32) (au_cost : Nat → Int32) (x3 : Int32) (x4 : Int32) (x5 : Int32) : Prop := ∀ x5_13 : Int32, x5_13 = x5 + 1 → (K_81 x3 x4 x5_13)
def w_Mo_lower_144 (Q : Int32 → Unit → Prop) (K_81 : Int32 → Int32 → Int32 → Prop) (p1 : Int32) (p2 : Int32) (fu_places : Int32) (au_bases : Nat → Int32) (au_length : Nat → Int32) (au_links : Nat → Int32) (au_from : Nat → Int32) (au_to : Nat → Int32) (au_sideOf : Nat → Int32) (au_within : Nat → Int32) (au_read : Nat → Int32) (au_cost : Nat → Int32) (x4 : Int32) (x5 : Int32) (s0 : Int32) : Prop := w_Mo_lower_145 Q K_81 p1 p2 fu_places au_bases au_length au_links au_from au_to au_sideOf au_within au_read au_cost s0 x4 x5
def w_Mo_lower_81B (Q : Int32 → Unit → Prop)  (K_81 : Int32 → Int32 → Int32 → Prop) (p1 : Int32) (p2 : Int32) (fu_places : Int32) (au_bases : Nat → Int32) (au_length : Nat → Int32) (au_links : Nat → Int32) (au_from : Nat → Int32) (au_to : Nat → Int32) (au_sideOf : Nat → Int32) (au_within : Nat → Int32) (au_read : Nat → Int32) (au_cost : Nat → Int32) (x3 : Int32) (x4 : Int32) (x5 : Int32) : Prop := ((fu_places ≤ x5 → (w_Mo_lower_151 Q p1 p2 fu_places au_bases au_length au_links au_from au_to au_sideOf au_within au_read au_cost x3)) ∧ (¬ fu_places ≤ x5 → (wp_Mo_after (fun r_16 v_15 => ((r_16 = 0 → (w_Mo_lower_145 Q K_81 p1 p2 fu_places au_bases au_length au_links au_from au_to au_sideOf au_within au_read au_cost x3 x4 x5)) ∧ (¬ r_16 = 0 → (∀ x_18 : Int32, x_18 = ((64 * p1) - 64) + x5 → (vp_in x_18 832 ∧ (∀ x_20 : Int32, x_20 = (au_cost x_18.toNatClampNeg) + x4 → (((x3 ≤ x_20 → (w_Mo_lower_144 Q K_81 p1 p2 fu_places au_bases au_length au_links au_from au_to au_sideOf au_within au_read au_cost x4 x5 x3)) ∧ (¬ x3 ≤ x_20 → (∀ x_22 : Int32, x_22 = ((64 * p1) - 64) + x5 → (vp_in x_22 832 ∧ (∀ x_24 : Int32, x_24 = (au_cost x_22.toNatClampNeg) + x4 → (w_Mo_lower_144 Q K_81 p1 p2 fu_places au_bases au_length au_links au_from au_to au_sideOf au_within au_read au_cost x4 x5 x_24))))))))))))) x5 p2 au_length au_links au_from au_to au_sideOf au_within)))
def w_Mo_lower_81 (Q : Int32 → Unit → Prop)  (p1 : Int32) (p2 : Int32) (fu_places : Int32) (au_bases : Nat → Int32) (au_length : Nat → Int32) (au_links : Nat → Int32) (au_from : Nat → Int32) (au_to : Nat → Int32) (au_sideOf : Nat → Int32) (au_within : Nat → Int32) (au_read : Nat → Int32) (au_cost : Nat → Int32) : Nat → Int32 → Int32 → Int32 → Prop
  | 0 => fun _ _ _ => False
  | n + 1 => fun x3 x4 x5 => w_Mo_lower_81B Q  (w_Mo_lower_81 Q  p1 p2 fu_places au_bases au_length au_links au_from au_to au_sideOf au_within au_read au_cost n) p1 p2 fu_places au_bases au_length au_links au_from au_to au_sideOf au_within au_read au_cost x3 x4 x5
def w_Mo_lower_77 (Q : Int32 → Unit → Prop)  (p1 : Int32) (p2 : Int32) (fu_places : Int32) (au_bases : Nat → Int32) (au_length : Nat → Int32) (au_links : Nat → Int32) (au_from : Nat → Int32) (au_to : Nat → Int32) (au_sideOf : Nat → Int32) (au_within : Nat → Int32) (au_read : Nat → Int32) (au_cost : Nat → Int32) (x4 : Int32) (s0 : Int32) : Prop := ∃ fu_81 : Nat, w_Mo_lower_81 Q p1 p2 fu_places au_bases au_length au_links au_from au_to au_sideOf au_within au_read au_cost fu_81 s0 x4 0
def w_Mo_lower_36 (Q : Int32 → Unit → Prop)  (p1 : Int32) (p2 : Int32) (fu_places : Int32) (au_bases : Nat → Int32) (au_length : Nat → Int32) (au_links : Nat → Int32) (au_from : Nat → Int32) (au_to : Nat → Int32) (au_sideOf : Nat → Int32) (au_within : Nat → Int32) (au_read : Nat → Int32) (au_cost : Nat → Int32) (x4 : Int32) (s0 : Int32) : Prop := ∀ x_25 : Int32, x_25 = ((64 * p1) - 64) + p2 → (vp_in x_25 832 ∧ (∀ x_27 : Int32, x_27 = (au_cost x_25.toNatClampNeg) + 1 → (((s0 ≤ x_27 → (w_Mo_lower_77 Q p1 p2 fu_places au_bases au_length au_links au_from au_to au_sideOf au_within au_read au_cost x4 s0)) ∧ (¬ s0 ≤ x_27 → (∀ x_29 : Int32, x_29 = ((64 * p1) - 64) + p2 → (vp_in x_29 832 ∧ (∀ x_31 : Int32, x_31 = (au_cost x_29.toNatClampNeg) + 1 → (w_Mo_lower_77 Q p1 p2 fu_places au_bases au_length au_links au_from au_to au_sideOf au_within au_read au_cost x4 x_31)))))))))
def wp_Mo_lower (Q : Int32 → Unit → Prop) (p1 : Int32) (p2 : Int32) (fu_places : Int32) (au_bases : Nat → Int32) (au_length : Nat → Int32) (au_links : Nat → Int32) (au_from : Nat → Int32) (au_to : Nat → Int32) (au_sideOf : Nat → Int32) (au_within : Nat → Int32) (au_read : Nat → Int32) (au_cost : Nat → Int32) : Prop := ∀ x_32 : Int32, x_32 = p1 + 1 → (((p1 ≤ 0 → (w_Mo_lower_151 Q p1 p2 fu_places au_bases au_length au_links au_from au_to au_sideOf au_within au_read au_cost x_32)) ∧ (¬ p1 ≤ 0 → (wp_Mo_change (fun r_35 v_34 => ∀ x_36 : Int32, x_36 = (p1 - 1) + r_35 → (((x_32 ≤ x_36 → (w_Mo_lower_36 Q p1 p2 fu_places au_bases au_length au_links au_from au_to au_sideOf au_within au_read au_cost r_35 x_32)) ∧ (¬ x_32 ≤ x_36 → (∀ x_38 : Int32, x_38 = (p1 - 1) + r_35 → (w_Mo_lower_36 Q p1 p2 fu_places au_bases au_length au_links au_from au_to au_sideOf au_within au_read au_cost r_35 x_38)))))) p1 p2 au_bases au_length au_sideOf au_within au_read))))
abbrev rm_Mo_lower : Room := { frames := 2, cells := 0, slots := 0, locals := 47 }
set_option maxHeartbeats 4000000 in
set_option maxRecDepth 100000 in
theorem k_Mo_lower (l : Launch) (dC : Nat → ClassId) (dI : Nat → Nat → Nat) (cI cC cB : ClassId) (sz : Nat) (qu : Nat) (qu_bases : Nat) (qu_length : Nat) (qu_links : Nat) (qu_from : Nat) (qu_to : Nat) (qu_sideOf : Nat) (qu_within : Nat) (qu_read : Nat) (qu_cost : Nat) (qu_text : Nat) (qu_segments : Nat) (qu_names : Nat) (qu_nameSize : Nat) (qu_paths : Nat) (qu_titles : Nat) (qu_titleSize : Nat) (qu_steps : Nat) (qu_step : Nat) (qu_walk : Nat) (qu_edits : Nat) (qu_said : Nat) (fu_size : Int32) (fu_places : Int32) (fu_reads : Int32) (fu_there : Int32) (fu_total : Int32) (fu_walked : Int32) (fu_edited : Int32) (fu_written : Int32) (fu_at : Int32) (fu_end : Int32) (fu_began : Int32) (fu_many : Int32) (au_bases : Nat → Int32) (au_length : Nat → Int32) (au_links : Nat → Int32) (au_from : Nat → Int32) (au_to : Nat → Int32) (au_sideOf : Nat → Int32) (au_within : Nat → Int32) (au_read : Nat → Int32) (au_cost : Nat → Int32) (p1 : Int32) (p2 : Int32) {Q : Int32 → Unit → Prop} (h : wp_Mo_lower Q p1 p2 fu_places au_bases au_length au_links au_from au_to au_sideOf au_within au_read au_cost) :
    CTi l y_Mo_lower (wM y_Mo_lower c_Mo_lower 6 (some .int)) rm_Mo_lower 0 0 (dC, dI) (tysL cI cC cB) [.ref qu, .int p1, .int p2] (W_Mo_lower cI cC cB qu qu_bases qu_length qu_links qu_from qu_to qu_sideOf qu_within qu_read qu_cost qu_text qu_segments qu_names qu_nameSize qu_paths qu_titles qu_titleSize qu_steps qu_step qu_walk qu_edits qu_said fu_size fu_places fu_reads fu_there fu_total fu_walked fu_edited fu_written fu_at fu_end fu_began fu_many au_bases au_length au_links au_from au_to au_sideOf au_within au_read au_cost) sz Q (fun (v : Unit) (b : Unit) => (W_Mo_lower cI cC cB qu qu_bases qu_length qu_links qu_from qu_to qu_sideOf qu_within qu_read qu_cost qu_text qu_segments qu_names qu_nameSize qu_paths qu_titles qu_titleSize qu_steps qu_step qu_walk qu_edits qu_said fu_size fu_places fu_reads fu_there fu_total fu_walked fu_edited fu_written fu_at fu_end fu_began fu_many au_bases au_length au_links au_from au_to au_sideOf au_within au_read au_cost)) := by
  refine CTi.std (by decide) (Nat.le_of_ble_eq_true rfl) ?_
  intro p e s m args below meth c A ls QF C0 hP hD hl hS hsz hnm hret
  obtain ⟨hx, hb, hr, hml, hown, hts, hlocks, hN, hA, hK⟩ := id C0
  have hown : s.vm.findClass R_Mo = some m.cls := hown
  have hl : lv_has ls 6 [(0, .ref qu), (1, .int p1), (2, .int p2)] := hl
  clear hsz hnm
  have blk_210 : ∀ (K_154 : Int32 → Int32 → Prop) (hK_154 : ∀ (x3 : Int32) (x4 : Int32)  (H : Heap) (locs : List Loc) (ls : Array Slot), K_154 x3 x4 → va_P (dC, dI) cls (W_Mo_lower cI cC cB qu qu_bases qu_length qu_links qu_from qu_to qu_sideOf qu_within qu_read qu_cost qu_text qu_segments qu_names qu_nameSize qu_paths qu_titles qu_titleSize qu_steps qu_step qu_walk qu_edits qu_said fu_size fu_places fu_reads fu_there fu_total fu_walked fu_edited fu_written fu_at fu_end fu_began fu_many au_bases au_length au_links au_from au_to au_sideOf au_within au_read au_cost) H → va_D A (W_Mo_lower cI cC cB qu qu_bases qu_length qu_links qu_from qu_to qu_sideOf qu_within qu_read qu_cost qu_text qu_segments qu_names qu_nameSize qu_paths qu_titles qu_titleSize qu_steps qu_step qu_walk qu_edits qu_said fu_size fu_places fu_reads fu_there fu_total fu_walked fu_edited fu_written fu_at fu_end fu_began fu_many au_bases au_length au_links au_from au_to au_sideOf au_within au_read au_cost) → va_S A s.heap H locs → lv_has ls 6 [(0, .ref qu), (1, .int p1), (2, .int p2), (3, .int x3), (4, .int x4)] → W p l e rm_Mo_lower s m args below meth c H locs 0 0 QF (F0 m 154 ls [])) (x3 : Int32) (x4 : Int32)  (H : Heap) (locs : List Loc) (ls : Array Slot), w_Mo_lower_210 Q K_154 p1 p2 fu_places au_bases au_length au_links au_from au_to au_sideOf au_within au_read au_cost x3 x4 → va_P (dC, dI) cls (W_Mo_lower cI cC cB qu qu_bases qu_length qu_links qu_from qu_to qu_sideOf qu_within qu_read qu_cost qu_text qu_segments qu_names qu_nameSize qu_paths qu_titles qu_titleSize qu_steps qu_step qu_walk qu_edits qu_said fu_size fu_places fu_reads fu_there fu_total fu_walked fu_edited fu_written fu_at fu_end fu_began fu_many au_bases au_length au_links au_from au_to au_sideOf au_within au_read au_cost) H → va_D A (W_Mo_lower cI cC cB qu qu_bases qu_length qu_links qu_from qu_to qu_sideOf qu_within qu_read qu_cost qu_text qu_segments qu_names qu_nameSize qu_paths qu_titles qu_titleSize qu_steps qu_step qu_walk qu_edits qu_said fu_size fu_places fu_reads fu_there fu_total fu_walked fu_edited fu_written fu_at fu_end fu_began fu_many au_bases au_length au_links au_from au_to au_sideOf au_within au_read au_cost) → va_S A s.heap H locs → lv_has ls 6 [(0, .ref qu), (1, .int p1), (2, .int p2), (3, .int x3), (4, .int x4)] → W p l e rm_Mo_lower s m args below meth c H locs 0 0 QF (F0 m 210 ls []) := by
    intro K_154 hK_154 x3 x4  H locs ls h hP hD hS hl
    unfold w_Mo_lower_210 at h
    obtain ⟨x4_1, ex4_1⟩ : ∃ y : Int32, y = x4 + 1 := ⟨_, rfl⟩
    have h := h x4_1 ex4_1
    refine lv_iinc (v := x4_1) (lv' := [(4, .int x4_1), (0, .ref qu), (1, .int p1), (2, .int p2), (3, .int x3)]) hx hb d_Mo_lower_210 hl (k := 4) rfl (by rw [ex4_1]; rfl) (by decide) rfl (fun ls hl => ?_)
    refine lv_goto (tgt := 154) hx hb d_Mo_lower_213 (by decide) ?_
    exact hK_154 _ _ _ _ _ h hP hD hS (lv_sub hl [1, 2, 3, 4, 0] rfl)
  have blk_209 : ∀ (K_154 : Int32 → Int32 → Prop) (hK_154 : ∀ (x3 : Int32) (x4 : Int32)  (H : Heap) (locs : List Loc) (ls : Array Slot), K_154 x3 x4 → va_P (dC, dI) cls (W_Mo_lower cI cC cB qu qu_bases qu_length qu_links qu_from qu_to qu_sideOf qu_within qu_read qu_cost qu_text qu_segments qu_names qu_nameSize qu_paths qu_titles qu_titleSize qu_steps qu_step qu_walk qu_edits qu_said fu_size fu_places fu_reads fu_there fu_total fu_walked fu_edited fu_written fu_at fu_end fu_began fu_many au_bases au_length au_links au_from au_to au_sideOf au_within au_read au_cost) H → va_D A (W_Mo_lower cI cC cB qu qu_bases qu_length qu_links qu_from qu_to qu_sideOf qu_within qu_read qu_cost qu_text qu_segments qu_names qu_nameSize qu_paths qu_titles qu_titleSize qu_steps qu_step qu_walk qu_edits qu_said fu_size fu_places fu_reads fu_there fu_total fu_walked fu_edited fu_written fu_at fu_end fu_began fu_many au_bases au_length au_links au_from au_to au_sideOf au_within au_read au_cost) → va_S A s.heap H locs → lv_has ls 6 [(0, .ref qu), (1, .int p1), (2, .int p2), (3, .int x3), (4, .int x4)] → W p l e rm_Mo_lower s m args below meth c H locs 0 0 QF (F0 m 154 ls [])) (x4 : Int32) (s0 : Int32)  (H : Heap) (locs : List Loc) (ls : Array Slot), w_Mo_lower_209 Q K_154 p1 p2 fu_places au_bases au_length au_links au_from au_to au_sideOf au_within au_read au_cost x4 s0 → va_P (dC, dI) cls (W_Mo_lower cI cC cB qu qu_bases qu_length qu_links qu_from qu_to qu_sideOf qu_within qu_read qu_cost qu_text qu_segments qu_names qu_nameSize qu_paths qu_titles qu_titleSize qu_steps qu_step qu_walk qu_edits qu_said fu_size fu_places fu_reads fu_there fu_total fu_walked fu_edited fu_written fu_at fu_end fu_began fu_many au_bases au_length au_links au_from au_to au_sideOf au_within au_read au_cost) H → va_D A (W_Mo_lower cI cC cB qu qu_bases qu_length qu_links qu_from qu_to qu_sideOf qu_within qu_read qu_cost qu_text qu_segments qu_names qu_nameSize qu_paths qu_titles qu_titleSize qu_steps qu_step qu_walk qu_edits qu_said fu_size fu_places fu_reads fu_there fu_total fu_walked fu_edited fu_written fu_at fu_end fu_began fu_many au_bases au_length au_links au_from au_to au_sideOf au_within au_read au_cost) → va_S A s.heap H locs → lv_has ls 6 [(0, .ref qu), (1, .int p1), (2, .int p2), (4, .int x4)] → W p l e rm_Mo_lower s m args below meth c H locs 0 0 QF (F0 m 209 ls [.int s0]) := by
    intro K_154 hK_154 x4 s0  H locs ls h hP hD hS hl
    unfold w_Mo_lower_209 at h
    refine lv_istore_n (lv' := [(3, .int s0), (0, .ref qu), (1, .int p1), (2, .int p2), (4, .int x4)]) hx hb d_Mo_lower_209 rfl hl (by decide) rfl (fun ls hl => ?_)
    exact blk_210 _ hK_154 _ _ _ _ _ h hP hD hS (lv_sub hl [1, 2, 3, 0, 4] rfl)
  have blk_154 : ∀  (n : Nat) (x3 : Int32) (x4 : Int32)  (H : Heap) (locs : List Loc) (ls : Array Slot), w_Mo_lower_154 Q  p1 p2 fu_places au_bases au_length au_links au_from au_to au_sideOf au_within au_read au_cost n x3 x4 → va_P (dC, dI) cls (W_Mo_lower cI cC cB qu qu_bases qu_length qu_links qu_from qu_to qu_sideOf qu_within qu_read qu_cost qu_text qu_segments qu_names qu_nameSize qu_paths qu_titles qu_titleSize qu_steps qu_step qu_walk qu_edits qu_said fu_size fu_places fu_reads fu_there fu_total fu_walked fu_edited fu_written fu_at fu_end fu_began fu_many au_bases au_length au_links au_from au_to au_sideOf au_within au_read au_cost) H → va_D A (W_Mo_lower cI cC cB qu qu_bases qu_length qu_links qu_from qu_to qu_sideOf qu_within qu_read qu_cost qu_text qu_segments qu_names qu_nameSize qu_paths qu_titles qu_titleSize qu_steps qu_step qu_walk qu_edits qu_said fu_size fu_places fu_reads fu_there fu_total fu_walked fu_edited fu_written fu_at fu_end fu_began fu_many au_bases au_length au_links au_from au_to au_sideOf au_within au_read au_cost) → va_S A s.heap H locs → lv_has ls 6 [(0, .ref qu), (1, .int p1), (2, .int p2), (3, .int x3), (4, .int x4)] → W p l e rm_Mo_lower s m args below meth c H locs 0 0 QF (F0 m 154 ls []) := by
    intro  n
    induction n with
    | zero => intro x3 x4  H locs ls h; exact (show False from h).elim
    | succ n ih =>
      intro x3 x4  H locs ls h hP hD hS hl
      have h : w_Mo_lower_154B Q  (w_Mo_lower_154 Q  p1 p2 fu_places au_bases au_length au_links au_from au_to au_sideOf au_within au_read au_cost n) p1 p2 fu_places au_bases au_length au_links au_from au_to au_sideOf au_within au_read au_cost x3 x4 := h
      generalize w_Mo_lower_154 Q  p1 p2 fu_places au_bases au_length au_links au_from au_to au_sideOf au_within au_read au_cost n = K_154 at h ih
      unfold w_Mo_lower_154B at h
      refine lv_iload hx hb d_Mo_lower_154 (lv_at hl 4 rfl) ?_
      refine lv_aload_n hx hb d_Mo_lower_156 rfl (lv_at hl 0 rfl) ?_
      refine va_get (D := (dC, dI)) (ci := 6) (v := .int fu_places) (C := R_Mo) (T := T_Mo) (N := 33) hx hb hts in_Mo hown hK hP 0 rfl rfl 15 (by decide) (hts _ w_480) (fun _ h9 => h9) rfl d_Mo_lower_157 ?_
      refine lv_icmp_ge (tgt := 216) hx hb d_Mo_lower_160 (by decide) (fun c_2 => ?_) (fun c_2 => ?_)
      · have h := h.1 c_2
        refine lv_iload_n hx hb d_Mo_lower_216 rfl (lv_at hl 3 rfl) ?_
        exact hret () () x3 _ _ _ _ rfl h hP hD hS d_Mo_lower_217
      · have h := h.2 c_2
        refine lv_aload_n hx hb d_Mo_lower_163 rfl (lv_at hl 0 rfl) ?_
        refine lv_iload hx hb d_Mo_lower_164 (lv_at hl 4 rfl) ?_
        refine lv_iload_n hx hb d_Mo_lower_166 rfl (lv_at hl 2 rfl) ?_
        refine call_V_i (As := [.int x4, .int p2]) (rest := []) C0 hP hD hS [0, 2, 3, 4, 5, 6, 7] [1, 8, 9] [3, 0, 4, 5, 6, 7, 8, 9, 1, 2] [(qu_bases, .inl (cC, 64, .inl au_bases)), (qu_read, .inl (cC, 12, .inl au_read)), (qu_cost, .inl (cI, 832, .inl au_cost))] (fun (v : Unit) (b : Unit) => (W_Mo_lower cI cC cB qu qu_bases qu_length qu_links qu_from qu_to qu_sideOf qu_within qu_read qu_cost qu_text qu_segments qu_names qu_nameSize qu_paths qu_titles qu_titleSize qu_steps qu_step qu_walk qu_edits qu_said fu_size fu_places fu_reads fu_there fu_total fu_walked fu_edited fu_written fu_at fu_end fu_began fu_many au_bases au_length au_links au_from au_to au_sideOf au_within au_read au_cost)) (ci := 6) rfl rfl (k_Mo_after l dC dI cI cC cB _ qu qu_length qu_links qu_from qu_to qu_sideOf qu_within qu_text qu_segments qu_names qu_nameSize qu_bases qu_paths qu_titles qu_titleSize qu_steps qu_step qu_read qu_cost qu_walk qu_edits qu_said fu_size fu_places fu_reads fu_there fu_total fu_walked fu_edited fu_written fu_at fu_end fu_began fu_many au_length au_links au_from au_to au_sideOf au_within x4 p2 h) (g_V w_500 w_501 w_502 w_418 w_499) 2 rfl (by decide +kernel) rfl rfl ⟨Nat.le_of_ble_eq_true rfl, Nat.le_of_ble_eq_true rfl⟩ rfl rfl (by decide) (by decide) (by decide) (by decide) (fun _ _ => rfl) hl.1 rfl (Nat.le_of_ble_eq_true rfl) d_Mo_lower_167 ⟨Nat.le_of_ble_eq_true rfl, Nat.le_of_ble_eq_true rfl⟩ (fun r_4 v_3 _ H locs h hP hD hS => ?_)
        have hP : va_P (dC, dI) cls (W_Mo_lower cI cC cB qu qu_bases qu_length qu_links qu_from qu_to qu_sideOf qu_within qu_read qu_cost qu_text qu_segments qu_names qu_nameSize qu_paths qu_titles qu_titleSize qu_steps qu_step qu_walk qu_edits qu_said fu_size fu_places fu_reads fu_there fu_total fu_walked fu_edited fu_written fu_at fu_end fu_began fu_many au_bases au_length au_links au_from au_to au_sideOf au_within au_read au_cost) H := hP
        have hD : va_D A (W_Mo_lower cI cC cB qu qu_bases qu_length qu_links qu_from qu_to qu_sideOf qu_within qu_read qu_cost qu_text qu_segments qu_names qu_nameSize qu_paths qu_titles qu_titleSize qu_steps qu_step qu_walk qu_edits qu_said fu_size fu_places fu_reads fu_there fu_total fu_walked fu_edited fu_written fu_at fu_end fu_began fu_many au_bases au_length au_links au_from au_to au_sideOf au_within au_read au_cost) := hD
        refine lv_if_eq (tgt := 210) hx hb d_Mo_lower_170 (by decide) (fun c_5 => ?_) (fun c_5 => ?_)
        · have h := h.1 c_5
          exact blk_210 _ ih _ _ _ _ _ h hP hD hS (lv_sub hl [0, 1, 2, 3, 4] rfl)
        · have h := h.2 c_5
          refine lv_aload_n hx hb d_Mo_lower_173 rfl (lv_at hl 0 rfl) ?_
          refine va_get (D := (dC, dI)) (ci := 6) (v := .ref qu_cost) (C := R_Mo) (T := T_Mo) (N := 33) hx hb hts in_Mo hown hK hP 0 rfl rfl 20 (by decide) (hts _ w_505) (fun _ h9 => h9) rfl d_Mo_lower_174 ?_
          refine lv_bipush (v := 64) hx hb d_Mo_lower_177 (by decide) ?_
          refine lv_iload_n hx hb d_Mo_lower_179 rfl (lv_at hl 1 rfl) ?_
          refine lv_imul hx hb d_Mo_lower_180 ?_
          refine lv_iload hx hb d_Mo_lower_181 (lv_at hl 4 rfl) ?_
          refine lv_iadd hx hb d_Mo_lower_183 ?_
          refine lv_topi (fun x_6 ex_6 => ?_)
          have h := h x_6 ex_6
          have hi_7 := h.1
          have h := h.2
          refine va_iald hx hb hK hP 9 0 rfl rfl hi_7 d_Mo_lower_184 ?_
          refine lv_iconst (v := 1) hx hb d_Mo_lower_185 (by decide) ?_
          refine lv_iadd hx hb d_Mo_lower_186 ?_
          refine lv_topi (fun x_8 ex_8 => ?_)
          have h := h x_8 ex_8
          refine lv_iload_n hx hb d_Mo_lower_187 rfl (lv_at hl 3 rfl) ?_
          refine lv_icmp_ge (tgt := 208) hx hb d_Mo_lower_188 (by decide) (fun c_9 => ?_) (fun c_9 => ?_)
          · have h := h.1 c_9
            refine lv_iload_n hx hb d_Mo_lower_208 rfl (lv_at hl 3 rfl) ?_
            exact blk_209 _ ih _ _ _ _ _ h hP hD hS (lv_sub hl [0, 1, 2, 4] rfl)
          · have h := h.2 c_9
            refine lv_aload_n hx hb d_Mo_lower_191 rfl (lv_at hl 0 rfl) ?_
            refine va_get (D := (dC, dI)) (ci := 6) (v := .ref qu_cost) (C := R_Mo) (T := T_Mo) (N := 33) hx hb hts in_Mo hown hK hP 0 rfl rfl 20 (by decide) (hts _ w_505) (fun _ h9 => h9) rfl d_Mo_lower_192 ?_
            refine lv_bipush (v := 64) hx hb d_Mo_lower_195 (by decide) ?_
            refine lv_iload_n hx hb d_Mo_lower_197 rfl (lv_at hl 1 rfl) ?_
            refine lv_imul hx hb d_Mo_lower_198 ?_
            refine lv_iload hx hb d_Mo_lower_199 (lv_at hl 4 rfl) ?_
            refine lv_iadd hx hb d_Mo_lower_201 ?_
            refine lv_topi (fun x_10 ex_10 => ?_)
            have h := h x_10 ex_10
            have hi_11 := h.1
            have h := h.2
            refine va_iald hx hb hK hP 9 0 rfl rfl hi_11 d_Mo_lower_202 ?_
            refine lv_iconst (v := 1) hx hb d_Mo_lower_203 (by decide) ?_
            refine lv_iadd hx hb d_Mo_lower_204 ?_
            refine lv_topi (fun x_12 ex_12 => ?_)
            have h := h x_12 ex_12
            refine lv_goto (tgt := 209) hx hb d_Mo_lower_205 (by decide) ?_
            exact blk_209 _ ih _ _ _ _ _ h hP hD hS (lv_sub hl [0, 1, 2, 4] rfl)
  have blk_151 : ∀  (x3 : Int32)  (H : Heap) (locs : List Loc) (ls : Array Slot), w_Mo_lower_151 Q  p1 p2 fu_places au_bases au_length au_links au_from au_to au_sideOf au_within au_read au_cost x3 → va_P (dC, dI) cls (W_Mo_lower cI cC cB qu qu_bases qu_length qu_links qu_from qu_to qu_sideOf qu_within qu_read qu_cost qu_text qu_segments qu_names qu_nameSize qu_paths qu_titles qu_titleSize qu_steps qu_step qu_walk qu_edits qu_said fu_size fu_places fu_reads fu_there fu_total fu_walked fu_edited fu_written fu_at fu_end fu_began fu_many au_bases au_length au_links au_from au_to au_sideOf au_within au_read au_cost) H → va_D A (W_Mo_lower cI cC cB qu qu_bases qu_length qu_links qu_from qu_to qu_sideOf qu_within qu_read qu_cost qu_text qu_segments qu_names qu_nameSize qu_paths qu_titles qu_titleSize qu_steps qu_step qu_walk qu_edits qu_said fu_size fu_places fu_reads fu_there fu_total fu_walked fu_edited fu_written fu_at fu_end fu_began fu_many au_bases au_length au_links au_from au_to au_sideOf au_within au_read au_cost) → va_S A s.heap H locs → lv_has ls 6 [(0, .ref qu), (1, .int p1), (2, .int p2), (3, .int x3)] → W p l e rm_Mo_lower s m args below meth c H locs 0 0 QF (F0 m 151 ls []) := by
    intro  x3  H locs ls h hP hD hS hl
    unfold w_Mo_lower_151 at h
    refine lv_iconst (v := 0) hx hb d_Mo_lower_151 (by decide) ?_
    refine lv_istore (lv' := [(4, .int 0), (0, .ref qu), (1, .int p1), (2, .int p2), (3, .int x3)]) hx hb d_Mo_lower_152 hl (by decide) rfl (fun ls hl => ?_)
    obtain ⟨fu_154, h⟩ := h
    exact blk_154  _ _ _ _ _ _ h hP hD hS (lv_sub hl [1, 2, 3, 4, 0] rfl)
  have blk_145 : ∀ (K_81 : Int32 → Int32 → Int32 → Prop) (hK_81 : ∀ (x3 : Int32) (x4 : Int32) (x5 : Int32)  (H : Heap) (locs : List Loc) (ls : Array Slot), K_81 x3 x4 x5 → va_P (dC, dI) cls (W_Mo_lower cI cC cB qu qu_bases qu_length qu_links qu_from qu_to qu_sideOf qu_within qu_read qu_cost qu_text qu_segments qu_names qu_nameSize qu_paths qu_titles qu_titleSize qu_steps qu_step qu_walk qu_edits qu_said fu_size fu_places fu_reads fu_there fu_total fu_walked fu_edited fu_written fu_at fu_end fu_began fu_many au_bases au_length au_links au_from au_to au_sideOf au_within au_read au_cost) H → va_D A (W_Mo_lower cI cC cB qu qu_bases qu_length qu_links qu_from qu_to qu_sideOf qu_within qu_read qu_cost qu_text qu_segments qu_names qu_nameSize qu_paths qu_titles qu_titleSize qu_steps qu_step qu_walk qu_edits qu_said fu_size fu_places fu_reads fu_there fu_total fu_walked fu_edited fu_written fu_at fu_end fu_began fu_many au_bases au_length au_links au_from au_to au_sideOf au_within au_read au_cost) → va_S A s.heap H locs → lv_has ls 6 [(0, .ref qu), (1, .int p1), (2, .int p2), (3, .int x3), (4, .int x4), (5, .int x5)] → W p l e rm_Mo_lower s m args below meth c H locs 0 0 QF (F0 m 81 ls [])) (x3 : Int32) (x4 : Int32) (x5 : Int32)  (H : Heap) (locs : List Loc) (ls : Array Slot), w_Mo_lower_145 Q K_81 p1 p2 fu_places au_bases au_length au_links au_from au_to au_sideOf au_within au_read au_cost x3 x4 x5 → va_P (dC, dI) cls (W_Mo_lower cI cC cB qu qu_bases qu_length qu_links qu_from qu_to qu_sideOf qu_within qu_read qu_cost qu_text qu_segments qu_names qu_nameSize qu_paths qu_titles qu_titleSize qu_steps qu_step qu_walk qu_edits qu_said fu_size fu_places fu_reads fu_there fu_total fu_walked fu_edited fu_written fu_at fu_end fu_began fu_many au_bases au_length au_links au_from au_to au_sideOf au_within au_read au_cost) H → va_D A (W_Mo_lower cI cC cB qu qu_bases qu_length qu_links qu_from qu_to qu_sideOf qu_within qu_read qu_cost qu_text qu_segments qu_names qu_nameSize qu_paths qu_titles qu_titleSize qu_steps qu_step qu_walk qu_edits qu_said fu_size fu_places fu_reads fu_there fu_total fu_walked fu_edited fu_written fu_at fu_end fu_began fu_many au_bases au_length au_links au_from au_to au_sideOf au_within au_read au_cost) → va_S A s.heap H locs → lv_has ls 6 [(0, .ref qu), (1, .int p1), (2, .int p2), (3, .int x3), (4, .int x4), (5, .int x5)] → W p l e rm_Mo_lower s m args below meth c H locs 0 0 QF (F0 m 145 ls []) := by
    intro K_81 hK_81 x3 x4 x5  H locs ls h hP hD hS hl
    unfold w_Mo_lower_145 at h
    obtain ⟨x5_13, ex5_13⟩ : ∃ y : Int32, y = x5 + 1 := ⟨_, rfl⟩
    have h := h x5_13 ex5_13
    refine lv_iinc (v := x5_13) (lv' := [(5, .int x5_13), (0, .ref qu), (1, .int p1), (2, .int p2), (3, .int x3), (4, .int x4)]) hx hb d_Mo_lower_145 hl (k := 5) rfl (by rw [ex5_13]; rfl) (by decide) rfl (fun ls hl => ?_)
    refine lv_goto (tgt := 81) hx hb d_Mo_lower_148 (by decide) ?_
    exact hK_81 _ _ _ _ _ _ h hP hD hS (lv_sub hl [1, 2, 3, 4, 5, 0] rfl)
  have blk_144 : ∀ (K_81 : Int32 → Int32 → Int32 → Prop) (hK_81 : ∀ (x3 : Int32) (x4 : Int32) (x5 : Int32)  (H : Heap) (locs : List Loc) (ls : Array Slot), K_81 x3 x4 x5 → va_P (dC, dI) cls (W_Mo_lower cI cC cB qu qu_bases qu_length qu_links qu_from qu_to qu_sideOf qu_within qu_read qu_cost qu_text qu_segments qu_names qu_nameSize qu_paths qu_titles qu_titleSize qu_steps qu_step qu_walk qu_edits qu_said fu_size fu_places fu_reads fu_there fu_total fu_walked fu_edited fu_written fu_at fu_end fu_began fu_many au_bases au_length au_links au_from au_to au_sideOf au_within au_read au_cost) H → va_D A (W_Mo_lower cI cC cB qu qu_bases qu_length qu_links qu_from qu_to qu_sideOf qu_within qu_read qu_cost qu_text qu_segments qu_names qu_nameSize qu_paths qu_titles qu_titleSize qu_steps qu_step qu_walk qu_edits qu_said fu_size fu_places fu_reads fu_there fu_total fu_walked fu_edited fu_written fu_at fu_end fu_began fu_many au_bases au_length au_links au_from au_to au_sideOf au_within au_read au_cost) → va_S A s.heap H locs → lv_has ls 6 [(0, .ref qu), (1, .int p1), (2, .int p2), (3, .int x3), (4, .int x4), (5, .int x5)] → W p l e rm_Mo_lower s m args below meth c H locs 0 0 QF (F0 m 81 ls [])) (x4 : Int32) (x5 : Int32) (s0 : Int32)  (H : Heap) (locs : List Loc) (ls : Array Slot), w_Mo_lower_144 Q K_81 p1 p2 fu_places au_bases au_length au_links au_from au_to au_sideOf au_within au_read au_cost x4 x5 s0 → va_P (dC, dI) cls (W_Mo_lower cI cC cB qu qu_bases qu_length qu_links qu_from qu_to qu_sideOf qu_within qu_read qu_cost qu_text qu_segments qu_names qu_nameSize qu_paths qu_titles qu_titleSize qu_steps qu_step qu_walk qu_edits qu_said fu_size fu_places fu_reads fu_there fu_total fu_walked fu_edited fu_written fu_at fu_end fu_began fu_many au_bases au_length au_links au_from au_to au_sideOf au_within au_read au_cost) H → va_D A (W_Mo_lower cI cC cB qu qu_bases qu_length qu_links qu_from qu_to qu_sideOf qu_within qu_read qu_cost qu_text qu_segments qu_names qu_nameSize qu_paths qu_titles qu_titleSize qu_steps qu_step qu_walk qu_edits qu_said fu_size fu_places fu_reads fu_there fu_total fu_walked fu_edited fu_written fu_at fu_end fu_began fu_many au_bases au_length au_links au_from au_to au_sideOf au_within au_read au_cost) → va_S A s.heap H locs → lv_has ls 6 [(0, .ref qu), (1, .int p1), (2, .int p2), (4, .int x4), (5, .int x5)] → W p l e rm_Mo_lower s m args below meth c H locs 0 0 QF (F0 m 144 ls [.int s0]) := by
    intro K_81 hK_81 x4 x5 s0  H locs ls h hP hD hS hl
    unfold w_Mo_lower_144 at h
    refine lv_istore_n (lv' := [(3, .int s0), (0, .ref qu), (1, .int p1), (2, .int p2), (4, .int x4), (5, .int x5)]) hx hb d_Mo_lower_144 rfl hl (by decide) rfl (fun ls hl => ?_)
    exact blk_145 _ hK_81 _ _ _ _ _ _ h hP hD hS (lv_sub hl [1, 2, 3, 0, 4, 5] rfl)
  have blk_81 : ∀  (n : Nat) (x3 : Int32) (x4 : Int32) (x5 : Int32)  (H : Heap) (locs : List Loc) (ls : Array Slot), w_Mo_lower_81 Q  p1 p2 fu_places au_bases au_length au_links au_from au_to au_sideOf au_within au_read au_cost n x3 x4 x5 → va_P (dC, dI) cls (W_Mo_lower cI cC cB qu qu_bases qu_length qu_links qu_from qu_to qu_sideOf qu_within qu_read qu_cost qu_text qu_segments qu_names qu_nameSize qu_paths qu_titles qu_titleSize qu_steps qu_step qu_walk qu_edits qu_said fu_size fu_places fu_reads fu_there fu_total fu_walked fu_edited fu_written fu_at fu_end fu_began fu_many au_bases au_length au_links au_from au_to au_sideOf au_within au_read au_cost) H → va_D A (W_Mo_lower cI cC cB qu qu_bases qu_length qu_links qu_from qu_to qu_sideOf qu_within qu_read qu_cost qu_text qu_segments qu_names qu_nameSize qu_paths qu_titles qu_titleSize qu_steps qu_step qu_walk qu_edits qu_said fu_size fu_places fu_reads fu_there fu_total fu_walked fu_edited fu_written fu_at fu_end fu_began fu_many au_bases au_length au_links au_from au_to au_sideOf au_within au_read au_cost) → va_S A s.heap H locs → lv_has ls 6 [(0, .ref qu), (1, .int p1), (2, .int p2), (3, .int x3), (4, .int x4), (5, .int x5)] → W p l e rm_Mo_lower s m args below meth c H locs 0 0 QF (F0 m 81 ls []) := by
    intro  n
    induction n with
    | zero => intro x3 x4 x5  H locs ls h; exact (show False from h).elim
    | succ n ih =>
      intro x3 x4 x5  H locs ls h hP hD hS hl
      have h : w_Mo_lower_81B Q  (w_Mo_lower_81 Q  p1 p2 fu_places au_bases au_length au_links au_from au_to au_sideOf au_within au_read au_cost n) p1 p2 fu_places au_bases au_length au_links au_from au_to au_sideOf au_within au_read au_cost x3 x4 x5 := h
      generalize w_Mo_lower_81 Q  p1 p2 fu_places au_bases au_length au_links au_from au_to au_sideOf au_within au_read au_cost n = K_81 at h ih
      unfold w_Mo_lower_81B at h
      refine lv_iload hx hb d_Mo_lower_81 (lv_at hl 5 rfl) ?_
      refine lv_aload_n hx hb d_Mo_lower_83 rfl (lv_at hl 0 rfl) ?_
      refine va_get (D := (dC, dI)) (ci := 6) (v := .int fu_places) (C := R_Mo) (T := T_Mo) (N := 33) hx hb hts in_Mo hown hK hP 0 rfl rfl 15 (by decide) (hts _ w_480) (fun _ h9 => h9) rfl d_Mo_lower_84 ?_
      refine lv_icmp_ge (tgt := 151) hx hb d_Mo_lower_87 (by decide) (fun c_14 => ?_) (fun c_14 => ?_)
      · have h := h.1 c_14
        exact blk_151  _ _ _ _ h hP hD hS (lv_sub hl [0, 1, 2, 3] rfl)
      · have h := h.2 c_14
        refine lv_aload_n hx hb d_Mo_lower_90 rfl (lv_at hl 0 rfl) ?_
        refine lv_iload hx hb d_Mo_lower_91 (lv_at hl 5 rfl) ?_
        refine lv_iload_n hx hb d_Mo_lower_93 rfl (lv_at hl 2 rfl) ?_
        refine call_V_i (As := [.int x5, .int p2]) (rest := []) C0 hP hD hS [0, 2, 3, 4, 5, 6, 7] [1, 8, 9] [3, 0, 4, 5, 6, 7, 8, 9, 1, 2] [(qu_bases, .inl (cC, 64, .inl au_bases)), (qu_read, .inl (cC, 12, .inl au_read)), (qu_cost, .inl (cI, 832, .inl au_cost))] (fun (v : Unit) (b : Unit) => (W_Mo_lower cI cC cB qu qu_bases qu_length qu_links qu_from qu_to qu_sideOf qu_within qu_read qu_cost qu_text qu_segments qu_names qu_nameSize qu_paths qu_titles qu_titleSize qu_steps qu_step qu_walk qu_edits qu_said fu_size fu_places fu_reads fu_there fu_total fu_walked fu_edited fu_written fu_at fu_end fu_began fu_many au_bases au_length au_links au_from au_to au_sideOf au_within au_read au_cost)) (ci := 6) rfl rfl (k_Mo_after l dC dI cI cC cB _ qu qu_length qu_links qu_from qu_to qu_sideOf qu_within qu_text qu_segments qu_names qu_nameSize qu_bases qu_paths qu_titles qu_titleSize qu_steps qu_step qu_read qu_cost qu_walk qu_edits qu_said fu_size fu_places fu_reads fu_there fu_total fu_walked fu_edited fu_written fu_at fu_end fu_began fu_many au_length au_links au_from au_to au_sideOf au_within x5 p2 h) (g_V w_500 w_501 w_502 w_418 w_499) 2 rfl (by decide +kernel) rfl rfl ⟨Nat.le_of_ble_eq_true rfl, Nat.le_of_ble_eq_true rfl⟩ rfl rfl (by decide) (by decide) (by decide) (by decide) (fun _ _ => rfl) hl.1 rfl (Nat.le_of_ble_eq_true rfl) d_Mo_lower_94 ⟨Nat.le_of_ble_eq_true rfl, Nat.le_of_ble_eq_true rfl⟩ (fun r_16 v_15 _ H locs h hP hD hS => ?_)
        have hP : va_P (dC, dI) cls (W_Mo_lower cI cC cB qu qu_bases qu_length qu_links qu_from qu_to qu_sideOf qu_within qu_read qu_cost qu_text qu_segments qu_names qu_nameSize qu_paths qu_titles qu_titleSize qu_steps qu_step qu_walk qu_edits qu_said fu_size fu_places fu_reads fu_there fu_total fu_walked fu_edited fu_written fu_at fu_end fu_began fu_many au_bases au_length au_links au_from au_to au_sideOf au_within au_read au_cost) H := hP
        have hD : va_D A (W_Mo_lower cI cC cB qu qu_bases qu_length qu_links qu_from qu_to qu_sideOf qu_within qu_read qu_cost qu_text qu_segments qu_names qu_nameSize qu_paths qu_titles qu_titleSize qu_steps qu_step qu_walk qu_edits qu_said fu_size fu_places fu_reads fu_there fu_total fu_walked fu_edited fu_written fu_at fu_end fu_began fu_many au_bases au_length au_links au_from au_to au_sideOf au_within au_read au_cost) := hD
        refine lv_if_eq (tgt := 145) hx hb d_Mo_lower_97 (by decide) (fun c_17 => ?_) (fun c_17 => ?_)
        · have h := h.1 c_17
          exact blk_145 _ ih _ _ _ _ _ _ h hP hD hS (lv_sub hl [0, 1, 2, 3, 4, 5] rfl)
        · have h := h.2 c_17
          refine lv_aload_n hx hb d_Mo_lower_100 rfl (lv_at hl 0 rfl) ?_
          refine va_get (D := (dC, dI)) (ci := 6) (v := .ref qu_cost) (C := R_Mo) (T := T_Mo) (N := 33) hx hb hts in_Mo hown hK hP 0 rfl rfl 20 (by decide) (hts _ w_505) (fun _ h9 => h9) rfl d_Mo_lower_101 ?_
          refine lv_bipush (v := 64) hx hb d_Mo_lower_104 (by decide) ?_
          refine lv_iload_n hx hb d_Mo_lower_106 rfl (lv_at hl 1 rfl) ?_
          refine lv_imul hx hb d_Mo_lower_107 ?_
          refine lv_bipush (v := 64) hx hb d_Mo_lower_108 (by decide) ?_
          refine lv_isub hx hb d_Mo_lower_110 ?_
          refine lv_iload hx hb d_Mo_lower_111 (lv_at hl 5 rfl) ?_
          refine lv_iadd hx hb d_Mo_lower_113 ?_
          refine lv_topi (fun x_18 ex_18 => ?_)
          have h := h x_18 ex_18
          have hi_19 := h.1
          have h := h.2
          refine va_iald hx hb hK hP 9 0 rfl rfl hi_19 d_Mo_lower_114 ?_
          refine lv_iload hx hb d_Mo_lower_115 (lv_at hl 4 rfl) ?_
          refine lv_iadd hx hb d_Mo_lower_117 ?_
          refine lv_topi (fun x_20 ex_20 => ?_)
          have h := h x_20 ex_20
          refine lv_iload_n hx hb d_Mo_lower_118 rfl (lv_at hl 3 rfl) ?_
          refine lv_icmp_ge (tgt := 143) hx hb d_Mo_lower_119 (by decide) (fun c_21 => ?_) (fun c_21 => ?_)
          · have h := h.1 c_21
            refine lv_iload_n hx hb d_Mo_lower_143 rfl (lv_at hl 3 rfl) ?_
            exact blk_144 _ ih _ _ _ _ _ _ h hP hD hS (lv_sub hl [0, 1, 2, 4, 5] rfl)
          · have h := h.2 c_21
            refine lv_aload_n hx hb d_Mo_lower_122 rfl (lv_at hl 0 rfl) ?_
            refine va_get (D := (dC, dI)) (ci := 6) (v := .ref qu_cost) (C := R_Mo) (T := T_Mo) (N := 33) hx hb hts in_Mo hown hK hP 0 rfl rfl 20 (by decide) (hts _ w_505) (fun _ h9 => h9) rfl d_Mo_lower_123 ?_
            refine lv_bipush (v := 64) hx hb d_Mo_lower_126 (by decide) ?_
            refine lv_iload_n hx hb d_Mo_lower_128 rfl (lv_at hl 1 rfl) ?_
            refine lv_imul hx hb d_Mo_lower_129 ?_
            refine lv_bipush (v := 64) hx hb d_Mo_lower_130 (by decide) ?_
            refine lv_isub hx hb d_Mo_lower_132 ?_
            refine lv_iload hx hb d_Mo_lower_133 (lv_at hl 5 rfl) ?_
            refine lv_iadd hx hb d_Mo_lower_135 ?_
            refine lv_topi (fun x_22 ex_22 => ?_)
            have h := h x_22 ex_22
            have hi_23 := h.1
            have h := h.2
            refine va_iald hx hb hK hP 9 0 rfl rfl hi_23 d_Mo_lower_136 ?_
            refine lv_iload hx hb d_Mo_lower_137 (lv_at hl 4 rfl) ?_
            refine lv_iadd hx hb d_Mo_lower_139 ?_
            refine lv_topi (fun x_24 ex_24 => ?_)
            have h := h x_24 ex_24
            refine lv_goto (tgt := 144) hx hb d_Mo_lower_140 (by decide) ?_
            exact blk_144 _ ih _ _ _ _ _ _ h hP hD hS (lv_sub hl [0, 1, 2, 4, 5] rfl)
  have blk_77 : ∀  (x4 : Int32) (s0 : Int32)  (H : Heap) (locs : List Loc) (ls : Array Slot), w_Mo_lower_77 Q  p1 p2 fu_places au_bases au_length au_links au_from au_to au_sideOf au_within au_read au_cost x4 s0 → va_P (dC, dI) cls (W_Mo_lower cI cC cB qu qu_bases qu_length qu_links qu_from qu_to qu_sideOf qu_within qu_read qu_cost qu_text qu_segments qu_names qu_nameSize qu_paths qu_titles qu_titleSize qu_steps qu_step qu_walk qu_edits qu_said fu_size fu_places fu_reads fu_there fu_total fu_walked fu_edited fu_written fu_at fu_end fu_began fu_many au_bases au_length au_links au_from au_to au_sideOf au_within au_read au_cost) H → va_D A (W_Mo_lower cI cC cB qu qu_bases qu_length qu_links qu_from qu_to qu_sideOf qu_within qu_read qu_cost qu_text qu_segments qu_names qu_nameSize qu_paths qu_titles qu_titleSize qu_steps qu_step qu_walk qu_edits qu_said fu_size fu_places fu_reads fu_there fu_total fu_walked fu_edited fu_written fu_at fu_end fu_began fu_many au_bases au_length au_links au_from au_to au_sideOf au_within au_read au_cost) → va_S A s.heap H locs → lv_has ls 6 [(0, .ref qu), (1, .int p1), (2, .int p2), (4, .int x4)] → W p l e rm_Mo_lower s m args below meth c H locs 0 0 QF (F0 m 77 ls [.int s0]) := by
    intro  x4 s0  H locs ls h hP hD hS hl
    unfold w_Mo_lower_77 at h
    refine lv_istore_n (lv' := [(3, .int s0), (0, .ref qu), (1, .int p1), (2, .int p2), (4, .int x4)]) hx hb d_Mo_lower_77 rfl hl (by decide) rfl (fun ls hl => ?_)
    refine lv_iconst (v := 0) hx hb d_Mo_lower_78 (by decide) ?_
    refine lv_istore (lv' := [(5, .int 0), (3, .int s0), (0, .ref qu), (1, .int p1), (2, .int p2), (4, .int x4)]) hx hb d_Mo_lower_79 hl (by decide) rfl (fun ls hl => ?_)
    obtain ⟨fu_81, h⟩ := h
    exact blk_81  _ _ _ _ _ _ _ h hP hD hS (lv_sub hl [2, 3, 4, 1, 5, 0] rfl)
  have blk_36 : ∀  (x4 : Int32) (s0 : Int32)  (H : Heap) (locs : List Loc) (ls : Array Slot), w_Mo_lower_36 Q  p1 p2 fu_places au_bases au_length au_links au_from au_to au_sideOf au_within au_read au_cost x4 s0 → va_P (dC, dI) cls (W_Mo_lower cI cC cB qu qu_bases qu_length qu_links qu_from qu_to qu_sideOf qu_within qu_read qu_cost qu_text qu_segments qu_names qu_nameSize qu_paths qu_titles qu_titleSize qu_steps qu_step qu_walk qu_edits qu_said fu_size fu_places fu_reads fu_there fu_total fu_walked fu_edited fu_written fu_at fu_end fu_began fu_many au_bases au_length au_links au_from au_to au_sideOf au_within au_read au_cost) H → va_D A (W_Mo_lower cI cC cB qu qu_bases qu_length qu_links qu_from qu_to qu_sideOf qu_within qu_read qu_cost qu_text qu_segments qu_names qu_nameSize qu_paths qu_titles qu_titleSize qu_steps qu_step qu_walk qu_edits qu_said fu_size fu_places fu_reads fu_there fu_total fu_walked fu_edited fu_written fu_at fu_end fu_began fu_many au_bases au_length au_links au_from au_to au_sideOf au_within au_read au_cost) → va_S A s.heap H locs → lv_has ls 6 [(0, .ref qu), (1, .int p1), (2, .int p2), (4, .int x4)] → W p l e rm_Mo_lower s m args below meth c H locs 0 0 QF (F0 m 36 ls [.int s0]) := by
    intro  x4 s0  H locs ls h hP hD hS hl
    unfold w_Mo_lower_36 at h
    refine lv_istore_n (lv' := [(3, .int s0), (0, .ref qu), (1, .int p1), (2, .int p2), (4, .int x4)]) hx hb d_Mo_lower_36 rfl hl (by decide) rfl (fun ls hl => ?_)
    refine lv_aload_n hx hb d_Mo_lower_37 rfl (lv_at hl 1 rfl) ?_
    refine va_get (D := (dC, dI)) (ci := 6) (v := .ref qu_cost) (C := R_Mo) (T := T_Mo) (N := 33) hx hb hts in_Mo hown hK hP 0 rfl rfl 20 (by decide) (hts _ w_505) (fun _ h9 => h9) rfl d_Mo_lower_38 ?_
    refine lv_bipush (v := 64) hx hb d_Mo_lower_41 (by decide) ?_
    refine lv_iload_n hx hb d_Mo_lower_43 rfl (lv_at hl 2 rfl) ?_
    refine lv_imul hx hb d_Mo_lower_44 ?_
    refine lv_bipush (v := 64) hx hb d_Mo_lower_45 (by decide) ?_
    refine lv_isub hx hb d_Mo_lower_47 ?_
    refine lv_iload_n hx hb d_Mo_lower_48 rfl (lv_at hl 3 rfl) ?_
    refine lv_iadd hx hb d_Mo_lower_49 ?_
    refine lv_topi (fun x_25 ex_25 => ?_)
    have h := h x_25 ex_25
    have hi_26 := h.1
    have h := h.2
    refine va_iald hx hb hK hP 9 0 rfl rfl hi_26 d_Mo_lower_50 ?_
    refine lv_iconst (v := 1) hx hb d_Mo_lower_51 (by decide) ?_
    refine lv_iadd hx hb d_Mo_lower_52 ?_
    refine lv_topi (fun x_27 ex_27 => ?_)
    have h := h x_27 ex_27
    refine lv_iload_n hx hb d_Mo_lower_53 rfl (lv_at hl 0 rfl) ?_
    refine lv_icmp_ge (tgt := 76) hx hb d_Mo_lower_54 (by decide) (fun c_28 => ?_) (fun c_28 => ?_)
    · have h := h.1 c_28
      refine lv_iload_n hx hb d_Mo_lower_76 rfl (lv_at hl 0 rfl) ?_
      exact blk_77  _ _ _ _ _ h hP hD hS (lv_sub hl [1, 2, 3, 4] rfl)
    · have h := h.2 c_28
      refine lv_aload_n hx hb d_Mo_lower_57 rfl (lv_at hl 1 rfl) ?_
      refine va_get (D := (dC, dI)) (ci := 6) (v := .ref qu_cost) (C := R_Mo) (T := T_Mo) (N := 33) hx hb hts in_Mo hown hK hP 0 rfl rfl 20 (by decide) (hts _ w_505) (fun _ h9 => h9) rfl d_Mo_lower_58 ?_
      refine lv_bipush (v := 64) hx hb d_Mo_lower_61 (by decide) ?_
      refine lv_iload_n hx hb d_Mo_lower_63 rfl (lv_at hl 2 rfl) ?_
      refine lv_imul hx hb d_Mo_lower_64 ?_
      refine lv_bipush (v := 64) hx hb d_Mo_lower_65 (by decide) ?_
      refine lv_isub hx hb d_Mo_lower_67 ?_
      refine lv_iload_n hx hb d_Mo_lower_68 rfl (lv_at hl 3 rfl) ?_
      refine lv_iadd hx hb d_Mo_lower_69 ?_
      refine lv_topi (fun x_29 ex_29 => ?_)
      have h := h x_29 ex_29
      have hi_30 := h.1
      have h := h.2
      refine va_iald hx hb hK hP 9 0 rfl rfl hi_30 d_Mo_lower_70 ?_
      refine lv_iconst (v := 1) hx hb d_Mo_lower_71 (by decide) ?_
      refine lv_iadd hx hb d_Mo_lower_72 ?_
      refine lv_topi (fun x_31 ex_31 => ?_)
      have h := h x_31 ex_31
      refine lv_goto (tgt := 77) hx hb d_Mo_lower_73 (by decide) ?_
      exact blk_77  _ _ _ _ _ h hP hD hS (lv_sub hl [1, 2, 3, 4] rfl)
  unfold wp_Mo_lower at h
  refine lv_iload_n hx hb d_Mo_lower_0 rfl (lv_at hl 1 rfl) ?_
  refine lv_iconst (v := 1) hx hb d_Mo_lower_1 (by decide) ?_
  refine lv_iadd hx hb d_Mo_lower_2 ?_
  refine lv_topi (fun x_32 ex_32 => ?_)
  have h := h x_32 ex_32
  refine lv_istore_n (lv' := [(3, .int x_32), (0, .ref qu), (1, .int p1), (2, .int p2)]) hx hb d_Mo_lower_3 rfl hl (by decide) rfl (fun ls hl => ?_)
  refine lv_iload_n hx hb d_Mo_lower_4 rfl (lv_at hl 2 rfl) ?_
  refine lv_if_le (tgt := 151) hx hb d_Mo_lower_5 (by decide) (fun c_33 => ?_) (fun c_33 => ?_)
  · have h := h.1 c_33
    exact blk_151  _ _ _ _ h hP hD hS (lv_sub hl [1, 2, 3, 0] rfl)
  · have h := h.2 c_33
    refine lv_aload_n hx hb d_Mo_lower_8 rfl (lv_at hl 1 rfl) ?_
    refine lv_iload_n hx hb d_Mo_lower_9 rfl (lv_at hl 2 rfl) ?_
    refine lv_iload_n hx hb d_Mo_lower_10 rfl (lv_at hl 3 rfl) ?_
    refine call_V_i (As := [.int p1, .int p2]) (rest := []) C0 hP hD hS [0, 1, 2, 6, 7, 8] [3, 4, 5, 9] [4, 5, 6, 0, 1, 2, 7, 8, 9, 3] [(qu_links, .inl (cI, 2, .inl au_links)), (qu_from, .inl (cI, 24, .inl au_from)), (qu_to, .inl (cI, 24, .inl au_to)), (qu_cost, .inl (cI, 832, .inl au_cost))] (fun (v : Unit) (b : Unit) => (W_Mo_lower cI cC cB qu qu_bases qu_length qu_links qu_from qu_to qu_sideOf qu_within qu_read qu_cost qu_text qu_segments qu_names qu_nameSize qu_paths qu_titles qu_titleSize qu_steps qu_step qu_walk qu_edits qu_said fu_size fu_places fu_reads fu_there fu_total fu_walked fu_edited fu_written fu_at fu_end fu_began fu_many au_bases au_length au_links au_from au_to au_sideOf au_within au_read au_cost)) (ci := 6) rfl rfl (k_Mo_change l dC dI cI cC cB _ qu qu_bases qu_length qu_sideOf qu_within qu_read qu_text qu_segments qu_names qu_nameSize qu_links qu_from qu_to qu_paths qu_titles qu_titleSize qu_steps qu_step qu_cost qu_walk qu_edits qu_said fu_size fu_places fu_reads fu_there fu_total fu_walked fu_edited fu_written fu_at fu_end fu_began fu_many au_bases au_length au_sideOf au_within au_read p1 p2 h) (g_V w_507 w_508 w_509 w_418 w_506) 2 rfl (by decide +kernel) rfl rfl ⟨Nat.le_of_ble_eq_true rfl, Nat.le_of_ble_eq_true rfl⟩ rfl rfl (by decide) (by decide) (by decide) (by decide) (fun _ _ => rfl) hl.1 rfl (Nat.le_of_ble_eq_true rfl) d_Mo_lower_11 ⟨Nat.le_of_ble_eq_true rfl, Nat.le_of_ble_eq_true rfl⟩ (fun r_35 v_34 _ H locs h hP hD hS => ?_)
    have hP : va_P (dC, dI) cls (W_Mo_lower cI cC cB qu qu_bases qu_length qu_links qu_from qu_to qu_sideOf qu_within qu_read qu_cost qu_text qu_segments qu_names qu_nameSize qu_paths qu_titles qu_titleSize qu_steps qu_step qu_walk qu_edits qu_said fu_size fu_places fu_reads fu_there fu_total fu_walked fu_edited fu_written fu_at fu_end fu_began fu_many au_bases au_length au_links au_from au_to au_sideOf au_within au_read au_cost) H := hP
    have hD : va_D A (W_Mo_lower cI cC cB qu qu_bases qu_length qu_links qu_from qu_to qu_sideOf qu_within qu_read qu_cost qu_text qu_segments qu_names qu_nameSize qu_paths qu_titles qu_titleSize qu_steps qu_step qu_walk qu_edits qu_said fu_size fu_places fu_reads fu_there fu_total fu_walked fu_edited fu_written fu_at fu_end fu_began fu_many au_bases au_length au_links au_from au_to au_sideOf au_within au_read au_cost) := hD
    refine lv_istore (lv' := [(4, .int r_35), (3, .int x_32), (0, .ref qu), (1, .int p1), (2, .int p2)]) hx hb d_Mo_lower_14 hl (by decide) rfl (fun ls hl => ?_)
    refine lv_iload_n hx hb d_Mo_lower_16 rfl (lv_at hl 3 rfl) ?_
    refine lv_iconst (v := 1) hx hb d_Mo_lower_17 (by decide) ?_
    refine lv_isub hx hb d_Mo_lower_18 ?_
    refine lv_iload hx hb d_Mo_lower_19 (lv_at hl 0 rfl) ?_
    refine lv_iadd hx hb d_Mo_lower_21 ?_
    refine lv_topi (fun x_36 ex_36 => ?_)
    have h := h x_36 ex_36
    refine lv_iload_n hx hb d_Mo_lower_22 rfl (lv_at hl 1 rfl) ?_
    refine lv_icmp_ge (tgt := 35) hx hb d_Mo_lower_23 (by decide) (fun c_37 => ?_) (fun c_37 => ?_)
    · have h := h.1 c_37
      refine lv_iload_n hx hb d_Mo_lower_35 rfl (lv_at hl 1 rfl) ?_
      exact blk_36  _ _ _ _ _ h hP hD hS (lv_sub hl [2, 3, 4, 0] rfl)
    · have h := h.2 c_37
      refine lv_iload_n hx hb d_Mo_lower_26 rfl (lv_at hl 3 rfl) ?_
      refine lv_iconst (v := 1) hx hb d_Mo_lower_27 (by decide) ?_
      refine lv_isub hx hb d_Mo_lower_28 ?_
      refine lv_iload hx hb d_Mo_lower_29 (lv_at hl 0 rfl) ?_
      refine lv_iadd hx hb d_Mo_lower_31 ?_
      refine lv_topi (fun x_38 ex_38 => ?_)
      have h := h x_38 ex_38
      refine lv_goto (tgt := 36) hx hb d_Mo_lower_32 (by decide) ?_
      exact blk_36  _ _ _ _ _ h hP hD hS (lv_sub hl [2, 3, 4, 0] rfl)
