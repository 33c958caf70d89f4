abbrev W_Mo_segmentLine (cI cC cB : ClassId) (qu : Nat) (qu_text : Nat) (qu_segments : Nat) (qu_names : Nat) (qu_nameSize : Nat) (qu_bases : Nat) (qu_length : Nat) (qu_links : Nat) (qu_from : Nat) (qu_to : Nat) (qu_paths : Nat) (qu_titles : Nat) (qu_titleSize : Nat) (qu_steps : Nat) (qu_step : Nat) (qu_sideOf : Nat) (qu_within : Nat) (qu_read : Nat) (qu_cost : Nat) (qu_walk : Nat) (qu_edits : Nat) (qu_said : Nat) (fu_size : Int32) (fu_places : Int32) (fu_reads : Int32) (fu_there : Int32) (fu_total : Int32) (fu_walked : Int32) (fu_edited : Int32) (fu_written : Int32) (fu_at : Int32) (fu_end : Int32) (fu_began : Int32) (fu_many : Int32) (au_text : Nat → Int32) (au_segments : Nat → Int32) (au_names : Nat → Int32) (au_nameSize : Nat → Int32) (au_bases : Nat → Int32) (au_length : Nat → Int32) : va_W := [(qu, .inr (6, [.int fu_size, .ref qu_text, .ref qu_segments, .ref qu_names, .ref qu_nameSize, .ref qu_bases, .ref qu_length, .ref qu_links, .ref qu_from, .ref qu_to, .ref qu_paths, .ref qu_titles, .ref qu_titleSize, .ref qu_steps, .ref qu_step, .int fu_places, .ref qu_sideOf, .ref qu_within, .int fu_reads, .ref qu_read, .ref qu_cost, .int fu_there, .int fu_total, .int fu_walked, .ref qu_walk, .int fu_edited, .ref qu_edits, .int fu_written, .ref qu_said, .int fu_at, .int fu_end, .int fu_began, .int fu_many])), (qu_text, .inl (cC, 400, .inl au_text)), (qu_segments, .inl (cI, 2, .inl au_segments)), (qu_names, .inl (cC, 48, .inl au_names)), (qu_nameSize, .inl (cI, 16, .inl au_nameSize)), (qu_bases, .inl (cC, 64, .inl au_bases)), (qu_length, .inl (cI, 16, .inl au_length))]
def w_Mo_segmentLine_142B (Q : Int32 → (Int32 × Int32 × Int32 × (Nat → Int32) × (Nat → Int32) × (Nat → Int32) × (Nat → Int32) × (Nat → Int32)) → Prop)  (K_142 : Int32 → Int32 → Int32 → Int32 → Int32 → Int32 → (Nat → Int32) → (Nat → Int32) → (Nat → Int32) → (Nat → Int32) → (Nat → Int32) → Prop) (fu_end : Int32) (au_text : Nat → Int32) (x2 : Int32) (x3 : Int32) (x4 : Int32) (fu_at : Int32) (fu_began : Int32) (fu_many : Int32) (au_segments : Nat → Int32) (au_names : Nat → Int32) (au_nameSize : Nat → Int32) (au_bases : Nat → Int32) (au_length : Nat → Int32) : Prop := ((x3 ≤ x4 → (∀ x_2 : Int32, x_2 = 8 + x2 → (vp_in x_2 16 ∧ (∀ au_length_4 : Nat → Int32, au_length_4 = upd au_length x_2.toNatClampNeg x3 → (vp_in (1 : Int32) 2 ∧ (∀ x_6 : Int32, x_6 = (au_segments (1 : Int32).toNatClampNeg) + 1 → (vp_in (1 : Int32) 2 ∧ (∀ au_segments_8 : Nat → Int32, au_segments_8 = upd au_segments (1 : Int32).toNatClampNeg x_6 → (Q 1 (fu_at, fu_began, fu_many, au_segments_8, au_names, au_nameSize, au_bases, au_length_4)))))))))) ∧ (¬ x3 ≤ x4 → (∀ x_9 : Int32, x_9 = fu_at + x4 → (vp_in x_9 400 ∧ (∀ y_11 : Int32, y_11 = au_text x_9.toNatClampNeg → (wp_Mo_isBase (fun r_13 v_12 => ((r_13 = 0 → (Q 0 (fu_at, fu_began, fu_many, au_segments, au_names, au_nameSize, au_bases, au_length))) ∧ (¬ r_13 = 0 → (∀ x_15 : Int32, x_15 = (32 + (4 * x2)) + x4 → (∀ x_16 : Int32, x_16 = fu_at + x4 → (vp_in x_16 400 ∧ (∀ y_18 : Int32, y_18 = au_text x_16.toNatClampNeg → (vp_in x_15 64 ∧ (∀ au_bases_20 : Nat → Int32, au_bases_20 = upd au_bases x_15.toNatClampNeg (vp_nar .char y_18) → (∀ x4_21 : Int32, x4_21 = x4 + 1 → (K_142 x2 x3 x4_21 fu_at fu_began fu_many au_segments au_names au_nameSize au_bases_20 au_length))))))))))) y_11))))))
def w_Mo_segmentLine_142 (Q : Int32 → (Int32 × Int32 × Int32 × (Nat → Int32) × (Nat → Int32) × (Nat → Int32) × (Nat → Int32) × (Nat → Int32)) → Prop)  (fu_end : Int32) (au_text : Nat → Int32) : Nat → Int32 → Int32 → Int32 → Int32 → Int32 → Int32 → (Nat → Int32) → (Nat → Int32) → (Nat → Int32) → (Nat → Int32) → (Nat → Int32) → Prop
  | 0 => fun _ _ _ _ _ _ _ _ _ _ _ => False
  | n + 1 => fun x2 x3 x4 fu_at fu_began fu_many au_segments au_names au_nameSize au_bases au_length => w_Mo_segmentLine_142B Q  (w_Mo_segmentLine_142 Q  fu_end au_text n) fu_end au_text x2 x3 x4 fu_at fu_began fu_many au_segments au_names au_nameSize au_bases au_length
def w_Mo_segmentLine_56B (Q : Int32 → (Int32 × Int32 × Int32 × (Nat → Int32) × (Nat → Int32) × (Nat → Int32) × (Nat → Int32) × (Nat → Int32)) → Prop)  (K_56 : Int32 → Int32 → Int32 → Int32 → Int32 → Int32 → (Nat → Int32) → (Nat → Int32) → (Nat → Int32) → (Nat → Int32) → (Nat → Int32) → Prop) (fu_end : Int32) (au_text : Nat → Int32) (x1 : Int32) (x2 : Int32) (x3 : Int32) (fu_at : Int32) (fu_began : Int32) (fu_many : Int32) (au_segments : Nat → Int32) (au_names : Nat → Int32) (au_nameSize : Nat → Int32) (au_bases : Nat → Int32) (au_length : Nat → Int32) : Prop := ((fu_many ≤ x3 → (∀ x_23 : Int32, x_23 = 8 + x2 → (vp_in x_23 16 ∧ (∀ au_nameSize_25 : Nat → Int32, au_nameSize_25 = upd au_nameSize x_23.toNatClampNeg fu_many → (wp_Mo_eat (fun r_27 v_26 => ((r_27 = 0 → (Q 0 (v_26, fu_began, fu_many, au_segments, au_names, au_nameSize_25, au_bases, au_length))) ∧ (¬ r_27 = 0 → (∀ x_29 : Int32, x_29 = fu_end - v_26 → (((x_29 < 1 → (Q 0 (v_26, fu_began, fu_many, au_segments, au_names, au_nameSize_25, au_bases, au_length))) ∧ (¬ x_29 < 1 → (((x_29 ≤ 4 → (∃ fu_142 : Nat, w_Mo_segmentLine_142 Q fu_end au_text fu_142 x2 x_29 0 v_26 fu_began fu_many au_segments au_names au_nameSize_25 au_bases au_length)) ∧ (¬ x_29 ≤ 4 → (Q 0 (v_26, fu_began, fu_many, au_segments, au_names, au_nameSize_25, au_bases, au_length)))))))))))) x1 fu_at fu_end au_text))))) ∧ (¬ fu_many ≤ x3 → (∀ x_32 : Int32, x_32 = (24 + (3 * x2)) + x3 → (∀ x_33 : Int32, x_33 = fu_began + x3 → (vp_in x_33 400 ∧ (∀ y_35 : Int32, y_35 = au_text x_33.toNatClampNeg → (vp_in x_32 48 ∧ (∀ au_names_37 : Nat → Int32, au_names_37 = upd au_names x_32.toNatClampNeg (vp_nar .char y_35) → (∀ x3_38 : Int32, x3_38 = x3 + 1 → (K_56 x1 x2 x3_38 fu_at fu_began fu_many au_segments au_names_37 au_nameSize au_bases au_length))))))))))
def w_Mo_segmentLine_56 (Q : Int32 → (Int32 × Int32 × Int32 × (Nat → Int32) × (Nat → Int32) × (Nat → Int32) × (Nat → Int32) × (Nat → Int32)) → Prop)  (fu_end : Int32) (au_text : Nat → Int32) : Nat → Int32 → Int32 → Int32 → Int32 → Int32 → Int32 → (Nat → Int32) → (Nat → Int32) → (Nat → Int32) → (Nat → Int32) → (Nat → Int32) → Prop
  | 0 => fun _ _ _ _ _ _ _ _ _ _ _ => False
  | n + 1 => fun x1 x2 x3 fu_at fu_began fu_many au_segments au_names au_nameSize au_bases au_length => w_Mo_segmentLine_56B Q  (w_Mo_segmentLine_56 Q  fu_end au_text n) fu_end au_text x1 x2 x3 fu_at fu_began fu_many au_segments au_names au_nameSize au_bases au_length
def wp_Mo_segmentLine (Q : Int32 → (Int32 × Int32 × Int32 × (Nat → Int32) × (Nat → Int32) × (Nat → Int32) × (Nat → Int32) × (Nat → Int32)) → Prop)  (fu_at : Int32) (fu_end : Int32) (fu_began : Int32) (fu_many : Int32) (au_text : Nat → Int32) (au_segments : Nat → Int32) (au_names : Nat → Int32) (au_nameSize : Nat → Int32) (au_bases : Nat → Int32) (au_length : Nat → Int32) : Prop := wp_Mo_eat (fun r_40 v_39 => ((r_40 = 0 → (Q 0 (v_39, fu_began, fu_many, au_segments, au_names, au_nameSize, au_bases, au_length))) ∧ (¬ r_40 = 0 → (wp_Mo_eat (fun r_43 v_42 => ((r_43 = 0 → (Q 0 (v_42, fu_began, fu_many, au_segments, au_names, au_nameSize, au_bases, au_length))) ∧ (¬ r_43 = 0 → (wp_Mo_eatName (fun r_46 v_45 => ((r_46 = 0 → (Q 0 (v_45.1, v_45.2.1, v_45.2.2, au_segments, au_names, au_nameSize, au_bases, au_length))) ∧ (¬ r_46 = 0 → (wp_Mo_segmentNamed (fun r_49 v_48 => ((0 ≤ r_49 → (Q 0 (v_45.1, v_45.2.1, v_45.2.2, au_segments, au_names, au_nameSize, au_bases, au_length))) ∧ (¬ 0 ≤ r_49 → (vp_in (1 : Int32) 2 ∧ (∀ y_52 : Int32, y_52 = au_segments (1 : Int32).toNatClampNeg → (((y_52 = 8 → (Q 0 (v_45.1, v_45.2.1, v_45.2.2, au_segments, au_names, au_nameSize, au_bases, au_length))) ∧ (¬ y_52 = 8 → (vp_in (1 : Int32) 2 ∧ (∀ y_55 : Int32, y_55 = au_segments (1 : Int32).toNatClampNeg → (∃ fu_56 : Nat, w_Mo_segmentLine_56 Q fu_end au_text fu_56 9 y_55 0 v_45.1 v_45.2.1 v_45.2.2 au_segments au_names au_nameSize au_bases au_length))))))))))) v_45.2.1 v_45.2.2 au_text au_segments au_names au_nameSize)))) v_42 fu_end fu_began fu_many au_text)))) 9 v_39 fu_end au_text)))) 83 fu_at fu_end au_text
abbrev rm_Mo_segmentLine : Room := { frames := 2, cells := 0, slots := 0, locals := 40 }
set_option maxHeartbeats 4000000 in
set_option maxRecDepth 100000 in
theorem k_Mo_segmentLine (l : Launch) (dC : Nat → ClassId) (dI : Nat → Nat → Nat) (cI cC cB : ClassId) (sz : Nat) (qu : Nat) (qu_text : Nat) (qu_segments : Nat) (qu_names : Nat) (qu_nameSize : Nat) (qu_bases : Nat) (qu_length : Nat) (qu_links : Nat) (qu_from : Nat) (qu_to : Nat) (qu_paths : Nat) (qu_titles : Nat) (qu_titleSize : Nat) (qu_steps : Nat) (qu_step : Nat) (qu_sideOf : Nat) (qu_within : Nat) (qu_read : Nat) (qu_cost : Nat) (qu_walk : Nat) (qu_edits : Nat) (qu_said : Nat) (fu_size : Int32) (fu_places : Int32) (fu_reads : Int32) (fu_there : Int32) (fu_total : Int32) (fu_walked : Int32) (fu_edited : Int32) (fu_written : Int32) (fu_at : Int32) (fu_end : Int32) (fu_began : Int32) (fu_many : Int32) (au_text : Nat → Int32) (au_segments : Nat → Int32) (au_names : Nat → Int32) (au_nameSize : Nat → Int32) (au_bases : Nat → Int32) (au_length : Nat → Int32)  {Q : Int32 → (Int32 × Int32 × Int32 × (Nat → Int32) × (Nat → Int32) × (Nat → Int32) × (Nat → Int32) × (Nat → Int32)) → Prop} (h : wp_Mo_segmentLine Q  fu_at fu_end fu_began fu_many au_text au_segments au_names au_nameSize au_bases au_length) :
    CTi l y_Mo_segmentLine (wM y_Mo_segmentLine c_Mo_segmentLine 5 (some .boolean)) rm_Mo_segmentLine 0 0 (dC, dI) (tysL cI cC cB) [.ref qu] (W_Mo_segmentLine cI cC cB qu qu_text qu_segments qu_names qu_nameSize qu_bases qu_length qu_links qu_from qu_to qu_paths qu_titles qu_titleSize qu_steps qu_step qu_sideOf qu_within qu_read qu_cost qu_walk qu_edits qu_said fu_size fu_places fu_reads fu_there fu_total fu_walked fu_edited fu_written fu_at fu_end fu_began fu_many au_text au_segments au_names au_nameSize au_bases au_length) sz Q (fun (v : Int32 × Int32 × Int32 × (Nat → Int32) × (Nat → Int32) × (Nat → Int32) × (Nat → Int32) × (Nat → Int32)) (b : Unit) => (W_Mo_segmentLine cI cC cB qu qu_text qu_segments qu_names qu_nameSize qu_bases qu_length qu_links qu_from qu_to qu_paths qu_titles qu_titleSize qu_steps qu_step qu_sideOf qu_within qu_read qu_cost qu_walk qu_edits qu_said fu_size fu_places fu_reads fu_there fu_total fu_walked fu_edited fu_written v.1 fu_end v.2.1 v.2.2.1 au_text v.2.2.2.1 v.2.2.2.2.1 v.2.2.2.2.2.1 v.2.2.2.2.2.2.1 v.2.2.2.2.2.2.2)) := by
  refine CTi.std (by decide) (Nat.le_of_ble_eq_true rfl) ?_
  intro p e s m args below meth c A ls QF C0 hP hD hl hS hsz hnm hret
  obtain ⟨hx, hb, hr, hml, hown, hts, hlocks, hN, hA, hK⟩ := id C0
  have hown : s.vm.findClass R_Mo = some m.cls := hown
  have hl : lv_has ls 5 [(0, .ref qu)] := hl
  clear hsz hnm
  have blk_142 : ∀  (n : Nat) (x2 : Int32) (x3 : Int32) (x4 : Int32) (fu_at : Int32) (fu_began : Int32) (fu_many : Int32) (au_segments : Nat → Int32) (au_names : Nat → Int32) (au_nameSize : Nat → Int32) (au_bases : Nat → Int32) (au_length : Nat → Int32)  (H : Heap) (locs : List Loc) (ls : Array Slot), w_Mo_segmentLine_142 Q  fu_end au_text n x2 x3 x4 fu_at fu_began fu_many au_segments au_names au_nameSize au_bases au_length → va_P (dC, dI) cls (W_Mo_segmentLine cI cC cB qu qu_text qu_segments qu_names qu_nameSize qu_bases qu_length qu_links qu_from qu_to qu_paths qu_titles qu_titleSize qu_steps qu_step qu_sideOf qu_within qu_read qu_cost qu_walk qu_edits qu_said fu_size fu_places fu_reads fu_there fu_total fu_walked fu_edited fu_written fu_at fu_end fu_began fu_many au_text au_segments au_names au_nameSize au_bases au_length) H → va_D A (W_Mo_segmentLine cI cC cB qu qu_text qu_segments qu_names qu_nameSize qu_bases qu_length qu_links qu_from qu_to qu_paths qu_titles qu_titleSize qu_steps qu_step qu_sideOf qu_within qu_read qu_cost qu_walk qu_edits qu_said fu_size fu_places fu_reads fu_there fu_total fu_walked fu_edited fu_written fu_at fu_end fu_began fu_many au_text au_segments au_names au_nameSize au_bases au_length) → va_S A s.heap H locs → lv_has ls 5 [(0, .ref qu), (2, .int x2), (3, .int x3), (4, .int x4)] → W p l e rm_Mo_segmentLine s m args below meth c H locs 0 0 QF (F0 m 142 ls []) := by
    intro  n
    induction n with
    | zero => intro x2 x3 x4 fu_at fu_began fu_many au_segments au_names au_nameSize au_bases au_length  H locs ls h; exact (show False from h).elim
    | succ n ih =>
      intro x2 x3 x4 fu_at fu_began fu_many au_segments au_names au_nameSize au_bases au_length  H locs ls h hP hD hS hl
      have h : w_Mo_segmentLine_142B Q  (w_Mo_segmentLine_142 Q  fu_end au_text n) fu_end au_text x2 x3 x4 fu_at fu_began fu_many au_segments au_names au_nameSize au_bases au_length := h
      generalize w_Mo_segmentLine_142 Q  fu_end au_text n = K_142 at h ih
      unfold w_Mo_segmentLine_142B at h
      refine lv_iload hx hb d_Mo_segmentLine_142 (lv_at hl 3 rfl) ?_
      refine lv_iload_n hx hb d_Mo_segmentLine_144 rfl (lv_at hl 2 rfl) ?_
      refine lv_icmp_ge (tgt := 200) hx hb d_Mo_segmentLine_145 (by decide) (fun c_1 => ?_) (fun c_1 => ?_)
      · have h := h.1 c_1
        refine lv_aload_n hx hb d_Mo_segmentLine_200 rfl (lv_at hl 0 rfl) ?_
        refine va_get (D := (dC, dI)) (ci := 6) (v := .ref qu_length) (C := R_Mo) (T := T_Mo) (N := 33) hx hb hts in_Mo hown hK hP 0 rfl rfl 6 (by decide) (hts _ w_466) (fun _ h9 => h9) rfl d_Mo_segmentLine_201 ?_
        refine lv_bipush (v := 8) hx hb d_Mo_segmentLine_204 (by decide) ?_
        refine lv_iload_n hx hb d_Mo_segmentLine_206 rfl (lv_at hl 1 rfl) ?_
        refine lv_iadd hx hb d_Mo_segmentLine_207 ?_
        refine lv_topi (fun x_2 ex_2 => ?_)
        have h := h x_2 ex_2
        refine lv_iload_n hx hb d_Mo_segmentLine_208 rfl (lv_at hl 2 rfl) ?_
        have hi_3 := h.1
        have h := h.2
        refine va_iast hx hb hK hP hD hS 6 0 rfl rfl hi_3 d_Mo_segmentLine_209 (fun H locs hP hD hS => ?_)
        obtain ⟨au_length_4, eau_length_4⟩ : ∃ z : Nat → Int32, z = upd au_length x_2.toNatClampNeg x3 := ⟨_, rfl⟩
        have h := h au_length_4 eau_length_4
        have hP : va_P (dC, dI) cls (W_Mo_segmentLine cI cC cB qu qu_text qu_segments qu_names qu_nameSize qu_bases qu_length qu_links qu_from qu_to qu_paths qu_titles qu_titleSize qu_steps qu_step qu_sideOf qu_within qu_read qu_cost qu_walk qu_edits qu_said fu_size fu_places fu_reads fu_there fu_total fu_walked fu_edited fu_written fu_at fu_end fu_began fu_many au_text au_segments au_names au_nameSize au_bases au_length_4) H := by rw [eau_length_4]; exact hP
        have hD : va_D A (W_Mo_segmentLine cI cC cB qu qu_text qu_segments qu_names qu_nameSize qu_bases qu_length qu_links qu_from qu_to qu_paths qu_titles qu_titleSize qu_steps qu_step qu_sideOf qu_within qu_read qu_cost qu_walk qu_edits qu_said fu_size fu_places fu_reads fu_there fu_total fu_walked fu_edited fu_written fu_at fu_end fu_began fu_many au_text au_segments au_names au_nameSize au_bases au_length_4) := by rw [eau_length_4]; exact hD
        refine lv_aload_n hx hb d_Mo_segmentLine_210 rfl (lv_at hl 0 rfl) ?_
        refine va_get (D := (dC, dI)) (ci := 6) (v := .ref qu_segments) (C := R_Mo) (T := T_Mo) (N := 33) hx hb hts in_Mo hown hK hP 0 rfl rfl 2 (by decide) (hts _ w_431) (fun _ h9 => h9) rfl d_Mo_segmentLine_211 ?_
        refine lv_iconst (v := 1) hx hb d_Mo_segmentLine_214 (by decide) ?_
        refine lv_dup2_11 hx hb d_Mo_segmentLine_215 rfl rfl ?_
        have hi_5 := h.1
        have h := h.2
        refine va_iald hx hb hK hP 2 0 rfl rfl hi_5 d_Mo_segmentLine_216 ?_
        refine lv_iconst (v := 1) hx hb d_Mo_segmentLine_217 (by decide) ?_
        refine lv_iadd hx hb d_Mo_segmentLine_218 ?_
        refine lv_topi (fun x_6 ex_6 => ?_)
        have h := h x_6 ex_6
        have hi_7 := h.1
        have h := h.2
        refine va_iast hx hb hK hP hD hS 2 0 rfl rfl hi_7 d_Mo_segmentLine_219 (fun H locs hP hD hS => ?_)
        obtain ⟨au_segments_8, eau_segments_8⟩ : ∃ z : Nat → Int32, z = upd au_segments (1 : Int32).toNatClampNeg x_6 := ⟨_, rfl⟩
        have h := h au_segments_8 eau_segments_8
        have hP : va_P (dC, dI) cls (W_Mo_segmentLine cI cC cB qu qu_text qu_segments qu_names qu_nameSize qu_bases qu_length qu_links qu_from qu_to qu_paths qu_titles qu_titleSize qu_steps qu_step qu_sideOf qu_within qu_read qu_cost qu_walk qu_edits qu_said fu_size fu_places fu_reads fu_there fu_total fu_walked fu_edited fu_written fu_at fu_end fu_began fu_many au_text au_segments_8 au_names au_nameSize au_bases au_length_4) H := by rw [eau_segments_8]; exact hP
        have hD : va_D A (W_Mo_segmentLine cI cC cB qu qu_text qu_segments qu_names qu_nameSize qu_bases qu_length qu_links qu_from qu_to qu_paths qu_titles qu_titleSize qu_steps qu_step qu_sideOf qu_within qu_read qu_cost qu_walk qu_edits qu_said fu_size fu_places fu_reads fu_there fu_total fu_walked fu_edited fu_written fu_at fu_end fu_began fu_many au_text au_segments_8 au_names au_nameSize au_bases au_length_4) := by rw [eau_segments_8]; exact hD
        refine lv_iconst (v := 1) hx hb d_Mo_segmentLine_220 (by decide) ?_
        exact hret (fu_at, fu_began, fu_many, au_segments_8, au_names, au_nameSize, au_bases, au_length_4) () 1 _ _ _ _ rfl h hP hD hS d_Mo_segmentLine_221
      · have h := h.2 c_1
        refine lv_aload_n hx hb d_Mo_segmentLine_148 rfl (lv_at hl 0 rfl) ?_
        refine va_get (D := (dC, dI)) (ci := 6) (v := .ref qu_text) (C := R_Mo) (T := T_Mo) (N := 33) hx hb hts in_Mo hown hK hP 0 rfl rfl 1 (by decide) (hts _ w_410) (fun _ h9 => h9) rfl d_Mo_segmentLine_149 ?_
        refine lv_aload_n hx hb d_Mo_segmentLine_152 rfl (lv_at hl 0 rfl) ?_
        refine va_get (D := (dC, dI)) (ci := 6) (v := .int fu_at) (C := R_Mo) (T := T_Mo) (N := 33) hx hb hts in_Mo hown hK hP 0 rfl rfl 29 (by decide) (hts _ w_411) (fun _ h9 => h9) rfl d_Mo_segmentLine_153 ?_
        refine lv_iload hx hb d_Mo_segmentLine_156 (lv_at hl 3 rfl) ?_
        refine lv_iadd hx hb d_Mo_segmentLine_158 ?_
        refine lv_topi (fun x_9 ex_9 => ?_)
        have h := h x_9 ex_9
        have hi_10 := h.1
        have h := h.2
        refine va_cald hx hb hK hP 1 1 rfl rfl hi_10 d_Mo_segmentLine_159 ?_
        refine lv_topi (fun y_11 ey_11 => ?_)
        have h := h y_11 ey_11
        refine call_S_i (As := [.int y_11]) (rest := []) C0 hP hD hS [] [0, 1, 2, 3, 4, 5, 6] [0, 1, 2, 3, 4, 5, 6] [(qu, .inr (6, [.int fu_size, .ref qu_text, .ref qu_segments, .ref qu_names, .ref qu_nameSize, .ref qu_bases, .ref qu_length, .ref qu_links, .ref qu_from, .ref qu_to, .ref qu_paths, .ref qu_titles, .ref qu_titleSize, .ref qu_steps, .ref qu_step, .int fu_places, .ref qu_sideOf, .ref qu_within, .int fu_reads, .ref qu_read, .ref qu_cost, .int fu_there, .int fu_total, .int fu_walked, .ref qu_walk, .int fu_edited, .ref qu_edits, .int fu_written, .ref qu_said, .int fu_at, .int fu_end, .int fu_began, .int fu_many])), (qu_text, .inl (cC, 400, .inl au_text)), (qu_segments, .inl (cI, 2, .inl au_segments)), (qu_names, .inl (cC, 48, .inl au_names)), (qu_nameSize, .inl (cI, 16, .inl au_nameSize)), (qu_bases, .inl (cC, 64, .inl au_bases)), (qu_length, .inl (cI, 16, .inl au_length))] (fun (v : Unit) (b : Unit) => (W_Mo_segmentLine cI cC cB qu qu_text qu_segments qu_names qu_nameSize qu_bases qu_length qu_links qu_from qu_to qu_paths qu_titles qu_titleSize qu_steps qu_step qu_sideOf qu_within qu_read qu_cost qu_walk qu_edits qu_said fu_size fu_places fu_reads fu_there fu_total fu_walked fu_edited fu_written fu_at fu_end fu_began fu_many au_text au_segments au_names au_nameSize au_bases au_length)) (k_Mo_isBase l dC dI cI cC cB _ y_11 h) (g_S w_469 w_470 w_418 w_468) 1 rfl (by decide +kernel) rfl rfl ⟨Nat.le_of_ble_eq_true rfl, Nat.le_of_ble_eq_true rfl⟩ rfl rfl (by decide) (by decide) (by decide) (by decide) (fun _ _ => rfl) hl.1 rfl (Nat.le_of_ble_eq_true rfl) d_Mo_segmentLine_160 ⟨Nat.le_of_ble_eq_true rfl, Nat.le_of_ble_eq_true rfl⟩ (fun r_13 v_12 _ H locs h hP hD hS => ?_)
        have hP : va_P (dC, dI) cls (W_Mo_segmentLine cI cC cB qu qu_text qu_segments qu_names qu_nameSize qu_bases qu_length qu_links qu_from qu_to qu_paths qu_titles qu_titleSize qu_steps qu_step qu_sideOf qu_within qu_read qu_cost qu_walk qu_edits qu_said fu_size fu_places fu_reads fu_there fu_total fu_walked fu_edited fu_written fu_at fu_end fu_began fu_many au_text au_segments au_names au_nameSize au_bases au_length) H := hP
        have hD : va_D A (W_Mo_segmentLine cI cC cB qu qu_text qu_segments qu_names qu_nameSize qu_bases qu_length qu_links qu_from qu_to qu_paths qu_titles qu_titleSize qu_steps qu_step qu_sideOf qu_within qu_read qu_cost qu_walk qu_edits qu_said fu_size fu_places fu_reads fu_there fu_total fu_walked fu_edited fu_written fu_at fu_end fu_began fu_many au_text au_segments au_names au_nameSize au_bases au_length) := hD
        refine lv_if_ne (tgt := 168) hx hb d_Mo_segmentLine_163 (by decide) (fun c_14 => ?_) (fun c_14 => ?_)
        · have h := h.2 c_14
          refine lv_aload_n hx hb d_Mo_segmentLine_168 rfl (lv_at hl 0 rfl) ?_
          refine va_get (D := (dC, dI)) (ci := 6) (v := .ref qu_bases) (C := R_Mo) (T := T_Mo) (N := 33) hx hb hts in_Mo hown hK hP 0 rfl rfl 5 (by decide) (hts _ w_467) (fun _ h9 => h9) rfl d_Mo_segmentLine_169 ?_
          refine lv_bipush (v := 32) hx hb d_Mo_segmentLine_172 (by decide) ?_
          refine lv_iconst (v := 4) hx hb d_Mo_segmentLine_174 (by decide) ?_
          refine lv_iload_n hx hb d_Mo_segmentLine_175 rfl (lv_at hl 1 rfl) ?_
          refine lv_imul hx hb d_Mo_segmentLine_176 ?_
          refine lv_iadd hx hb d_Mo_segmentLine_177 ?_
          refine lv_iload hx hb d_Mo_segmentLine_178 (lv_at hl 3 rfl) ?_
          refine lv_iadd hx hb d_Mo_segmentLine_180 ?_
          refine lv_topi (fun x_15 ex_15 => ?_)
          have h := h x_15 ex_15
          refine lv_aload_n hx hb d_Mo_segmentLine_181 rfl (lv_at hl 0 rfl) ?_
          refine va_get (D := (dC, dI)) (ci := 6) (v := .ref qu_text) (C := R_Mo) (T := T_Mo) (N := 33) hx hb hts in_Mo hown hK hP 0 rfl rfl 1 (by decide) (hts _ w_410) (fun _ h9 => h9) rfl d_Mo_segmentLine_182 ?_
          refine lv_aload_n hx hb d_Mo_segmentLine_185 rfl (lv_at hl 0 rfl) ?_
          refine va_get (D := (dC, dI)) (ci := 6) (v := .int fu_at) (C := R_Mo) (T := T_Mo) (N := 33) hx hb hts in_Mo hown hK hP 0 rfl rfl 29 (by decide) (hts _ w_411) (fun _ h9 => h9) rfl d_Mo_segmentLine_186 ?_
          refine lv_iload hx hb d_Mo_segmentLine_189 (lv_at hl 3 rfl) ?_
          refine lv_iadd hx hb d_Mo_segmentLine_191 ?_
          refine lv_topi (fun x_16 ex_16 => ?_)
          have h := h x_16 ex_16
          have hi_17 := h.1
          have h := h.2
          refine va_cald hx hb hK hP 1 1 rfl rfl hi_17 d_Mo_segmentLine_192 ?_
          refine lv_topi (fun y_18 ey_18 => ?_)
          have h := h y_18 ey_18
          have hi_19 := h.1
          have h := h.2
          refine va_cast hx hb hK hP hD hS 5 1 rfl rfl hi_19 d_Mo_segmentLine_193 (fun H locs hP hD hS => ?_)
          obtain ⟨au_bases_20, eau_bases_20⟩ : ∃ z : Nat → Int32, z = upd au_bases x_15.toNatClampNeg (vp_nar .char y_18) := ⟨_, rfl⟩
          have h := h au_bases_20 eau_bases_20
          have hP : va_P (dC, dI) cls (W_Mo_segmentLine cI cC cB qu qu_text qu_segments qu_names qu_nameSize qu_bases qu_length qu_links qu_from qu_to qu_paths qu_titles qu_titleSize qu_steps qu_step qu_sideOf qu_within qu_read qu_cost qu_walk qu_edits qu_said fu_size fu_places fu_reads fu_there fu_total fu_walked fu_edited fu_written fu_at fu_end fu_began fu_many au_text au_segments au_names au_nameSize au_bases_20 au_length) H := by rw [eau_bases_20]; exact hP
          have hD : va_D A (W_Mo_segmentLine cI cC cB qu qu_text qu_segments qu_names qu_nameSize qu_bases qu_length qu_links qu_from qu_to qu_paths qu_titles qu_titleSize qu_steps qu_step qu_sideOf qu_within qu_read qu_cost qu_walk qu_edits qu_said fu_size fu_places fu_reads fu_there fu_total fu_walked fu_edited fu_written fu_at fu_end fu_began fu_many au_text au_segments au_names au_nameSize au_bases_20 au_length) := by rw [eau_bases_20]; exact hD
          obtain ⟨x4_21, ex4_21⟩ : ∃ y : Int32, y = x4 + 1 := ⟨_, rfl⟩
          have h := h x4_21 ex4_21
          refine lv_iinc (v := x4_21) (lv' := [(4, .int x4_21), (0, .ref qu), (2, .int x2), (3, .int x3)]) hx hb d_Mo_segmentLine_194 hl (k := 3) rfl (by rw [ex4_21]; rfl) (by decide) rfl (fun ls hl => ?_)
          refine lv_goto (tgt := 142) hx hb d_Mo_segmentLine_197 (by decide) ?_
          exact ih _ _ _ _ _ _ _ _ _ _ _ _ _ _ h hP hD hS (lv_sub hl [1, 2, 3, 0] rfl)
        · have h := h.1 c_14
          refine lv_iconst (v := 0) hx hb d_Mo_segmentLine_166 (by decide) ?_
          exact hret (fu_at, fu_began, fu_many, au_segments, au_names, au_nameSize, au_bases, au_length) () 0 _ _ _ _ rfl h hP hD hS d_Mo_segmentLine_167
  have blk_56 : ∀  (n : Nat) (x1 : Int32) (x2 : Int32) (x3 : Int32) (fu_at : Int32) (fu_began : Int32) (fu_many : Int32) (au_segments : Nat → Int32) (au_names : Nat → Int32) (au_nameSize : Nat → Int32) (au_bases : Nat → Int32) (au_length : Nat → Int32)  (H : Heap) (locs : List Loc) (ls : Array Slot), w_Mo_segmentLine_56 Q  fu_end au_text n x1 x2 x3 fu_at fu_began fu_many au_segments au_names au_nameSize au_bases au_length → va_P (dC, dI) cls (W_Mo_segmentLine cI cC cB qu qu_text qu_segments qu_names qu_nameSize qu_bases qu_length qu_links qu_from qu_to qu_paths qu_titles qu_titleSize qu_steps qu_step qu_sideOf qu_within qu_read qu_cost qu_walk qu_edits qu_said fu_size fu_places fu_reads fu_there fu_total fu_walked fu_edited fu_written fu_at fu_end fu_began fu_many au_text au_segments au_names au_nameSize au_bases au_length) H → va_D A (W_Mo_segmentLine cI cC cB qu qu_text qu_segments qu_names qu_nameSize qu_bases qu_length qu_links qu_from qu_to qu_paths qu_titles qu_titleSize qu_steps qu_step qu_sideOf qu_within qu_read qu_cost qu_walk qu_edits qu_said fu_size fu_places fu_reads fu_there fu_total fu_walked fu_edited fu_written fu_at fu_end fu_began fu_many au_text au_segments au_names au_nameSize au_bases au_length) → va_S A s.heap H locs → lv_has ls 5 [(0, .ref qu), (1, .int x1), (2, .int x2), (3, .int x3)] → W p l e rm_Mo_segmentLine s m args below meth c H locs 0 0 QF (F0 m 56 ls []) := by
    intro  n
    induction n with
    | zero => intro x1 x2 x3 fu_at fu_began fu_many au_segments au_names au_nameSize au_bases au_length  H locs ls h; exact (show False from h).elim
    | succ n ih =>
      intro x1 x2 x3 fu_at fu_began fu_many au_segments au_names au_nameSize au_bases au_length  H locs ls h hP hD hS hl
      have h : w_Mo_segmentLine_56B Q  (w_Mo_segmentLine_56 Q  fu_end au_text n) fu_end au_text x1 x2 x3 fu_at fu_began fu_many au_segments au_names au_nameSize au_bases au_length := h
      generalize w_Mo_segmentLine_56 Q  fu_end au_text n = K_56 at h ih
      unfold w_Mo_segmentLine_56B at h
      refine lv_iload_n hx hb d_Mo_segmentLine_56 rfl (lv_at hl 3 rfl) ?_
      refine lv_aload_n hx hb d_Mo_segmentLine_57 rfl (lv_at hl 0 rfl) ?_
      refine va_get (D := (dC, dI)) (ci := 6) (v := .int fu_many) (C := R_Mo) (T := T_Mo) (N := 33) hx hb hts in_Mo hown hK hP 0 rfl rfl 32 (by decide) (hts _ w_426) (fun _ h9 => h9) rfl d_Mo_segmentLine_58 ?_
      refine lv_icmp_ge (tgt := 94) hx hb d_Mo_segmentLine_61 (by decide) (fun c_22 => ?_) (fun c_22 => ?_)
      · have h := h.1 c_22
        refine lv_aload_n hx hb d_Mo_segmentLine_94 rfl (lv_at hl 0 rfl) ?_
        refine va_get (D := (dC, dI)) (ci := 6) (v := .ref qu_nameSize) (C := R_Mo) (T := T_Mo) (N := 33) hx hb hts in_Mo hown hK hP 0 rfl rfl 4 (by decide) (hts _ w_432) (fun _ h9 => h9) rfl d_Mo_segmentLine_95 ?_
        refine lv_bipush (v := 8) hx hb d_Mo_segmentLine_98 (by decide) ?_
        refine lv_iload_n hx hb d_Mo_segmentLine_100 rfl (lv_at hl 2 rfl) ?_
        refine lv_iadd hx hb d_Mo_segmentLine_101 ?_
        refine lv_topi (fun x_23 ex_23 => ?_)
        have h := h x_23 ex_23
        refine lv_aload_n hx hb d_Mo_segmentLine_102 rfl (lv_at hl 0 rfl) ?_
        refine va_get (D := (dC, dI)) (ci := 6) (v := .int fu_many) (C := R_Mo) (T := T_Mo) (N := 33) hx hb hts in_Mo hown hK hP 0 rfl rfl 32 (by decide) (hts _ w_426) (fun _ h9 => h9) rfl d_Mo_segmentLine_103 ?_
        have hi_24 := h.1
        have h := h.2
        refine va_iast hx hb hK hP hD hS 4 0 rfl rfl hi_24 d_Mo_segmentLine_106 (fun H locs hP hD hS => ?_)
        obtain ⟨au_nameSize_25, eau_nameSize_25⟩ : ∃ z : Nat → Int32, z = upd au_nameSize x_23.toNatClampNeg fu_many := ⟨_, rfl⟩
        have h := h au_nameSize_25 eau_nameSize_25
        have hP : va_P (dC, dI) cls (W_Mo_segmentLine cI cC cB qu qu_text qu_segments qu_names qu_nameSize qu_bases qu_length qu_links qu_from qu_to qu_paths qu_titles qu_titleSize qu_steps qu_step qu_sideOf qu_within qu_read qu_cost qu_walk qu_edits qu_said fu_size fu_places fu_reads fu_there fu_total fu_walked fu_edited fu_written fu_at fu_end fu_began fu_many au_text au_segments au_names au_nameSize_25 au_bases au_length) H := by rw [eau_nameSize_25]; exact hP
        have hD : va_D A (W_Mo_segmentLine cI cC cB qu qu_text qu_segments qu_names qu_nameSize qu_bases qu_length qu_links qu_from qu_to qu_paths qu_titles qu_titleSize qu_steps qu_step qu_sideOf qu_within qu_read qu_cost qu_walk qu_edits qu_said fu_size fu_places fu_reads fu_there fu_total fu_walked fu_edited fu_written fu_at fu_end fu_began fu_many au_text au_segments au_names au_nameSize_25 au_bases au_length) := by rw [eau_nameSize_25]; exact hD
        refine lv_aload_n hx hb d_Mo_segmentLine_107 rfl (lv_at hl 0 rfl) ?_
        refine lv_iload_n hx hb d_Mo_segmentLine_108 rfl (lv_at hl 1 rfl) ?_
        refine call_V_i (As := [.int x1]) (rest := []) C0 hP hD hS [0, 1] [2, 3, 4, 5, 6] [5, 6, 0, 1, 2, 3, 4] [(qu_segments, .inl (cI, 2, .inl au_segments)), (qu_names, .inl (cC, 48, .inl au_names)), (qu_nameSize, .inl (cI, 16, .inl au_nameSize_25)), (qu_bases, .inl (cC, 64, .inl au_bases)), (qu_length, .inl (cI, 16, .inl au_length))] (fun (v : Int32) (b : Unit) => (W_Mo_segmentLine cI cC cB qu qu_text qu_segments qu_names qu_nameSize qu_bases qu_length qu_links qu_from qu_to qu_paths qu_titles qu_titleSize qu_steps qu_step qu_sideOf qu_within qu_read qu_cost qu_walk qu_edits qu_said fu_size fu_places fu_reads fu_there fu_total fu_walked fu_edited fu_written v fu_end fu_began fu_many au_text au_segments au_names au_nameSize_25 au_bases au_length)) (ci := 6) rfl rfl (k_Mo_eat l dC dI cI cC cB _ qu qu_text qu_segments qu_names qu_nameSize qu_bases qu_length qu_links qu_from qu_to qu_paths qu_titles qu_titleSize qu_steps qu_step qu_sideOf qu_within qu_read qu_cost qu_walk qu_edits qu_said fu_size fu_places fu_reads fu_there fu_total fu_walked fu_edited fu_written fu_at fu_end fu_began fu_many au_text x1 h) (g_V w_415 w_416 w_417 w_418 w_414) 1 rfl (by decide +kernel) rfl rfl ⟨Nat.le_of_ble_eq_true rfl, Nat.le_of_ble_eq_true rfl⟩ rfl rfl (by decide) (by decide) (by decide) (by decide) (fun _ _ => rfl) hl.1 rfl (Nat.le_of_ble_eq_true rfl) d_Mo_segmentLine_109 ⟨Nat.le_of_ble_eq_true rfl, Nat.le_of_ble_eq_true rfl⟩ (fun r_27 v_26 _ H locs h hP hD hS => ?_)
        have hP : va_P (dC, dI) cls (W_Mo_segmentLine cI cC cB qu qu_text qu_segments qu_names qu_nameSize qu_bases qu_length qu_links qu_from qu_to qu_paths qu_titles qu_titleSize qu_steps qu_step qu_sideOf qu_within qu_read qu_cost qu_walk qu_edits qu_said fu_size fu_places fu_reads fu_there fu_total fu_walked fu_edited fu_written v_26 fu_end fu_began fu_many au_text au_segments au_names au_nameSize_25 au_bases au_length) H := hP
        have hD : va_D A (W_Mo_segmentLine cI cC cB qu qu_text qu_segments qu_names qu_nameSize qu_bases qu_length qu_links qu_from qu_to qu_paths qu_titles qu_titleSize qu_steps qu_step qu_sideOf qu_within qu_read qu_cost qu_walk qu_edits qu_said fu_size fu_places fu_reads fu_there fu_total fu_walked fu_edited fu_written v_26 fu_end fu_began fu_many au_text au_segments au_names au_nameSize_25 au_bases au_length) := hD
        refine lv_if_ne (tgt := 117) hx hb d_Mo_segmentLine_112 (by decide) (fun c_28 => ?_) (fun c_28 => ?_)
        · have h := h.2 c_28
          refine lv_aload_n hx hb d_Mo_segmentLine_117 rfl (lv_at hl 0 rfl) ?_
          refine va_get (D := (dC, dI)) (ci := 6) (v := .int fu_end) (C := R_Mo) (T := T_Mo) (N := 33) hx hb hts in_Mo hown hK hP 0 rfl rfl 30 (by decide) (hts _ w_412) (fun _ h9 => h9) rfl d_Mo_segmentLine_118 ?_
          refine lv_aload_n hx hb d_Mo_segmentLine_121 rfl (lv_at hl 0 rfl) ?_
          refine va_get (D := (dC, dI)) (ci := 6) (v := .int v_26) (C := R_Mo) (T := T_Mo) (N := 33) hx hb hts in_Mo hown hK hP 0 rfl rfl 29 (by decide) (hts _ w_411) (fun _ h9 => h9) rfl d_Mo_segmentLine_122 ?_
          refine lv_isub hx hb d_Mo_segmentLine_125 ?_
          refine lv_topi (fun x_29 ex_29 => ?_)
          have h := h x_29 ex_29
          refine lv_istore_n (lv' := [(3, .int x_29), (0, .ref qu), (1, .int x1), (2, .int x2)]) hx hb d_Mo_segmentLine_126 rfl hl (by decide) rfl (fun ls hl => ?_)
          refine lv_iload_n hx hb d_Mo_segmentLine_127 rfl (lv_at hl 0 rfl) ?_
          refine lv_iconst (v := 1) hx hb d_Mo_segmentLine_128 (by decide) ?_
          refine lv_icmp_lt (tgt := 137) hx hb d_Mo_segmentLine_129 (by decide) (fun c_30 => ?_) (fun c_30 => ?_)
          · have h := h.1 c_30
            refine lv_iconst (v := 0) hx hb d_Mo_segmentLine_137 (by decide) ?_
            exact hret (v_26, fu_began, fu_many, au_segments, au_names, au_nameSize_25, au_bases, au_length) () 0 _ _ _ _ rfl h hP hD hS d_Mo_segmentLine_138
          · have h := h.2 c_30
            refine lv_iload_n hx hb d_Mo_segmentLine_132 rfl (lv_at hl 0 rfl) ?_
            refine lv_iconst (v := 4) hx hb d_Mo_segmentLine_133 (by decide) ?_
            refine lv_icmp_le (tgt := 139) hx hb d_Mo_segmentLine_134 (by decide) (fun c_31 => ?_) (fun c_31 => ?_)
            · have h := h.1 c_31
              refine lv_iconst (v := 0) hx hb d_Mo_segmentLine_139 (by decide) ?_
              refine lv_istore (lv' := [(4, .int 0), (3, .int x_29), (0, .ref qu), (1, .int x1), (2, .int x2)]) hx hb d_Mo_segmentLine_140 hl (by decide) rfl (fun ls hl => ?_)
              obtain ⟨fu_142, h⟩ := h
              exact blk_142  _ _ _ _ _ _ _ _ _ _ _ _ _ _ _ h hP hD hS (lv_sub hl [2, 4, 1, 0] rfl)
            · have h := h.2 c_31
              refine lv_iconst (v := 0) hx hb d_Mo_segmentLine_137 (by decide) ?_
              exact hret (v_26, fu_began, fu_many, au_segments, au_names, au_nameSize_25, au_bases, au_length) () 0 _ _ _ _ rfl h hP hD hS d_Mo_segmentLine_138
        · have h := h.1 c_28
          refine lv_iconst (v := 0) hx hb d_Mo_segmentLine_115 (by decide) ?_
          exact hret (v_26, fu_began, fu_many, au_segments, au_names, au_nameSize_25, au_bases, au_length) () 0 _ _ _ _ rfl h hP hD hS d_Mo_segmentLine_116
      · have h := h.2 c_22
        refine lv_aload_n hx hb d_Mo_segmentLine_64 rfl (lv_at hl 0 rfl) ?_
        refine va_get (D := (dC, dI)) (ci := 6) (v := .ref qu_names) (C := R_Mo) (T := T_Mo) (N := 33) hx hb hts in_Mo hown hK hP 0 rfl rfl 3 (by decide) (hts _ w_430) (fun _ h9 => h9) rfl d_Mo_segmentLine_65 ?_
        refine lv_bipush (v := 24) hx hb d_Mo_segmentLine_68 (by decide) ?_
        refine lv_iconst (v := 3) hx hb d_Mo_segmentLine_70 (by decide) ?_
        refine lv_iload_n hx hb d_Mo_segmentLine_71 rfl (lv_at hl 2 rfl) ?_
        refine lv_imul hx hb d_Mo_segmentLine_72 ?_
        refine lv_iadd hx hb d_Mo_segmentLine_73 ?_
        refine lv_iload_n hx hb d_Mo_segmentLine_74 rfl (lv_at hl 3 rfl) ?_
        refine lv_iadd hx hb d_Mo_segmentLine_75 ?_
        refine lv_topi (fun x_32 ex_32 => ?_)
        have h := h x_32 ex_32
        refine lv_aload_n hx hb d_Mo_segmentLine_76 rfl (lv_at hl 0 rfl) ?_
        refine va_get (D := (dC, dI)) (ci := 6) (v := .ref qu_text) (C := R_Mo) (T := T_Mo) (N := 33) hx hb hts in_Mo hown hK hP 0 rfl rfl 1 (by decide) (hts _ w_410) (fun _ h9 => h9) rfl d_Mo_segmentLine_77 ?_
        refine lv_aload_n hx hb d_Mo_segmentLine_80 rfl (lv_at hl 0 rfl) ?_
        refine va_get (D := (dC, dI)) (ci := 6) (v := .int fu_began) (C := R_Mo) (T := T_Mo) (N := 33) hx hb hts in_Mo hown hK hP 0 rfl rfl 31 (by decide) (hts _ w_425) (fun _ h9 => h9) rfl d_Mo_segmentLine_81 ?_
        refine lv_iload_n hx hb d_Mo_segmentLine_84 rfl (lv_at hl 3 rfl) ?_
        refine lv_iadd hx hb d_Mo_segmentLine_85 ?_
        refine lv_topi (fun x_33 ex_33 => ?_)
        have h := h x_33 ex_33
        have hi_34 := h.1
        have h := h.2
        refine va_cald hx hb hK hP 1 1 rfl rfl hi_34 d_Mo_segmentLine_86 ?_
        refine lv_topi (fun y_35 ey_35 => ?_)
        have h := h y_35 ey_35
        have hi_36 := h.1
        have h := h.2
        refine va_cast hx hb hK hP hD hS 3 1 rfl rfl hi_36 d_Mo_segmentLine_87 (fun H locs hP hD hS => ?_)
        obtain ⟨au_names_37, eau_names_37⟩ : ∃ z : Nat → Int32, z = upd au_names x_32.toNatClampNeg (vp_nar .char y_35) := ⟨_, rfl⟩
        have h := h au_names_37 eau_names_37
        have hP : va_P (dC, dI) cls (W_Mo_segmentLine cI cC cB qu qu_text qu_segments qu_names qu_nameSize qu_bases qu_length qu_links qu_from qu_to qu_paths qu_titles qu_titleSize qu_steps qu_step qu_sideOf qu_within qu_read qu_cost qu_walk qu_edits qu_said fu_size fu_places fu_reads fu_there fu_total fu_walked fu_edited fu_written fu_at fu_end fu_began fu_many au_text au_segments au_names_37 au_nameSize au_bases au_length) H := by rw [eau_names_37]; exact hP
        have hD : va_D A (W_Mo_segmentLine cI cC cB qu qu_text qu_segments qu_names qu_nameSize qu_bases qu_length qu_links qu_from qu_to qu_paths qu_titles qu_titleSize qu_steps qu_step qu_sideOf qu_within qu_read qu_cost qu_walk qu_edits qu_said fu_size fu_places fu_reads fu_there fu_total fu_walked fu_edited fu_written fu_at fu_end fu_began fu_many au_text au_segments au_names_37 au_nameSize au_bases au_length) := by rw [eau_names_37]; exact hD
        obtain ⟨x3_38, ex3_38⟩ : ∃ y : Int32, y = x3 + 1 := ⟨_, rfl⟩
        have h := h x3_38 ex3_38
        refine lv_iinc (v := x3_38) (lv' := [(3, .int x3_38), (0, .ref qu), (1, .int x1), (2, .int x2)]) hx hb d_Mo_segmentLine_88 hl (k := 3) rfl (by rw [ex3_38]; rfl) (by decide) rfl (fun ls hl => ?_)
        refine lv_goto (tgt := 56) hx hb d_Mo_segmentLine_91 (by decide) ?_
        exact ih _ _ _ _ _ _ _ _ _ _ _ _ _ _ h hP hD hS (lv_sub hl [1, 2, 3, 0] rfl)
  unfold wp_Mo_segmentLine at h
  refine lv_bipush (v := 9) hx hb d_Mo_segmentLine_0 (by decide) ?_
  refine lv_istore_n (lv' := [(1, .int 9), (0, .ref qu)]) hx hb d_Mo_segmentLine_2 rfl hl (by decide) rfl (fun ls hl => ?_)
  refine lv_aload_n hx hb d_Mo_segmentLine_3 rfl (lv_at hl 1 rfl) ?_
  refine lv_bipush (v := 83) hx hb d_Mo_segmentLine_4 (by decide) ?_
  refine call_V_i (As := [.int 83]) (rest := []) C0 hP hD hS [0, 1] [2, 3, 4, 5, 6] [5, 6, 0, 1, 2, 3, 4] [(qu_segments, .inl (cI, 2, .inl au_segments)), (qu_names, .inl (cC, 48, .inl au_names)), (qu_nameSize, .inl (cI, 16, .inl au_nameSize)), (qu_bases, .inl (cC, 64, .inl au_bases)), (qu_length, .inl (cI, 16, .inl au_length))] (fun (v : Int32) (b : Unit) => (W_Mo_segmentLine cI cC cB qu qu_text qu_segments qu_names qu_nameSize qu_bases qu_length qu_links qu_from qu_to qu_paths qu_titles qu_titleSize qu_steps qu_step qu_sideOf qu_within qu_read qu_cost qu_walk qu_edits qu_said fu_size fu_places fu_reads fu_there fu_total fu_walked fu_edited fu_written v fu_end fu_began fu_many au_text au_segments au_names au_nameSize au_bases au_length)) (ci := 6) rfl rfl (k_Mo_eat l dC dI cI cC cB _ qu qu_text qu_segments qu_names qu_nameSize qu_bases qu_length qu_links qu_from qu_to qu_paths qu_titles qu_titleSize qu_steps qu_step qu_sideOf qu_within qu_read qu_cost qu_walk qu_edits qu_said fu_size fu_places fu_reads fu_there fu_total fu_walked fu_edited fu_written fu_at fu_end fu_began fu_many au_text 83 h) (g_V w_415 w_416 w_417 w_418 w_414) 1 rfl (by decide +kernel) rfl rfl ⟨Nat.le_of_ble_eq_true rfl, Nat.le_of_ble_eq_true rfl⟩ rfl rfl (by decide) (by decide) (by decide) (by decide) (fun _ _ => rfl) hl.1 rfl (Nat.le_of_ble_eq_true rfl) d_Mo_segmentLine_6 ⟨Nat.le_of_ble_eq_true rfl, Nat.le_of_ble_eq_true rfl⟩ (fun r_40 v_39 _ H locs h hP hD hS => ?_)
  have hP : va_P (dC, dI) cls (W_Mo_segmentLine cI cC cB qu qu_text qu_segments qu_names qu_nameSize qu_bases qu_length qu_links qu_from qu_to qu_paths qu_titles qu_titleSize qu_steps qu_step qu_sideOf qu_within qu_read qu_cost qu_walk qu_edits qu_said fu_size fu_places fu_reads fu_there fu_total fu_walked fu_edited fu_written v_39 fu_end fu_began fu_many au_text au_segments au_names au_nameSize au_bases au_length) H := hP
  have hD : va_D A (W_Mo_segmentLine cI cC cB qu qu_text qu_segments qu_names qu_nameSize qu_bases qu_length qu_links qu_from qu_to qu_paths qu_titles qu_titleSize qu_steps qu_step qu_sideOf qu_within qu_read qu_cost qu_walk qu_edits qu_said fu_size fu_places fu_reads fu_there fu_total fu_walked fu_edited fu_written v_39 fu_end fu_began fu_many au_text au_segments au_names au_nameSize au_bases au_length) := hD
  refine lv_if_eq (tgt := 45) hx hb d_Mo_segmentLine_9 (by decide) (fun c_41 => ?_) (fun c_41 => ?_)
  · have h := h.1 c_41
    refine lv_iconst (v := 0) hx hb d_Mo_segmentLine_45 (by decide) ?_
    exact hret (v_39, fu_began, fu_many, au_segments, au_names, au_nameSize, au_bases, au_length) () 0 _ _ _ _ rfl h hP hD hS d_Mo_segmentLine_46
  · have h := h.2 c_41
    refine lv_aload_n hx hb d_Mo_segmentLine_12 rfl (lv_at hl 1 rfl) ?_
    refine lv_iload_n hx hb d_Mo_segmentLine_13 rfl (lv_at hl 0 rfl) ?_
    refine call_V_i (As := [.int 9]) (rest := []) C0 hP hD hS [0, 1] [2, 3, 4, 5, 6] [5, 6, 0, 1, 2, 3, 4] [(qu_segments, .inl (cI, 2, .inl au_segments)), (qu_names, .inl (cC, 48, .inl au_names)), (qu_nameSize, .inl (cI, 16, .inl au_nameSize)), (qu_bases, .inl (cC, 64, .inl au_bases)), (qu_length, .inl (cI, 16, .inl au_length))] (fun (v : Int32) (b : Unit) => (W_Mo_segmentLine cI cC cB qu qu_text qu_segments qu_names qu_nameSize qu_bases qu_length qu_links qu_from qu_to qu_paths qu_titles qu_titleSize qu_steps qu_step qu_sideOf qu_within qu_read qu_cost qu_walk qu_edits qu_said fu_size fu_places fu_reads fu_there fu_total fu_walked fu_edited fu_written v fu_end fu_began fu_many au_text au_segments au_names au_nameSize au_bases au_length)) (ci := 6) rfl rfl (k_Mo_eat l dC dI cI cC cB _ qu qu_text qu_segments qu_names qu_nameSize qu_bases qu_length qu_links qu_from qu_to qu_paths qu_titles qu_titleSize qu_steps qu_step qu_sideOf qu_within qu_read qu_cost qu_walk qu_edits qu_said fu_size fu_places fu_reads fu_there fu_total fu_walked fu_edited fu_written v_39 fu_end fu_began fu_many au_text 9 h) (g_V w_415 w_416 w_417 w_418 w_414) 1 rfl (by decide +kernel) rfl rfl ⟨Nat.le_of_ble_eq_true rfl, Nat.le_of_ble_eq_true rfl⟩ rfl rfl (by decide) (by decide) (by decide) (by decide) (fun _ _ => rfl) hl.1 rfl (Nat.le_of_ble_eq_true rfl) d_Mo_segmentLine_14 ⟨Nat.le_of_ble_eq_true rfl, Nat.le_of_ble_eq_true rfl⟩ (fun r_43 v_42 _ H locs h hP hD hS => ?_)
    have hP : va_P (dC, dI) cls (W_Mo_segmentLine cI cC cB qu qu_text qu_segments qu_names qu_nameSize qu_bases qu_length qu_links qu_from qu_to qu_paths qu_titles qu_titleSize qu_steps qu_step qu_sideOf qu_within qu_read qu_cost qu_walk qu_edits qu_said fu_size fu_places fu_reads fu_there fu_total fu_walked fu_edited fu_written v_42 fu_end fu_began fu_many au_text au_segments au_names au_nameSize au_bases au_length) H := hP
    have hD : va_D A (W_Mo_segmentLine cI cC cB qu qu_text qu_segments qu_names qu_nameSize qu_bases qu_length qu_links qu_from qu_to qu_paths qu_titles qu_titleSize qu_steps qu_step qu_sideOf qu_within qu_read qu_cost qu_walk qu_edits qu_said fu_size fu_places fu_reads fu_there fu_total fu_walked fu_edited fu_written v_42 fu_end fu_began fu_many au_text au_segments au_names au_nameSize au_bases au_length) := hD
    refine lv_if_eq (tgt := 45) hx hb d_Mo_segmentLine_17 (by decide) (fun c_44 => ?_) (fun c_44 => ?_)
    · have h := h.1 c_44
      refine lv_iconst (v := 0) hx hb d_Mo_segmentLine_45 (by decide) ?_
      exact hret (v_42, fu_began, fu_many, au_segments, au_names, au_nameSize, au_bases, au_length) () 0 _ _ _ _ rfl h hP hD hS d_Mo_segmentLine_46
    · have h := h.2 c_44
      refine lv_aload_n hx hb d_Mo_segmentLine_20 rfl (lv_at hl 1 rfl) ?_
      refine call_V_i (As := []) (rest := []) C0 hP hD hS [0, 1] [2, 3, 4, 5, 6] [5, 6, 0, 1, 2, 3, 4] [(qu_segments, .inl (cI, 2, .inl au_segments)), (qu_names, .inl (cC, 48, .inl au_names)), (qu_nameSize, .inl (cI, 16, .inl au_nameSize)), (qu_bases, .inl (cC, 64, .inl au_bases)), (qu_length, .inl (cI, 16, .inl au_length))] (fun (v : Int32 × Int32 × Int32) (b : Unit) => (W_Mo_segmentLine cI cC cB qu qu_text qu_segments qu_names qu_nameSize qu_bases qu_length qu_links qu_from qu_to qu_paths qu_titles qu_titleSize qu_steps qu_step qu_sideOf qu_within qu_read qu_cost qu_walk qu_edits qu_said fu_size fu_places fu_reads fu_there fu_total fu_walked fu_edited fu_written v.1 fu_end v.2.1 v.2.2 au_text au_segments au_names au_nameSize au_bases au_length)) (ci := 6) rfl rfl (k_Mo_eatName l dC dI cI cC cB _ qu qu_text qu_segments qu_names qu_nameSize qu_bases qu_length qu_links qu_from qu_to qu_paths qu_titles qu_titleSize qu_steps qu_step qu_sideOf qu_within qu_read qu_cost qu_walk qu_edits qu_said fu_size fu_places fu_reads fu_there fu_total fu_walked fu_edited fu_written v_42 fu_end fu_began fu_many au_text h) (g_V w_438 w_439 w_440 w_418 w_437) 0 rfl (by decide +kernel) rfl rfl ⟨Nat.le_of_ble_eq_true rfl, Nat.le_of_ble_eq_true rfl⟩ rfl rfl (by decide) (by decide) (by decide) (by decide) (fun _ _ => rfl) hl.1 rfl (Nat.le_of_ble_eq_true rfl) d_Mo_segmentLine_21 ⟨Nat.le_of_ble_eq_true rfl, Nat.le_of_ble_eq_true rfl⟩ (fun r_46 v_45 _ H locs h hP hD hS => ?_)
      have hP : va_P (dC, dI) cls (W_Mo_segmentLine cI cC cB qu qu_text qu_segments qu_names qu_nameSize qu_bases qu_length qu_links qu_from qu_to qu_paths qu_titles qu_titleSize qu_steps qu_step qu_sideOf qu_within qu_read qu_cost qu_walk qu_edits qu_said fu_size fu_places fu_reads fu_there fu_total fu_walked fu_edited fu_written v_45.1 fu_end v_45.2.1 v_45.2.2 au_text au_segments au_names au_nameSize au_bases au_length) H := hP
      have hD : va_D A (W_Mo_segmentLine cI cC cB qu qu_text qu_segments qu_names qu_nameSize qu_bases qu_length qu_links qu_from qu_to qu_paths qu_titles qu_titleSize qu_steps qu_step qu_sideOf qu_within qu_read qu_cost qu_walk qu_edits qu_said fu_size fu_places fu_reads fu_there fu_total fu_walked fu_edited fu_written v_45.1 fu_end v_45.2.1 v_45.2.2 au_text au_segments au_names au_nameSize au_bases au_length) := hD
      refine lv_if_eq (tgt := 45) hx hb d_Mo_segmentLine_24 (by decide) (fun c_47 => ?_) (fun c_47 => ?_)
      · have h := h.1 c_47
        refine lv_iconst (v := 0) hx hb d_Mo_segmentLine_45 (by decide) ?_
        exact hret (v_45.1, v_45.2.1, v_45.2.2, au_segments, au_names, au_nameSize, au_bases, au_length) () 0 _ _ _ _ rfl h hP hD hS d_Mo_segmentLine_46
      · have h := h.2 c_47
        refine lv_aload_n hx hb d_Mo_segmentLine_27 rfl (lv_at hl 1 rfl) ?_
        refine call_V_i (As := []) (rest := []) C0 hP hD hS [0, 1, 2, 3, 4] [5, 6] [2, 3, 4, 5, 6, 0, 1] [(qu_bases, .inl (cC, 64, .inl au_bases)), (qu_length, .inl (cI, 16, .inl au_length))] (fun (v : Unit) (b : Unit) => (W_Mo_segmentLine cI cC cB qu qu_text qu_segments qu_names qu_nameSize qu_bases qu_length qu_links qu_from qu_to qu_paths qu_titles qu_titleSize qu_steps qu_step qu_sideOf qu_within qu_read qu_cost qu_walk qu_edits qu_said fu_size fu_places fu_reads fu_there fu_total fu_walked fu_edited fu_written v_45.1 fu_end v_45.2.1 v_45.2.2 au_text au_segments au_names au_nameSize au_bases au_length)) (ci := 6) rfl rfl (k_Mo_segmentNamed l dC dI cI cC cB _ qu qu_text qu_segments qu_names qu_nameSize qu_bases qu_length qu_links qu_from qu_to qu_paths qu_titles qu_titleSize qu_steps qu_step qu_sideOf qu_within qu_read qu_cost qu_walk qu_edits qu_said fu_size fu_places fu_reads fu_there fu_total fu_walked fu_edited fu_written v_45.1 fu_end v_45.2.1 v_45.2.2 au_text au_segments au_names au_nameSize h) (g_V w_434 w_435 w_436 w_418 w_433) 0 rfl (by decide +kernel) rfl rfl ⟨Nat.le_of_ble_eq_true rfl, Nat.le_of_ble_eq_true rfl⟩ rfl rfl (by decide) (by decide) (by decide) (by decide) (fun _ _ => rfl) hl.1 rfl (Nat.le_of_ble_eq_true rfl) d_Mo_segmentLine_28 ⟨Nat.le_of_ble_eq_true rfl, Nat.le_of_ble_eq_true rfl⟩ (fun r_49 v_48 _ H locs h hP hD hS => ?_)
        have hP : va_P (dC, dI) cls (W_Mo_segmentLine cI cC cB qu qu_text qu_segments qu_names qu_nameSize qu_bases qu_length qu_links qu_from qu_to qu_paths qu_titles qu_titleSize qu_steps qu_step qu_sideOf qu_within qu_read qu_cost qu_walk qu_edits qu_said fu_size fu_places fu_reads fu_there fu_total fu_walked fu_edited fu_written v_45.1 fu_end v_45.2.1 v_45.2.2 au_text au_segments au_names au_nameSize au_bases au_length) H := hP
        have hD : va_D A (W_Mo_segmentLine cI cC cB qu qu_text qu_segments qu_names qu_nameSize qu_bases qu_length qu_links qu_from qu_to qu_paths qu_titles qu_titleSize qu_steps qu_step qu_sideOf qu_within qu_read qu_cost qu_walk qu_edits qu_said fu_size fu_places fu_reads fu_there fu_total fu_walked fu_edited fu_written v_45.1 fu_end v_45.2.1 v_45.2.2 au_text au_segments au_names au_nameSize au_bases au_length) := hD
        refine lv_if_ge (tgt := 45) hx hb d_Mo_segmentLine_31 (by decide) (fun c_50 => ?_) (fun c_50 => ?_)
        · have h := h.1 c_50
          refine lv_iconst (v := 0) hx hb d_Mo_segmentLine_45 (by decide) ?_
          exact hret (v_45.1, v_45.2.1, v_45.2.2, au_segments, au_names, au_nameSize, au_bases, au_length) () 0 _ _ _ _ rfl h hP hD hS d_Mo_segmentLine_46
        · have h := h.2 c_50
          refine lv_aload_n hx hb d_Mo_segmentLine_34 rfl (lv_at hl 1 rfl) ?_
          refine va_get (D := (dC, dI)) (ci := 6) (v := .ref qu_segments) (C := R_Mo) (T := T_Mo) (N := 33) hx hb hts in_Mo hown hK hP 0 rfl rfl 2 (by decide) (hts _ w_431) (fun _ h9 => h9) rfl d_Mo_segmentLine_35 ?_
          refine lv_iconst (v := 1) hx hb d_Mo_segmentLine_38 (by decide) ?_
          have hi_51 := h.1
          have h := h.2
          refine va_iald hx hb hK hP 2 0 rfl rfl hi_51 d_Mo_segmentLine_39 ?_
          refine lv_topi (fun y_52 ey_52 => ?_)
          have h := h y_52 ey_52
          refine lv_bipush (v := 8) hx hb d_Mo_segmentLine_40 (by decide) ?_
          refine lv_icmp_ne (tgt := 47) hx hb d_Mo_segmentLine_42 (by decide) (fun c_53 => ?_) (fun c_53 => ?_)
          · have h := h.2 c_53
            refine lv_aload_n hx hb d_Mo_segmentLine_47 rfl (lv_at hl 1 rfl) ?_
            refine va_get (D := (dC, dI)) (ci := 6) (v := .ref qu_segments) (C := R_Mo) (T := T_Mo) (N := 33) hx hb hts in_Mo hown hK hP 0 rfl rfl 2 (by decide) (hts _ w_431) (fun _ h9 => h9) rfl d_Mo_segmentLine_48 ?_
            refine lv_iconst (v := 1) hx hb d_Mo_segmentLine_51 (by decide) ?_
            have hi_54 := h.1
            have h := h.2
            refine va_iald hx hb hK hP 2 0 rfl rfl hi_54 d_Mo_segmentLine_52 ?_
            refine lv_topi (fun y_55 ey_55 => ?_)
            have h := h y_55 ey_55
            refine lv_istore_n (lv' := [(2, .int y_55), (1, .int 9), (0, .ref qu)]) hx hb d_Mo_segmentLine_53 rfl hl (by decide) rfl (fun ls hl => ?_)
            refine lv_iconst (v := 0) hx hb d_Mo_segmentLine_54 (by decide) ?_
            refine lv_istore_n (lv' := [(3, .int 0), (2, .int y_55), (1, .int 9), (0, .ref qu)]) hx hb d_Mo_segmentLine_55 rfl hl (by decide) rfl (fun ls hl => ?_)
            obtain ⟨fu_56, h⟩ := h
            exact blk_56  _ _ _ _ _ _ _ _ _ _ _ _ _ _ _ h hP hD hS (lv_sub hl [3, 2, 1, 0] rfl)
          · have h := h.1 c_53
            refine lv_iconst (v := 0) hx hb d_Mo_segmentLine_45 (by decide) ?_
            exact hret (v_45.1, v_45.2.1, v_45.2.2, au_segments, au_names, au_nameSize, au_bases, au_length) () 0 _ _ _ _ rfl h hP hD hS d_Mo_segmentLine_46
abbrev W_Mo_sign (cI cC cB : ClassId) (qu : Nat) (qu_text : Nat) (qu_segments : Nat) (qu_names : Nat) (qu_nameSize : Nat) (qu_bases : Nat) (qu_length : Nat) (qu_links : Nat) (qu_from : Nat) (qu_to : Nat) (qu_paths : Nat) (qu_titles : Nat) (qu_titleSize : Nat) (qu_steps : Nat) (qu_step : Nat) (qu_sideOf : Nat) (qu_within : Nat) (qu_read : Nat) (qu_cost : Nat) (qu_walk : Nat) (qu_edits : Nat) (qu_said : Nat) (fu_size : Int32) (fu_places : Int32) (fu_reads : Int32) (fu_there : Int32) (fu_total : Int32) (fu_walked : Int32) (fu_edited : Int32) (fu_written : Int32) (fu_at : Int32) (fu_end : Int32) (fu_began : Int32) (fu_many : Int32) (au_text : Nat → Int32) : va_W := [(qu, .inr (6, [.int fu_size, .ref qu_text, .ref qu_segments, .ref qu_names, .ref qu_nameSize, .ref qu_bases, .ref qu_length, .ref qu_links, .ref qu_from, .ref qu_to, .ref qu_paths, .ref qu_titles, .ref qu_titleSize, .ref qu_steps, .ref qu_step, .int fu_places, .ref qu_sideOf, .ref qu_within, .int fu_reads, .ref qu_read, .ref qu_cost, .int fu_there, .int fu_total, .int fu_walked, .ref qu_walk, .int fu_edited, .ref qu_edits, .int fu_written, .ref qu_said, .int fu_at, .int fu_end, .int fu_began, .int fu_many])), (qu_text, .inl (cC, 400, .inl au_text))]
def wp_Mo_sign (Q : Int32 → Int32 → Prop)  (fu_at : Int32) (fu_end : Int32) (au_text : Nat → Int32) : Prop := wp_Mo_eat (fun r_2 v_1 => ((r_2 = 0 → (wp_Mo_eat (fun r_5 v_4 => ((r_5 = 0 → (Q (-1) v_4)) ∧ (¬ r_5 = 0 → (Q 1 v_4)))) 45 v_1 fu_end au_text)) ∧ (¬ r_2 = 0 → (Q 0 v_1)))) 43 fu_at fu_end au_text
abbrev rm_Mo_sign : Room := { frames := 1, cells := 0, slots := 0, locals := 21 }
set_option maxHeartbeats 4000000 in
set_option maxRecDepth 100000 in
theorem k_Mo_sign (l : Launch) (dC : Nat → ClassId) (dI : Nat → Nat → Nat) (cI cC cB : ClassId) (sz : Nat) (qu : Nat) (qu_text : Nat) (qu_segments : Nat) (qu_names : Nat) (qu_nameSize : Nat) (qu_bases : Nat) (qu_length : Nat) (qu_links : Nat) (qu_from : Nat) (qu_to : Nat) (qu_paths : Nat) (qu_titles : Nat) (qu_titleSize : Nat) (qu_steps : Nat) (qu_step : Nat) (qu_sideOf : Nat) (qu_within : Nat) (qu_read : Nat) (qu_cost : Nat) (qu_walk : Nat) (qu_edits : Nat) (qu_said : Nat) (fu_size : Int32) (fu_places : Int32) (fu_reads : Int32) (fu_there : Int32) (fu_total : Int32) (fu_walked : Int32) (fu_edited : Int32) (fu_written : Int32) (fu_at : Int32) (fu_end : Int32) (fu_began : Int32) (fu_many : Int32) (au_text : Nat → Int32)  {Q : Int32 → Int32 → Prop} (h : wp_Mo_sign Q  fu_at fu_end au_text) :
    CTi l y_Mo_sign (wM y_Mo_sign c_Mo_sign 1 (some .int)) rm_Mo_sign 0 0 (dC, dI) (tysL cI cC cB) [.ref qu] (W_Mo_sign cI cC cB qu qu_text qu_segments qu_names qu_nameSize qu_bases qu_length qu_links qu_from qu_to qu_paths qu_titles qu_titleSize qu_steps qu_step qu_sideOf qu_within qu_read qu_cost qu_walk qu_edits qu_said fu_size fu_places fu_reads fu_there fu_total fu_walked fu_edited fu_written fu_at fu_end fu_began fu_many au_text) sz Q (fun (v : Int32) (b : Unit) => (W_Mo_sign cI cC cB qu qu_text qu_segments qu_names qu_nameSize qu_bases qu_length qu_links qu_from qu_to qu_paths qu_titles qu_titleSize qu_steps qu_step qu_sideOf qu_within qu_read qu_cost qu_walk qu_edits qu_said fu_size fu_places fu_reads fu_there fu_total fu_walked fu_edited fu_written v fu_end fu_began fu_many au_text)) := by
  refine CTi.std (by decide) (Nat.le_of_ble_eq_true rfl) ?_
  intro p e s m args below meth c A ls QF C0 hP hD hl hS hsz hnm hret
  obtain ⟨hx, hb, hr, hml, hown, hts, hlocks, hN, hA, hK⟩ := id C0
  have hown : s.vm.findClass R_Mo = some m.cls := hown
  have hl : lv_has ls 1 [(0, .ref qu)] := hl
  clear hsz hnm
  unfold wp_Mo_sign at h
  refine lv_aload_n hx hb d_Mo_sign_0 rfl (lv_at hl 0 rfl) ?_
  refine lv_bipush (v := 43) hx hb d_Mo_sign_1 (by decide) ?_
  refine call_V_i (As := [.int 43]) (rest := []) C0 hP hD hS [0, 1] [] [0, 1] [] (fun (v : Int32) (b : Unit) => (W_Mo_sign cI cC cB qu qu_text qu_segments qu_names qu_nameSize qu_bases qu_length qu_links qu_from qu_to qu_paths qu_titles qu_titleSize qu_steps qu_step qu_sideOf qu_within qu_read qu_cost qu_walk qu_edits qu_said fu_size fu_places fu_reads fu_there fu_total fu_walked fu_edited fu_written v fu_end fu_began fu_many au_text)) (ci := 6) rfl rfl (k_Mo_eat l dC dI cI cC cB _ qu qu_text qu_segments qu_names qu_nameSize qu_bases qu_length qu_links qu_from qu_to qu_paths qu_titles qu_titleSize qu_steps qu_step qu_sideOf qu_within qu_read qu_cost qu_walk qu_edits qu_said fu_size fu_places fu_reads fu_there fu_total fu_walked fu_edited fu_written fu_at fu_end fu_began fu_many au_text 43 h) (g_V w_415 w_416 w_417 w_418 w_414) 1 rfl (by decide +kernel) rfl rfl ⟨Nat.le_of_ble_eq_true rfl, Nat.le_of_ble_eq_true rfl⟩ rfl rfl (by decide) (by decide) (by decide) (by decide) (fun _ _ => rfl) hl.1 rfl (Nat.le_of_ble_eq_true rfl) d_Mo_sign_3 ⟨Nat.le_of_ble_eq_true rfl, Nat.le_of_ble_eq_true rfl⟩ (fun r_2 v_1 _ H locs h hP hD hS => ?_)
  have hP : va_P (dC, dI) cls (W_Mo_sign cI cC cB qu qu_text qu_segments qu_names qu_nameSize qu_bases qu_length qu_links qu_from qu_to qu_paths qu_titles qu_titleSize qu_steps qu_step qu_sideOf qu_within qu_read qu_cost qu_walk qu_edits qu_said fu_size fu_places fu_reads fu_there fu_total fu_walked fu_edited fu_written v_1 fu_end fu_began fu_many au_text) H := hP
  have hD : va_D A (W_Mo_sign cI cC cB qu qu_text qu_segments qu_names qu_nameSize qu_bases qu_length qu_links qu_from qu_to qu_paths qu_titles qu_titleSize qu_steps qu_step qu_sideOf qu_within qu_read qu_cost qu_walk qu_edits qu_said fu_size fu_places fu_reads fu_there fu_total fu_walked fu_edited fu_written v_1 fu_end fu_began fu_many au_text) := hD
  refine lv_if_eq (tgt := 13) hx hb d_Mo_sign_6 (by decide) (fun c_3 => ?_) (fun c_3 => ?_)
  · have h := h.1 c_3
    refine lv_aload_n hx hb d_Mo_sign_13 rfl (lv_at hl 0 rfl) ?_
    refine lv_bipush (v := 45) hx hb d_Mo_sign_14 (by decide) ?_
    refine call_V_i (As := [.int 45]) (rest := []) C0 hP hD hS [0, 1] [] [0, 1] [] (fun (v : Int32) (b : Unit) => (W_Mo_sign cI cC cB qu qu_text qu_segments qu_names qu_nameSize qu_bases qu_length qu_links qu_from qu_to qu_paths qu_titles qu_titleSize qu_steps qu_step qu_sideOf qu_within qu_read qu_cost qu_walk qu_edits qu_said fu_size fu_places fu_reads fu_there fu_total fu_walked fu_edited fu_written v fu_end fu_began fu_many au_text)) (ci := 6) rfl rfl (k_Mo_eat l dC dI cI cC cB _ qu qu_text qu_segments qu_names qu_nameSize qu_bases qu_length qu_links qu_from qu_to qu_paths qu_titles qu_titleSize qu_steps qu_step qu_sideOf qu_within qu_read qu_cost qu_walk qu_edits qu_said fu_size fu_places fu_reads fu_there fu_total fu_walked fu_edited fu_written v_1 fu_end fu_began fu_many au_text 45 h) (g_V w_415 w_416 w_417 w_418 w_414) 1 rfl (by decide +kernel) rfl rfl ⟨Nat.le_of_ble_eq_true rfl, Nat.le_of_ble_eq_true rfl⟩ rfl rfl (by decide) (by decide) (by decide) (by decide) (fun _ _ => rfl) hl.1 rfl (Nat.le_of_ble_eq_true rfl) d_Mo_sign_16 ⟨Nat.le_of_ble_eq_true rfl, Nat.le_of_ble_eq_true rfl⟩ (fun r_5 v_4 _ H locs h hP hD hS => ?_)
    have hP : va_P (dC, dI) cls (W_Mo_sign cI cC cB qu qu_text qu_segments qu_names qu_nameSize qu_bases qu_length qu_links qu_from qu_to qu_paths qu_titles qu_titleSize qu_steps qu_step qu_sideOf qu_within qu_read qu_cost qu_walk qu_edits qu_said fu_size fu_places fu_reads fu_there fu_total fu_walked fu_edited fu_written v_4 fu_end fu_began fu_many au_text) H := hP
    have hD : va_D A (W_Mo_sign cI cC cB qu qu_text qu_segments qu_names qu_nameSize qu_bases qu_length qu_links qu_from qu_to qu_paths qu_titles qu_titleSize qu_steps qu_step qu_sideOf qu_within qu_read qu_cost qu_walk qu_edits qu_said fu_size fu_places fu_reads fu_there fu_total fu_walked fu_edited fu_written v_4 fu_end fu_began fu_many au_text) := hD
    refine lv_if_eq (tgt := 26) hx hb d_Mo_sign_19 (by decide) (fun c_6 => ?_) (fun c_6 => ?_)
    · have h := h.1 c_6
      refine lv_iconst (v := (-1)) hx hb d_Mo_sign_26 (by decide) ?_
      exact hret v_4 () (-1) _ _ _ _ rfl h hP hD hS d_Mo_sign_27
    · have h := h.2 c_6
      refine lv_iconst (v := 1) hx hb d_Mo_sign_22 (by decide) ?_
      refine lv_goto (tgt := 27) hx hb d_Mo_sign_23 (by decide) ?_
      exact hret v_4 () 1 _ _ _ _ rfl h hP hD hS d_Mo_sign_27
  · have h := h.2 c_3
    refine lv_iconst (v := 0) hx hb d_Mo_sign_9 (by decide) ?_
    refine lv_goto (tgt := 27) hx hb d_Mo_sign_10 (by decide) ?_
    exact hret v_1 () 0 _ _ _ _ rfl h hP hD hS d_Mo_sign_27
abbrev W_Mo_namedSide (cI cC cB : ClassId) (qu : Nat) (qu_text : Nat) (qu_segments : Nat) (qu_names : Nat) (qu_nameSize : Nat) (qu_bases : Nat) (qu_length : Nat) (qu_links : Nat) (qu_from : Nat) (qu_to : Nat) (qu_paths : Nat) (qu_titles : Nat) (qu_titleSize : Nat) (qu_steps : Nat) (qu_step : Nat) (qu_sideOf : Nat) (qu_within : Nat) (qu_read : Nat) (qu_cost : Nat) (qu_walk : Nat) (qu_edits : Nat) (qu_said : Nat) (fu_size : Int32) (fu_places : Int32) (fu_reads : Int32) (fu_there : Int32) (fu_total : Int32) (fu_walked : Int32) (fu_edited : Int32) (fu_written : Int32) (fu_at : Int32) (fu_end : Int32) (fu_began : Int32) (fu_many : Int32) (au_text : Nat → Int32) (au_segments : Nat → Int32) (au_names : Nat → Int32) (au_nameSize : Nat → Int32) : va_W := [(qu, .inr (6, [.int fu_size, .ref qu_text, .ref qu_segments, .ref qu_names, .ref qu_nameSize, .ref qu_bases, .ref qu_length, .ref qu_links, .ref qu_from, .ref qu_to, .ref qu_paths, .ref qu_titles, .ref qu_titleSize, .ref qu_steps, .ref qu_step, .int fu_places, .ref qu_sideOf, .ref qu_within, .int fu_reads, .ref qu_read, .ref qu_cost, .int fu_there, .int fu_total, .int fu_walked, .ref qu_walk, .int fu_edited, .ref qu_edits, .int fu_written, .ref qu_said, .int fu_at, .int fu_end, .int fu_began, .int fu_many])), (qu_text, .inl (cC, 400, .inl au_text)), (qu_segments, .inl (cI, 2, .inl au_segments)), (qu_names, .inl (cC, 48, .inl au_names)), (qu_nameSize, .inl (cI, 16, .inl au_nameSize))]
def w_Mo_namedSide_58 (Q : Int32 → (Int32 × Int32 × Int32) → Prop)  (fu_end : Int32) (au_text : Nat → Int32) (au_segments : Nat → Int32) (au_names : Nat → Int32) (au_nameSize : Nat → Int32) (fu_at : Int32) (fu_began : Int32) (fu_many : Int32) : Prop := Q (-1) (fu_at, fu_began, fu_many)
def w_Mo_namedSide_36 (Q : Int32 → (Int32 × Int32 × Int32) → Prop)  (fu_end : Int32) (au_text : Nat → Int32) (au_segments : Nat → Int32) (au_names : Nat → Int32) (au_nameSize : Nat → Int32) (x3 : Int32) (s0 : Int32) (fu_at : Int32) (fu_began : Int32) (fu_many : Int32) : Prop := wp_Mo_sign (fun r_2 v_1 => ((x3 < 0 → (w_Mo_namedSide_58 Q fu_end au_text au_segments au_names au_nameSize v_1 fu_began fu_many)) ∧ (¬ x3 < 0 → (((s0 = 0 → (w_Mo_namedSide_58 Q fu_end au_text au_segments au_names au_nameSize v_1 fu_began fu_many)) ∧ (¬ s0 = 0 → (((0 ≤ r_2 → (∀ x_6 : Int32, x_6 = (2 * x3) + r_2 → (Q x_6 (v_1, fu_began, fu_many)))) ∧ (¬ 0 ≤ r_2 → (w_Mo_namedSide_58 Q fu_end au_text au_segments au_names au_nameSize v_1 fu_began fu_many)))))))))) fu_at fu_end au_text
def w_Mo_namedSide_31 (Q : Int32 → (Int32 × Int32 × Int32) → Prop)  (fu_end : Int32) (au_text : Nat → Int32) (au_segments : Nat → Int32) (au_names : Nat → Int32) (au_nameSize : Nat → Int32) (x3 : Int32) (fu_at : Int32) (fu_began : Int32) (fu_many : Int32) : Prop := w_Mo_namedSide_36 Q fu_end au_text au_segments au_names au_nameSize x3 1 fu_at fu_began fu_many
def w_Mo_namedSide_17 (Q : Int32 → (Int32 × Int32 × Int32) → Prop)  (p1 : Int32) (fu_end : Int32) (au_text : Nat → Int32) (au_segments : Nat → Int32) (au_names : Nat → Int32) (au_nameSize : Nat → Int32) (s0 : Int32) (fu_at : Int32) (fu_began : Int32) (fu_many : Int32) : Prop := ((p1 = 0 → (w_Mo_namedSide_31 Q fu_end au_text au_segments au_names au_nameSize s0 fu_at fu_began fu_many)) ∧ (¬ p1 = 0 → (wp_Mo_eat (fun r_9 v_8 => ((r_9 = 0 → (w_Mo_namedSide_36 Q fu_end au_text au_segments au_names au_nameSize s0 0 v_8 fu_began fu_many)) ∧ (¬ r_9 = 0 → (w_Mo_namedSide_31 Q fu_end au_text au_segments au_names au_nameSize s0 v_8 fu_began fu_many)))) 9 fu_at fu_end au_text)))
def wp_Mo_namedSide (Q : Int32 → (Int32 × Int32 × Int32) → Prop) (p1 : Int32) (fu_at : Int32) (fu_end : Int32) (fu_began : Int32) (fu_many : Int32) (au_text : Nat → Int32) (au_segments : Nat → Int32) (au_names : Nat → Int32) (au_nameSize : Nat → Int32) : Prop := wp_Mo_eatName (fun r_12 v_11 => ((r_12 = 0 → (w_Mo_namedSide_17 Q p1 fu_end au_text au_segments au_names au_nameSize (-1) v_11.1 v_11.2.1 v_11.2.2)) ∧ (¬ r_12 = 0 → (wp_Mo_segmentNamed (fun r_15 v_14 => w_Mo_namedSide_17 Q p1 fu_end au_text au_segments au_names au_nameSize r_15 v_11.1 v_11.2.1 v_11.2.2) v_11.2.1 v_11.2.2 au_text au_segments au_names au_nameSize)))) fu_at fu_end fu_began fu_many au_text
abbrev rm_Mo_namedSide : Room := { frames := 2, cells := 0, slots := 0, locals := 41 }
set_option maxHeartbeats 4000000 in
set_option maxRecDepth 100000 in
theorem k_Mo_namedSide (l : Launch) (dC : Nat → ClassId) (dI : Nat → Nat → Nat) (cI cC cB : ClassId) (sz : Nat) (qu : Nat) (qu_text : Nat) (qu_segments : Nat) (qu_names : Nat) (qu_nameSize : Nat) (qu_bases : Nat) (qu_length : Nat) (qu_links : Nat) (qu_from : Nat) (qu_to : Nat) (qu_paths : Nat) (qu_titles : Nat) (qu_titleSize : Nat) (qu_steps : Nat) (qu_step : Nat) (qu_sideOf : Nat) (qu_within : Nat) (qu_read : Nat) (qu_cost : Nat) (qu_walk : Nat) (qu_edits : Nat) (qu_said : Nat) (fu_size : Int32) (fu_places : Int32) (fu_reads : Int32) (fu_there : Int32) (fu_total : Int32) (fu_walked : Int32) (fu_edited : Int32) (fu_written : Int32) (fu_at : Int32) (fu_end : Int32) (fu_began : Int32) (fu_many : Int32) (au_text : Nat → Int32) (au_segments : Nat → Int32) (au_names : Nat → Int32) (au_nameSize : Nat → Int32) (p1 : Int32) {Q : Int32 → (Int32 × Int32 × Int32) → Prop} (h : wp_Mo_namedSide Q p1 fu_at fu_end fu_began fu_many au_text au_segments au_names au_nameSize) :
    CTi l y_Mo_namedSide (wM y_Mo_namedSide c_Mo_namedSide 6 (some .int)) rm_Mo_namedSide 0 0 (dC, dI) (tysL cI cC cB) [.ref qu, .int p1] (W_Mo_namedSide cI cC cB qu qu_text qu_segments qu_names qu_nameSize qu_bases qu_length qu_links qu_from qu_to qu_paths qu_titles qu_titleSize qu_steps qu_step qu_sideOf qu_within qu_read qu_cost qu_walk qu_edits qu_said fu_size fu_places fu_reads fu_there fu_total fu_walked fu_edited fu_written fu_at fu_end fu_began fu_many au_text au_segments au_names au_nameSize) sz Q (fun (v : Int32 × Int32 × Int32) (b : Unit) => (W_Mo_namedSide cI cC cB qu qu_text qu_segments qu_names qu_nameSize qu_bases qu_length qu_links qu_from qu_to qu_paths qu_titles qu_titleSize qu_steps qu_step qu_sideOf qu_within qu_read qu_cost qu_walk qu_edits qu_said fu_size fu_places fu_reads fu_there fu_total fu_walked fu_edited fu_written v.1 fu_end v.2.1 v.2.2 au_text au_segments au_names au_nameSize)) := by
  refine CTi.std (by decide) (Nat.le_of_ble_eq_true rfl) ?_
  intro p e s m args below meth c A ls QF C0 hP hD hl hS hsz hnm hret
  obtain ⟨hx, hb, hr, hml, hown, hts, hlocks, hN, hA, hK⟩ := id C0
  have hown : s.vm.findClass R_Mo = some m.cls := hown
  have hl : lv_has ls 6 [(0, .ref qu), (1, .int p1)] := hl
  clear hsz hnm
  have blk_58 : ∀  (fu_at : Int32) (fu_began : Int32) (fu_many : Int32)  (H : Heap) (locs : List Loc) (ls : Array Slot), w_Mo_namedSide_58 Q  fu_end au_text au_segments au_names au_nameSize fu_at fu_began fu_many → va_P (dC, dI) cls (W_Mo_namedSide cI cC cB qu qu_text qu_segments qu_names qu_nameSize qu_bases qu_length qu_links qu_from qu_to qu_paths qu_titles qu_titleSize qu_steps qu_step qu_sideOf qu_within qu_read qu_cost qu_walk qu_edits qu_said fu_size fu_places fu_reads fu_there fu_total fu_walked fu_edited fu_written fu_at fu_end fu_began fu_many au_text au_segments au_names au_nameSize) H → va_D A (W_Mo_namedSide cI cC cB qu qu_text qu_segments qu_names qu_nameSize qu_bases qu_length qu_links qu_from qu_to qu_paths qu_titles qu_titleSize qu_steps qu_step qu_sideOf qu_within qu_read qu_cost qu_walk qu_edits qu_said fu_size fu_places fu_reads fu_there fu_total fu_walked fu_edited fu_written fu_at fu_end fu_began fu_many au_text au_segments au_names au_nameSize) → va_S A s.heap H locs → lv_has ls 6 [] → W p l e rm_Mo_namedSide s m args below meth c H locs 0 0 QF (F0 m 58 ls []) := by
    intro  fu_at fu_began fu_many  H locs ls h hP hD hS hl
    unfold w_Mo_namedSide_58 at h
    refine lv_iconst (v := (-1)) hx hb d_Mo_namedSide_58 (by decide) ?_
    refine lv_goto (tgt := 68) hx hb d_Mo_namedSide_59 (by decide) ?_
    exact hret (fu_at, fu_began, fu_many) () (-1) _ _ _ _ rfl h hP hD hS d_Mo_namedSide_68
  have blk_36 : ∀  (x3 : Int32) (s0 : Int32) (fu_at : Int32) (fu_began : Int32) (fu_many : Int32)  (H : Heap) (locs : List Loc) (ls : Array Slot), w_Mo_namedSide_36 Q  fu_end au_text au_segments au_names au_nameSize x3 s0 fu_at fu_began fu_many → va_P (dC, dI) cls (W_Mo_namedSide cI cC cB qu qu_text qu_segments qu_names qu_nameSize qu_bases qu_length qu_links qu_from qu_to qu_paths qu_titles qu_titleSize qu_steps qu_step qu_sideOf qu_within qu_read qu_cost qu_walk qu_edits qu_said fu_size fu_places fu_reads fu_there fu_total fu_walked fu_edited fu_written fu_at fu_end fu_began fu_many au_text au_segments au_names au_nameSize) H → va_D A (W_Mo_namedSide cI cC cB qu qu_text qu_segments qu_names qu_nameSize qu_bases qu_length qu_links qu_from qu_to qu_paths qu_titles qu_titleSize qu_steps qu_step qu_sideOf qu_within qu_read qu_cost qu_walk qu_edits qu_said fu_size fu_places fu_reads fu_there fu_total fu_walked fu_edited fu_written fu_at fu_end fu_began fu_many au_text au_segments au_names au_nameSize) → va_S A s.heap H locs → lv_has ls 6 [(0, .ref qu), (3, .int x3)] → W p l e rm_Mo_namedSide s m args below meth c H locs 0 0 QF (F0 m 36 ls [.int s0]) := by
    intro  x3 s0 fu_at fu_began fu_many  H locs ls h hP hD hS hl
    unfold w_Mo_namedSide_36 at h
    refine lv_istore (lv' := [(4, .int s0), (0, .ref qu), (3, .int x3)]) hx hb d_Mo_namedSide_36 hl (by decide) rfl (fun ls hl => ?_)
    refine lv_aload_n hx hb d_Mo_namedSide_38 rfl (lv_at hl 1 rfl) ?_
    refine call_V_i (As := []) (rest := []) C0 hP hD hS [0, 1] [2, 3, 4] [3, 4, 0, 1, 2] [(qu_segments, .inl (cI, 2, .inl au_segments)), (qu_names, .inl (cC, 48, .inl au_names)), (qu_nameSize, .inl (cI, 16, .inl au_nameSize))] (fun (v : Int32) (b : Unit) => (W_Mo_namedSide cI cC cB qu qu_text qu_segments qu_names qu_nameSize qu_bases qu_length qu_links qu_from qu_to qu_paths qu_titles qu_titleSize qu_steps qu_step qu_sideOf qu_within qu_read qu_cost qu_walk qu_edits qu_said fu_size fu_places fu_reads fu_there fu_total fu_walked fu_edited fu_written v fu_end fu_began fu_many au_text au_segments au_names au_nameSize)) (ci := 6) rfl rfl (k_Mo_sign l dC dI cI cC cB _ qu qu_text qu_segments qu_names qu_nameSize qu_bases qu_length qu_links qu_from qu_to qu_paths qu_titles qu_titleSize qu_steps qu_step qu_sideOf qu_within qu_read qu_cost qu_walk qu_edits qu_said fu_size fu_places fu_reads fu_there fu_total fu_walked fu_edited fu_written fu_at fu_end fu_began fu_many au_text h) (g_V w_422 w_423 w_424 w_418 w_421) 0 rfl (by decide +kernel) rfl rfl ⟨Nat.le_of_ble_eq_true rfl, Nat.le_of_ble_eq_true rfl⟩ rfl rfl (by decide) (by decide) (by decide) (by decide) (fun _ _ => rfl) hl.1 rfl (Nat.le_of_ble_eq_true rfl) d_Mo_namedSide_39 ⟨Nat.le_of_ble_eq_true rfl, Nat.le_of_ble_eq_true rfl⟩ (fun r_2 v_1 _ H locs h hP hD hS => ?_)
    have hP : va_P (dC, dI) cls (W_Mo_namedSide cI cC cB qu qu_text qu_segments qu_names qu_nameSize qu_bases qu_length qu_links qu_from qu_to qu_paths qu_titles qu_titleSize qu_steps qu_step qu_sideOf qu_within qu_read qu_cost qu_walk qu_edits qu_said fu_size fu_places fu_reads fu_there fu_total fu_walked fu_edited fu_written v_1 fu_end fu_began fu_many au_text au_segments au_names au_nameSize) H := hP
    have hD : va_D A (W_Mo_namedSide cI cC cB qu qu_text qu_segments qu_names qu_nameSize qu_bases qu_length qu_links qu_from qu_to qu_paths qu_titles qu_titleSize qu_steps qu_step qu_sideOf qu_within qu_read qu_cost qu_walk qu_edits qu_said fu_size fu_places fu_reads fu_there fu_total fu_walked fu_edited fu_written v_1 fu_end fu_began fu_many au_text au_segments au_names au_nameSize) := hD
    refine lv_istore (lv' := [(5, .int r_2), (4, .int s0), (0, .ref qu), (3, .int x3)]) hx hb d_Mo_namedSide_42 hl (by decide) rfl (fun ls hl => ?_)
    refine lv_iload_n hx hb d_Mo_namedSide_44 rfl (lv_at hl 3 rfl) ?_
    refine lv_if_lt (tgt := 58) hx hb d_Mo_namedSide_45 (by decide) (fun c_3 => ?_) (fun c_3 => ?_)
    · have h := h.1 c_3
      exact blk_58  _ _ _ _ _ _ h hP hD hS (lv_sub hl [] rfl)
    · have h := h.2 c_3
      refine lv_iload hx hb d_Mo_namedSide_48 (lv_at hl 1 rfl) ?_
      refine lv_if_eq (tgt := 58) hx hb d_Mo_namedSide_50 (by decide) (fun c_4 => ?_) (fun c_4 => ?_)
      · have h := h.1 c_4
        exact blk_58  _ _ _ _ _ _ h hP hD hS (lv_sub hl [] rfl)
      · have h := h.2 c_4
        refine lv_iload hx hb d_Mo_namedSide_53 (lv_at hl 0 rfl) ?_
        refine lv_if_ge (tgt := 62) hx hb d_Mo_namedSide_55 (by decide) (fun c_5 => ?_) (fun c_5 => ?_)
        · have h := h.1 c_5
          refine lv_iconst (v := 2) hx hb d_Mo_namedSide_62 (by decide) ?_
          refine lv_iload_n hx hb d_Mo_namedSide_63 rfl (lv_at hl 3 rfl) ?_
          refine lv_imul hx hb d_Mo_namedSide_64 ?_
          refine lv_iload hx hb d_Mo_namedSide_65 (lv_at hl 0 rfl) ?_
          refine lv_iadd hx hb d_Mo_namedSide_67 ?_
          refine lv_topi (fun x_6 ex_6 => ?_)
          have h := h x_6 ex_6
          exact hret (v_1, fu_began, fu_many) () x_6 _ _ _ _ rfl h hP hD hS d_Mo_namedSide_68
        · have h := h.2 c_5
          exact blk_58  _ _ _ _ _ _ h hP hD hS (lv_sub hl [] rfl)
  have blk_31 : ∀  (x3 : Int32) (fu_at : Int32) (fu_began : Int32) (fu_many : Int32)  (H : Heap) (locs : List Loc) (ls : Array Slot), w_Mo_namedSide_31 Q  fu_end au_text au_segments au_names au_nameSize x3 fu_at fu_began fu_many → va_P (dC, dI) cls (W_Mo_namedSide cI cC cB qu qu_text qu_segments qu_names qu_nameSize qu_bases qu_length qu_links qu_from qu_to qu_paths qu_titles qu_titleSize qu_steps qu_step qu_sideOf qu_within qu_read qu_cost qu_walk qu_edits qu_said fu_size fu_places fu_reads fu_there fu_total fu_walked fu_edited fu_written fu_at fu_end fu_began fu_many au_text au_segments au_names au_nameSize) H → va_D A (W_Mo_namedSide cI cC cB qu qu_text qu_segments qu_names qu_nameSize qu_bases qu_length qu_links qu_from qu_to qu_paths qu_titles qu_titleSize qu_steps qu_step qu_sideOf qu_within qu_read qu_cost qu_walk qu_edits qu_said fu_size fu_places fu_reads fu_there fu_total fu_walked fu_edited fu_written fu_at fu_end fu_began fu_many au_text au_segments au_names au_nameSize) → va_S A s.heap H locs → lv_has ls 6 [(0, .ref qu), (3, .int x3)] → W p l e rm_Mo_namedSide s m args below meth c H locs 0 0 QF (F0 m 31 ls []) := by
    intro  x3 fu_at fu_began fu_many  H locs ls h hP hD hS hl
    unfold w_Mo_namedSide_31 at h
    refine lv_iconst (v := 1) hx hb d_Mo_namedSide_31 (by decide) ?_
    refine lv_goto (tgt := 36) hx hb d_Mo_namedSide_32 (by decide) ?_
    exact blk_36  _ _ _ _ _ _ _ _ h hP hD hS (lv_sub hl [0, 1] rfl)
  have blk_17 : ∀  (s0 : Int32) (fu_at : Int32) (fu_began : Int32) (fu_many : Int32)  (H : Heap) (locs : List Loc) (ls : Array Slot), w_Mo_namedSide_17 Q  p1 fu_end au_text au_segments au_names au_nameSize s0 fu_at fu_began fu_many → va_P (dC, dI) cls (W_Mo_namedSide cI cC cB qu qu_text qu_segments qu_names qu_nameSize qu_bases qu_length qu_links qu_from qu_to qu_paths qu_titles qu_titleSize qu_steps qu_step qu_sideOf qu_within qu_read qu_cost qu_walk qu_edits qu_said fu_size fu_places fu_reads fu_there fu_total fu_walked fu_edited fu_written fu_at fu_end fu_began fu_many au_text au_segments au_names au_nameSize) H → va_D A (W_Mo_namedSide cI cC cB qu qu_text qu_segments qu_names qu_nameSize qu_bases qu_length qu_links qu_from qu_to qu_paths qu_titles qu_titleSize qu_steps qu_step qu_sideOf qu_within qu_read qu_cost qu_walk qu_edits qu_said fu_size fu_places fu_reads fu_there fu_total fu_walked fu_edited fu_written fu_at fu_end fu_began fu_many au_text au_segments au_names au_nameSize) → va_S A s.heap H locs → lv_has ls 6 [(0, .ref qu), (1, .int p1)] → W p l e rm_Mo_namedSide s m args below meth c H locs 0 0 QF (F0 m 17 ls [.int s0]) := by
    intro  s0 fu_at fu_began fu_many  H locs ls h hP hD hS hl
    unfold w_Mo_namedSide_17 at h
    refine lv_istore_n (lv' := [(3, .int s0), (0, .ref qu), (1, .int p1)]) hx hb d_Mo_namedSide_17 rfl hl (by decide) rfl (fun ls hl => ?_)
    refine lv_iload_n hx hb d_Mo_namedSide_18 rfl (lv_at hl 2 rfl) ?_
    refine lv_if_eq (tgt := 31) hx hb d_Mo_namedSide_19 (by decide) (fun c_7 => ?_) (fun c_7 => ?_)
    · have h := h.1 c_7
      exact blk_31  _ _ _ _ _ _ _ h hP hD hS (lv_sub hl [1, 0] rfl)
    · have h := h.2 c_7
      refine lv_aload_n hx hb d_Mo_namedSide_22 rfl (lv_at hl 1 rfl) ?_
      refine lv_bipush (v := 9) hx hb d_Mo_namedSide_23 (by decide) ?_
      refine call_V_i (As := [.int 9]) (rest := []) C0 hP hD hS [0, 1] [2, 3, 4] [3, 4, 0, 1, 2] [(qu_segments, .inl (cI, 2, .inl au_segments)), (qu_names, .inl (cC, 48, .inl au_names)), (qu_nameSize, .inl (cI, 16, .inl au_nameSize))] (fun (v : Int32) (b : Unit) => (W_Mo_namedSide cI cC cB qu qu_text qu_segments qu_names qu_nameSize qu_bases qu_length qu_links qu_from qu_to qu_paths qu_titles qu_titleSize qu_steps qu_step qu_sideOf qu_within qu_read qu_cost qu_walk qu_edits qu_said fu_size fu_places fu_reads fu_there fu_total fu_walked fu_edited fu_written v fu_end fu_began fu_many au_text au_segments au_names au_nameSize)) (ci := 6) rfl rfl (k_Mo_eat l dC dI cI cC cB _ qu qu_text qu_segments qu_names qu_nameSize qu_bases qu_length qu_links qu_from qu_to qu_paths qu_titles qu_titleSize qu_steps qu_step qu_sideOf qu_within qu_read qu_cost qu_walk qu_edits qu_said fu_size fu_places fu_reads fu_there fu_total fu_walked fu_edited fu_written fu_at fu_end fu_began fu_many au_text 9 h) (g_V w_415 w_416 w_417 w_418 w_414) 1 rfl (by decide +kernel) rfl rfl ⟨Nat.le_of_ble_eq_true rfl, Nat.le_of_ble_eq_true rfl⟩ rfl rfl (by decide) (by decide) (by decide) (by decide) (fun _ _ => rfl) hl.1 rfl (Nat.le_of_ble_eq_true rfl) d_Mo_namedSide_25 ⟨Nat.le_of_ble_eq_true rfl, Nat.le_of_ble_eq_true rfl⟩ (fun r_9 v_8 _ H locs h hP hD hS => ?_)
      have hP : va_P (dC, dI) cls (W_Mo_namedSide cI cC cB qu qu_text qu_segments qu_names qu_nameSize qu_bases qu_length qu_links qu_from qu_to qu_paths qu_titles qu_titleSize qu_steps qu_step qu_sideOf qu_within qu_read qu_cost qu_walk qu_edits qu_said fu_size fu_places fu_reads fu_there fu_total fu_walked fu_edited fu_written v_8 fu_end fu_began fu_many au_text au_segments au_names au_nameSize) H := hP
      have hD : va_D A (W_Mo_namedSide cI cC cB qu qu_text qu_segments qu_names qu_nameSize qu_bases qu_length qu_links qu_from qu_to qu_paths qu_titles qu_titleSize qu_steps qu_step qu_sideOf qu_within qu_read qu_cost qu_walk qu_edits qu_said fu_size fu_places fu_reads fu_there fu_total fu_walked fu_edited fu_written v_8 fu_end fu_began fu_many au_text au_segments au_names au_nameSize) := hD
      refine lv_if_eq (tgt := 35) hx hb d_Mo_namedSide_28 (by decide) (fun c_10 => ?_) (fun c_10 => ?_)
      · have h := h.1 c_10
        refine lv_iconst (v := 0) hx hb d_Mo_namedSide_35 (by decide) ?_
        exact blk_36  _ _ _ _ _ _ _ _ h hP hD hS (lv_sub hl [1, 0] rfl)
      · have h := h.2 c_10
        exact blk_31  _ _ _ _ _ _ _ h hP hD hS (lv_sub hl [1, 0] rfl)
  unfold wp_Mo_namedSide at h
  refine lv_aload_n hx hb d_Mo_namedSide_0 rfl (lv_at hl 0 rfl) ?_
  refine call_V_i (As := []) (rest := []) C0 hP hD hS [0, 1] [2, 3, 4] [3, 4, 0, 1, 2] [(qu_segments, .inl (cI, 2, .inl au_segments)), (qu_names, .inl (cC, 48, .inl au_names)), (qu_nameSize, .inl (cI, 16, .inl au_nameSize))] (fun (v : Int32 × Int32 × Int32) (b : Unit) => (W_Mo_namedSide cI cC cB qu qu_text qu_segments qu_names qu_nameSize qu_bases qu_length qu_links qu_from qu_to qu_paths qu_titles qu_titleSize qu_steps qu_step qu_sideOf qu_within qu_read qu_cost qu_walk qu_edits qu_said fu_size fu_places fu_reads fu_there fu_total fu_walked fu_edited fu_written v.1 fu_end v.2.1 v.2.2 au_text au_segments au_names au_nameSize)) (ci := 6) rfl rfl (k_Mo_eatName l dC dI cI cC cB _ qu qu_text qu_segments qu_names qu_nameSize qu_bases qu_length qu_links qu_from qu_to qu_paths qu_titles qu_titleSize qu_steps qu_step qu_sideOf qu_within qu_read qu_cost qu_walk qu_edits qu_said fu_size fu_places fu_reads fu_there fu_total fu_walked fu_edited fu_written fu_at fu_end fu_began fu_many au_text h) (g_V w_438 w_439 w_440 w_418 w_437) 0 rfl (by decide +kernel) rfl rfl ⟨Nat.le_of_ble_eq_true rfl, Nat.le_of_ble_eq_true rfl⟩ rfl rfl (by decide) (by decide) (by decide) (by decide) (fun _ _ => rfl) hl.1 rfl (Nat.le_of_ble_eq_true rfl) d_Mo_namedSide_1 ⟨Nat.le_of_ble_eq_true rfl, Nat.le_of_ble_eq_true rfl⟩ (fun r_12 v_11 _ H locs h hP hD hS => ?_)
  have hP : va_P (dC, dI) cls (W_Mo_namedSide cI cC cB qu qu_text qu_segments qu_names qu_nameSize qu_bases qu_length qu_links qu_from qu_to qu_paths qu_titles qu_titleSize qu_steps qu_step qu_sideOf qu_within qu_read qu_cost qu_walk qu_edits qu_said fu_size fu_places fu_reads fu_there fu_total fu_walked fu_edited fu_written v_11.1 fu_end v_11.2.1 v_11.2.2 au_text au_segments au_names au_nameSize) H := hP
  have hD : va_D A (W_Mo_namedSide cI cC cB qu qu_text qu_segments qu_names qu_nameSize qu_bases qu_length qu_links qu_from qu_to qu_paths qu_titles qu_titleSize qu_steps qu_step qu_sideOf qu_within qu_read qu_cost qu_walk qu_edits qu_said fu_size fu_places fu_reads fu_there fu_total fu_walked fu_edited fu_written v_11.1 fu_end v_11.2.1 v_11.2.2 au_text au_segments au_names au_nameSize) := hD
  refine lv_istore_n (lv' := [(2, .int r_12), (0, .ref qu), (1, .int p1)]) hx hb d_Mo_namedSide_4 rfl hl (by decide) rfl (fun ls hl => ?_)
  refine lv_iload_n hx hb d_Mo_namedSide_5 rfl (lv_at hl 0 rfl) ?_
  refine lv_if_eq (tgt := 16) hx hb d_Mo_namedSide_6 (by decide) (fun c_13 => ?_) (fun c_13 => ?_)
  · have h := h.1 c_13
    refine lv_iconst (v := (-1)) hx hb d_Mo_namedSide_16 (by decide) ?_
    exact blk_17  _ _ _ _ _ _ _ h hP hD hS (lv_sub hl [1, 2] rfl)
  · have h := h.2 c_13
    refine lv_aload_n hx hb d_Mo_namedSide_9 rfl (lv_at hl 1 rfl) ?_
    refine call_V_i (As := []) (rest := []) C0 hP hD hS [0, 1, 2, 3, 4] [] [0, 1, 2, 3, 4] [] (fun (v : Unit) (b : Unit) => (W_Mo_namedSide cI cC cB qu qu_text qu_segments qu_names qu_nameSize qu_bases qu_length qu_links qu_from qu_to qu_paths qu_titles qu_titleSize qu_steps qu_step qu_sideOf qu_within qu_read qu_cost qu_walk qu_edits qu_said fu_size fu_places fu_reads fu_there fu_total fu_walked fu_edited fu_written v_11.1 fu_end v_11.2.1 v_11.2.2 au_text au_segments au_names au_nameSize)) (ci := 6) rfl rfl (k_Mo_segmentNamed l dC dI cI cC cB _ qu qu_text qu_segments qu_names qu_nameSize qu_bases qu_length qu_links qu_from qu_to qu_paths qu_titles qu_titleSize qu_steps qu_step qu_sideOf qu_within qu_read qu_cost qu_walk qu_edits qu_said fu_size fu_places fu_reads fu_there fu_total fu_walked fu_edited fu_written v_11.1 fu_end v_11.2.1 v_11.2.2 au_text au_segments au_names au_nameSize h) (g_V w_434 w_435 w_436 w_418 w_433) 0 rfl (by decide +kernel) rfl rfl ⟨Nat.le_of_ble_eq_true rfl, Nat.le_of_ble_eq_true rfl⟩ rfl rfl (by decide) (by decide) (by decide) (by decide) (fun _ _ => rfl) hl.1 rfl (Nat.le_of_ble_eq_true rfl) d_Mo_namedSide_10 ⟨Nat.le_of_ble_eq_true rfl, Nat.le_of_ble_eq_true rfl⟩ (fun r_15 v_14 _ H locs h hP hD hS => ?_)
    have hP : va_P (dC, dI) cls (W_Mo_namedSide cI cC cB qu qu_text qu_segments qu_names qu_nameSize qu_bases qu_length qu_links qu_from qu_to qu_paths qu_titles qu_titleSize qu_steps qu_step qu_sideOf qu_within qu_read qu_cost qu_walk qu_edits qu_said fu_size fu_places fu_reads fu_there fu_total fu_walked fu_edited fu_written v_11.1 fu_end v_11.2.1 v_11.2.2 au_text au_segments au_names au_nameSize) H := hP
    have hD : va_D A (W_Mo_namedSide cI cC cB qu qu_text qu_segments qu_names qu_nameSize qu_bases qu_length qu_links qu_from qu_to qu_paths qu_titles qu_titleSize qu_steps qu_step qu_sideOf qu_within qu_read qu_cost qu_walk qu_edits qu_said fu_size fu_places fu_reads fu_there fu_total fu_walked fu_edited fu_written v_11.1 fu_end v_11.2.1 v_11.2.2 au_text au_segments au_names au_nameSize) := hD
    refine lv_goto (tgt := 17) hx hb d_Mo_namedSide_13 (by decide) ?_
    exact blk_17  _ _ _ _ _ _ _ h hP hD hS (lv_sub hl [1, 2] rfl)
abbrev W_Mo_linked (cI cC cB : ClassId) (qu : Nat) (qu_links : Nat) (qu_from : Nat) (qu_to : Nat) (qu_text : Nat) (qu_segments : Nat) (qu_names : Nat) (qu_nameSize : Nat) (qu_bases : Nat) (qu_length : Nat) (qu_paths : Nat) (qu_titles : Nat) (qu_titleSize : Nat) (qu_steps : Nat) (qu_step : Nat) (qu_sideOf : Nat) (qu_within : Nat) (qu_read : Nat) (qu_cost : Nat) (qu_walk : Nat) (qu_edits : Nat) (qu_said : Nat) (fu_size : Int32) (fu_places : Int32) (fu_reads : Int32) (fu_there : Int32) (fu_total : Int32) (fu_walked : Int32) (fu_edited : Int32) (fu_written : Int32) (fu_at : Int32) (fu_end : Int32) (fu_began : Int32) (fu_many : Int32) (au_links : Nat → Int32) (au_from : Nat → Int32) (au_to : Nat → Int32) : va_W := [(qu, .inr (6, [.int fu_size, .ref qu_text, .ref qu_segments, .ref qu_names, .ref qu_nameSize, .ref qu_bases, .ref qu_length, .ref qu_links, .ref qu_from, .ref qu_to, .ref qu_paths, .ref qu_titles, .ref qu_titleSize, .ref qu_steps, .ref qu_step, .int fu_places, .ref qu_sideOf, .ref qu_within, .int fu_reads, .ref qu_read, .ref qu_cost, .int fu_there, .int fu_total, .int fu_walked, .ref qu_walk, .int fu_edited, .ref qu_edits, .int fu_written, .ref qu_said, .int fu_at, .int fu_end, .int fu_began, .int fu_many])), (qu_links, .inl (cI, 2, .inl au_links)), (qu_from, .inl (cI, 24, .inl au_from)), (qu_to, .inl (cI, 24, .inl au_to))]
def w_Mo_linked_83 (Q : Int32 → Unit → Prop) (K_9 : Int32 → Int32 → Prop) (p1 : Int32) (p2 : Int32) (p3 : Int32) (au_links : Nat → Int32) (au_from : Nat → Int32) (au_to : Nat → Int32) (x5 : Int32) (s0 : Int32) : Prop := ∀ x5_1 : Int32, x5_1 = x5 + 1 → (K_9 s0 x5_1)
def w_Mo_linked_78 (Q : Int32 → Unit → Prop) (K_9 : Int32 → Int32 → Prop) (p1 : Int32) (p2 : Int32) (p3 : Int32) (au_links : Nat → Int32) (au_from : Nat → Int32) (au_to : Nat → Int32) (x5 : Int32) : Prop := w_Mo_linked_83 Q K_9 p1 p2 p3 au_links au_from au_to x5 1
def w_Mo_linked_82 (Q : Int32 → Unit → Prop) (K_9 : Int32 → Int32 → Prop) (p1 : Int32) (p2 : Int32) (p3 : Int32) (au_links : Nat → Int32) (au_from : Nat → Int32) (au_to : Nat → Int32) (x5 : Int32) : Prop := w_Mo_linked_83 Q K_9 p1 p2 p3 au_links au_from au_to x5 0
def w_Mo_linked_52 (Q : Int32 → Unit → Prop) (K_9 : Int32 → Int32 → Prop) (p1 : Int32) (p2 : Int32) (p3 : Int32) (au_links : Nat → Int32) (au_from : Nat → Int32) (au_to : Nat → Int32) (x5 : Int32) : Prop := vp_in x5 24 ∧ (∀ y_3 : Int32, y_3 = au_to x5.toNatClampNeg → (∀ x_4 : Int32, x_4 = p2 ^^^ 1 → (((y_3 = x_4 → (vp_in x5 24 ∧ (∀ y_7 : Int32, y_7 = au_from x5.toNatClampNeg → (∀ x_8 : Int32, x_8 = p3 ^^^ 1 → (((y_7 = x_8 → (w_Mo_linked_78 Q K_9 p1 p2 p3 au_links au_from au_to x5)) ∧ (¬ y_7 = x_8 → (w_Mo_linked_82 Q K_9 p1 p2 p3 au_links au_from au_to x5)))))))) ∧ (¬ y_3 = x_4 → (w_Mo_linked_82 Q K_9 p1 p2 p3 au_links au_from au_to x5))))))
def w_Mo_linked_9B (Q : Int32 → Unit → Prop)  (K_9 : Int32 → Int32 → Prop) (p1 : Int32) (p2 : Int32) (p3 : Int32) (au_links : Nat → Int32) (au_from : Nat → Int32) (au_to : Nat → Int32) (x4 : Int32) (x5 : Int32) : Prop := vp_in p1 2 ∧ (∀ x_11 : Int32, x_11 = (12 * p1) + (au_links p1.toNatClampNeg) → (((x_11 ≤ x5 → ((narrow .boolean (.int x4) = .int x4 ∧ Q x4 ()))) ∧ (¬ x_11 ≤ x5 → (((x4 = 0 → (vp_in x5 24 ∧ (∀ y_15 : Int32, y_15 = au_from x5.toNatClampNeg → (((y_15 = p2 → (vp_in x5 24 ∧ (∀ y_18 : Int32, y_18 = au_to x5.toNatClampNeg → (((y_18 = p3 → (w_Mo_linked_78 Q K_9 p1 p2 p3 au_links au_from au_to x5)) ∧ (¬ y_18 = p3 → (w_Mo_linked_52 Q K_9 p1 p2 p3 au_links au_from au_to x5))))))) ∧ (¬ y_15 = p2 → (w_Mo_linked_52 Q K_9 p1 p2 p3 au_links au_from au_to x5))))))) ∧ (¬ x4 = 0 → (w_Mo_linked_78 Q K_9 p1 p2 p3 au_links au_from au_to x5))))))))
def w_Mo_linked_9 (Q : Int32 → Unit → Prop)  (p1 : Int32) (p2 : Int32) (p3 : Int32) (au_links : Nat → Int32) (au_from : Nat → Int32) (au_to : Nat → Int32) : Nat → Int32 → Int32 → Prop
  | 0 => fun _ _ => False
  | n + 1 => fun x4 x5 => w_Mo_linked_9B Q  (w_Mo_linked_9 Q  p1 p2 p3 au_links au_from au_to n) p1 p2 p3 au_links au_from au_to x4 x5
def wp_Mo_linked (Q : Int32 → Unit → Prop) (p1 : Int32) (p2 : Int32) (p3 : Int32) (au_links : Nat → Int32) (au_from : Nat → Int32) (au_to : Nat → Int32) : Prop := ∀ x_20 : Int32, x_20 = 12 * p1 → (∃ fu_9 : Nat, w_Mo_linked_9 Q p1 p2 p3 au_links au_from au_to fu_9 0 x_20)
abbrev rm_Mo_linked : Room := { frames := 0, cells := 0, slots := 0, locals := 0 }
set_option maxHeartbeats 4000000 in
set_option maxRecDepth 100000 in
theorem k_Mo_linked (l : Launch) (dC : Nat → ClassId) (dI : Nat → Nat → Nat) (cI cC cB : ClassId) (sz : Nat) (qu : Nat) (qu_links : Nat) (qu_from : Nat) (qu_to : Nat) (qu_text : Nat) (qu_segments : Nat) (qu_names : Nat) (qu_nameSize : Nat) (qu_bases : Nat) (qu_length : Nat) (qu_paths : Nat) (qu_titles : Nat) (qu_titleSize : Nat) (qu_steps : Nat) (qu_step : Nat) (qu_sideOf : Nat) (qu_within : Nat) (qu_read : Nat) (qu_cost : Nat) (qu_walk : Nat) (qu_edits : Nat) (qu_said : Nat) (fu_size : Int32) (fu_places : Int32) (fu_reads : Int32) (fu_there : Int32) (fu_total : Int32) (fu_walked : Int32) (fu_edited : Int32) (fu_written : Int32) (fu_at : Int32) (fu_end : Int32) (fu_began : Int32) (fu_many : Int32) (au_links : Nat → Int32) (au_from : Nat → Int32) (au_to : Nat → Int32) (p1 : Int32) (p2 : Int32) (p3 : Int32) {Q : Int32 → Unit → Prop} (h : wp_Mo_linked Q p1 p2 p3 au_links au_from au_to) :
    CTi l y_Mo_linked (wM y_Mo_linked c_Mo_linked 6 (some .boolean)) rm_Mo_linked 0 0 (dC, dI) (tysL cI cC cB) [.ref qu, .int p1, .int p2, .int p3] (W_Mo_linked cI cC cB qu qu_links qu_from qu_to qu_text qu_segments qu_names qu_nameSize qu_bases qu_length qu_paths qu_titles qu_titleSize qu_steps qu_step qu_sideOf qu_within qu_read qu_cost qu_walk qu_edits qu_said fu_size fu_places fu_reads fu_there fu_total fu_walked fu_edited fu_written fu_at fu_end fu_began fu_many au_links au_from au_to) sz Q (fun (v : Unit) (b : Unit) => (W_Mo_linked cI cC cB qu qu_links qu_from qu_to qu_text qu_segments qu_names qu_nameSize qu_bases qu_length qu_paths qu_titles qu_titleSize qu_steps qu_step qu_sideOf qu_within qu_read qu_cost qu_walk qu_edits qu_said fu_size fu_places fu_reads fu_there fu_total fu_walked fu_edited fu_written fu_at fu_end fu_began fu_many au_links au_from au_to)) := by
  refine CTi.std (by decide) (Nat.le_of_ble_eq_true rfl) ?_
  intro p e s m args below meth c A ls QF C0 hP hD hl hS hsz hnm hret
  obtain ⟨hx, hb, hr, hml, hown, hts, hlocks, hN, hA, hK⟩ := id C0
  have hown : s.vm.findClass R_Mo = some m.cls := hown
  have hl : lv_has ls 6 [(0, .ref qu), (1, .int p1), (2, .int p2), (3, .int p3)] := hl
  clear hsz hnm
  have blk_83 : ∀ (K_9 : Int32 → Int32 → Prop) (hK_9 : ∀ (x4 : Int32) (x5 : Int32)  (H : Heap) (locs : List Loc) (ls : Array Slot), K_9 x4 x5 → va_P (dC, dI) cls (W_Mo_linked cI cC cB qu qu_links qu_from qu_to qu_text qu_segments qu_names qu_nameSize qu_bases qu_length qu_paths qu_titles qu_titleSize qu_steps qu_step qu_sideOf qu_within qu_read qu_cost qu_walk qu_edits qu_said fu_size fu_places fu_reads fu_there fu_total fu_walked fu_edited fu_written fu_at fu_end fu_began fu_many au_links au_from au_to) H → va_D A (W_Mo_linked cI cC cB qu qu_links qu_from qu_to qu_text qu_segments qu_names qu_nameSize qu_bases qu_length qu_paths qu_titles qu_titleSize qu_steps qu_step qu_sideOf qu_within qu_read qu_cost qu_walk qu_edits qu_said fu_size fu_places fu_reads fu_there fu_total fu_walked fu_edited fu_written fu_at fu_end fu_began fu_many au_links au_from au_to) → va_S A s.heap H locs → lv_has ls 6 [(0, .ref qu), (1, .int p1), (2, .int p2), (3, .int p3), (4, .int x4), (5, .int x5)] → W p l e rm_Mo_linked s m args below meth c H locs 0 0 QF (F0 m 9 ls [])) (x5 : Int32) (s0 : Int32)  (H : Heap) (locs : List Loc) (ls : Array Slot), w_Mo_linked_83 Q K_9 p1 p2 p3 au_links au_from au_to x5 s0 → va_P (dC, dI) cls (W_Mo_linked cI cC cB qu qu_links qu_from qu_to qu_text qu_segments qu_names qu_nameSize qu_bases qu_length qu_paths qu_titles qu_titleSize qu_steps qu_step qu_sideOf qu_within qu_read qu_cost qu_walk qu_edits qu_said fu_size fu_places fu_reads fu_there fu_total fu_walked fu_edited fu_written fu_at fu_end fu_began fu_many au_links au_from au_to) H → va_D A (W_Mo_linked cI cC cB qu qu_links qu_from qu_to qu_text qu_segments qu_names qu_nameSize qu_bases qu_length qu_paths qu_titles qu_titleSize qu_steps qu_step qu_sideOf qu_within qu_read qu_cost qu_walk qu_edits qu_said fu_size fu_places fu_reads fu_there fu_total fu_walked fu_edited fu_written fu_at fu_end fu_began fu_many au_links au_from au_to) → va_S A s.heap H locs → lv_has ls 6 [(0, .ref qu), (1, .int p1), (2, .int p2), (3, .int p3), (5, .int x5)] → W p l e rm_Mo_linked s m args below meth c H locs 0 0 QF (F0 m 83 ls [.int s0]) := by
    intro K_9 hK_9 x5 s0  H locs ls h hP hD hS hl
    unfold w_Mo_linked_83 at h
    refine lv_istore (lv' := [(4, .int s0), (0, .ref qu), (1, .int p1), (2, .int p2), (3, .int p3), (5, .int x5)]) hx hb d_Mo_linked_83 hl (by decide) rfl (fun ls hl => ?_)
    obtain ⟨x5_1, ex5_1⟩ : ∃ y : Int32, y = x5 + 1 := ⟨_, rfl⟩
    have h := h x5_1 ex5_1
    refine lv_iinc (v := x5_1) (lv' := [(5, .int x5_1), (4, .int s0), (0, .ref qu), (1, .int p1), (2, .int p2), (3, .int p3)]) hx hb d_Mo_linked_85 hl (k := 5) rfl (by rw [ex5_1]; rfl) (by decide) rfl (fun ls hl => ?_)
    refine lv_goto (tgt := 9) hx hb d_Mo_linked_88 (by decide) ?_
    exact hK_9 _ _ _ _ _ h hP hD hS (lv_sub hl [2, 3, 4, 5, 1, 0] rfl)
  have blk_78 : ∀ (K_9 : Int32 → Int32 → Prop) (hK_9 : ∀ (x4 : Int32) (x5 : Int32)  (H : Heap) (locs : List Loc) (ls : Array Slot), K_9 x4 x5 → va_P (dC, dI) cls (W_Mo_linked cI cC cB qu qu_links qu_from qu_to qu_text qu_segments qu_names qu_nameSize qu_bases qu_length qu_paths qu_titles qu_titleSize qu_steps qu_step qu_sideOf qu_within qu_read qu_cost qu_walk qu_edits qu_said fu_size fu_places fu_reads fu_there fu_total fu_walked fu_edited fu_written fu_at fu_end fu_began fu_many au_links au_from au_to) H → va_D A (W_Mo_linked cI cC cB qu qu_links qu_from qu_to qu_text qu_segments qu_names qu_nameSize qu_bases qu_length qu_paths qu_titles qu_titleSize qu_steps qu_step qu_sideOf qu_within qu_read qu_cost qu_walk qu_edits qu_said fu_size fu_places fu_reads fu_there fu_total fu_walked fu_edited fu_written fu_at fu_end fu_began fu_many au_links au_from au_to) → va_S A s.heap H locs → lv_has ls 6 [(0, .ref qu), (1, .int p1), (2, .int p2), (3, .int p3), (4, .int x4), (5, .int x5)] → W p l e rm_Mo_linked s m args below meth c H locs 0 0 QF (F0 m 9 ls [])) (x5 : Int32)  (H : Heap) (locs : List Loc) (ls : Array Slot), w_Mo_linked_78 Q K_9 p1 p2 p3 au_links au_from au_to x5 → va_P (dC, dI) cls (W_Mo_linked cI cC cB qu qu_links qu_from qu_to qu_text qu_segments qu_names qu_nameSize qu_bases qu_length qu_paths qu_titles qu_titleSize qu_steps qu_step qu_sideOf qu_within qu_read qu_cost qu_walk qu_edits qu_said fu_size fu_places fu_reads fu_there fu_total fu_walked fu_edited fu_written fu_at fu_end fu_began fu_many au_links au_from au_to) H → va_D A (W_Mo_linked cI cC cB qu qu_links qu_from qu_to qu_text qu_segments qu_names qu_nameSize qu_bases qu_length qu_paths qu_titles qu_titleSize qu_steps qu_step qu_sideOf qu_within qu_read qu_cost qu_walk qu_edits qu_said fu_size fu_places fu_reads fu_there fu_total fu_walked fu_edited fu_written fu_at fu_end fu_began fu_many au_links au_from au_to) → va_S A s.heap H locs → lv_has ls 6 [(0, .ref qu), (1, .int p1), (2, .int p2), (3, .int p3), (5, .int x5)] → W p l e rm_Mo_linked s m args below meth c H locs 0 0 QF (F0 m 78 ls []) := by
    intro K_9 hK_9 x5  H locs ls h hP hD hS hl
    unfold w_Mo_linked_78 at h
    refine lv_iconst (v := 1) hx hb d_Mo_linked_78 (by decide) ?_
    refine lv_goto (tgt := 83) hx hb d_Mo_linked_79 (by decide) ?_
    exact blk_83 _ hK_9 _ _ _ _ _ h hP hD hS (lv_sub hl [0, 1, 2, 3, 4] rfl)
  have blk_82 : ∀ (K_9 : Int32 → Int32 → Prop) (hK_9 : ∀ (x4 : Int32) (x5 : Int32)  (H : Heap) (locs : List Loc) (ls : Array Slot), K_9 x4 x5 → va_P (dC, dI) cls (W_Mo_linked cI cC cB qu qu_links qu_from qu_to qu_text qu_segments qu_names qu_nameSize qu_bases qu_length qu_paths qu_titles qu_titleSize qu_steps qu_step qu_sideOf qu_within qu_read qu_cost qu_walk qu_edits qu_said fu_size fu_places fu_reads fu_there fu_total fu_walked fu_edited fu_written fu_at fu_end fu_began fu_many au_links au_from au_to) H → va_D A (W_Mo_linked cI cC cB qu qu_links qu_from qu_to qu_text qu_segments qu_names qu_nameSize qu_bases qu_length qu_paths qu_titles qu_titleSize qu_steps qu_step qu_sideOf qu_within qu_read qu_cost qu_walk qu_edits qu_said fu_size fu_places fu_reads fu_there fu_total fu_walked fu_edited fu_written fu_at fu_end fu_began fu_many au_links au_from au_to) → va_S A s.heap H locs → lv_has ls 6 [(0, .ref qu), (1, .int p1), (2, .int p2), (3, .int p3), (4, .int x4), (5, .int x5)] → W p l e rm_Mo_linked s m args below meth c H locs 0 0 QF (F0 m 9 ls [])) (x5 : Int32)  (H : Heap) (locs : List Loc) (ls : Array Slot), w_Mo_linked_82 Q K_9 p1 p2 p3 au_links au_from au_to x5 → va_P (dC, dI) cls (W_Mo_linked cI cC cB qu qu_links qu_from qu_to qu_text qu_segments qu_names qu_nameSize qu_bases qu_length qu_paths qu_titles qu_titleSize qu_steps qu_step qu_sideOf qu_within qu_read qu_cost qu_walk qu_edits qu_said fu_size fu_places fu_reads fu_there fu_total fu_walked fu_edited fu_written fu_at fu_end fu_began fu_many au_links au_from au_to) H → va_D A (W_Mo_linked cI cC cB qu qu_links qu_from qu_to qu_text qu_segments qu_names qu_nameSize qu_bases qu_length qu_paths qu_titles qu_titleSize qu_steps qu_step qu_sideOf qu_within qu_read qu_cost qu_walk qu_edits qu_said fu_size fu_places fu_reads fu_there fu_total fu_walked fu_edited fu_written fu_at fu_end fu_began fu_many au_links au_from au_to) → va_S A s.heap H locs → lv_has ls 6 [(0, .ref qu), (1, .int p1), (2, .int p2), (3, .int p3), (5, .int x5)] → W p l e rm_Mo_linked s m args below meth c H locs 0 0 QF (F0 m 82 ls []) := by
    intro K_9 hK_9 x5  H locs ls h hP hD hS hl
    unfold w_Mo_linked_82 at h
    refine lv_iconst (v := 0) hx hb d_Mo_linked_82 (by decide) ?_
    exact blk_83 _ hK_9 _ _ _ _ _ h hP hD hS (lv_sub hl [0, 1, 2, 3, 4] rfl)
  have blk_52 : ∀ (K_9 : Int32 → Int32 → Prop) (hK_9 : ∀ (x4 : Int32) (x5 : Int32)  (H : Heap) (locs : List Loc) (ls : Array Slot), K_9 x4 x5 → va_P (dC, dI) cls (W_Mo_linked cI cC cB qu qu_links qu_from qu_to qu_text qu_segments qu_names qu_nameSize qu_bases qu_length qu_paths qu_titles qu_titleSize qu_steps qu_step qu_sideOf qu_within qu_read qu_cost qu_walk qu_edits qu_said fu_size fu_places fu_reads fu_there fu_total fu_walked fu_edited fu_written fu_at fu_end fu_began fu_many au_links au_from au_to) H → va_D A (W_Mo_linked cI cC cB qu qu_links qu_from qu_to qu_text qu_segments qu_names qu_nameSize qu_bases qu_length qu_paths qu_titles qu_titleSize qu_steps qu_step qu_sideOf qu_within qu_read qu_cost qu_walk qu_edits qu_said fu_size fu_places fu_reads fu_there fu_total fu_walked fu_edited fu_written fu_at fu_end fu_began fu_many au_links au_from au_to) → va_S A s.heap H locs → lv_has ls 6 [(0, .ref qu), (1, .int p1), (2, .int p2), (3, .int p3), (4, .int x4), (5, .int x5)] → W p l e rm_Mo_linked s m args below meth c H locs 0 0 QF (F0 m 9 ls [])) (x5 : Int32)  (H : Heap) (locs : List Loc) (ls : Array Slot), w_Mo_linked_52 Q K_9 p1 p2 p3 au_links au_from au_to x5 → va_P (dC, dI) cls (W_Mo_linked cI cC cB qu qu_links qu_from qu_to qu_text qu_segments qu_names qu_nameSize qu_bases qu_length qu_paths qu_titles qu_titleSize qu_steps qu_step qu_sideOf qu_within qu_read qu_cost qu_walk qu_edits qu_said fu_size fu_places fu_reads fu_there fu_total fu_walked fu_edited fu_written fu_at fu_end fu_began fu_many au_links au_from au_to) H → va_D A (W_Mo_linked cI cC cB qu qu_links qu_from qu_to qu_text qu_segments qu_names qu_nameSize qu_bases qu_length qu_paths qu_titles qu_titleSize qu_steps qu_step qu_sideOf qu_within qu_read qu_cost qu_walk qu_edits qu_said fu_size fu_places fu_reads fu_there fu_total fu_walked fu_edited fu_written fu_at fu_end fu_began fu_many au_links au_from au_to) → va_S A s.heap H locs → lv_has ls 6 [(0, .ref qu), (1, .int p1), (2, .int p2), (3, .int p3), (5, .int x5)] → W p l e rm_Mo_linked s m args below meth c H locs 0 0 QF (F0 m 52 ls []) := by
    intro K_9 hK_9 x5  H locs ls h hP hD hS hl
    unfold w_Mo_linked_52 at h
    refine lv_aload_n hx hb d_Mo_linked_52 rfl (lv_at hl 0 rfl) ?_
    refine va_get (D := (dC, dI)) (ci := 6) (v := .ref qu_to) (C := R_Mo) (T := T_Mo) (N := 33) hx hb hts in_Mo hown hK hP 0 rfl rfl 9 (by decide) (hts _ w_441) (fun _ h9 => h9) rfl d_Mo_linked_53 ?_
    refine lv_iload hx hb d_Mo_linked_56 (lv_at hl 4 rfl) ?_
    have hi_2 := h.1
    have h := h.2
    refine va_iald hx hb hK hP 3 0 rfl rfl hi_2 d_Mo_linked_58 ?_
    refine lv_topi (fun y_3 ey_3 => ?_)
    have h := h y_3 ey_3
    refine lv_iload_n hx hb d_Mo_linked_59 rfl (lv_at hl 2 rfl) ?_
    refine lv_iconst (v := 1) hx hb d_Mo_linked_60 (by decide) ?_
    refine lv_ixor hx hb d_Mo_linked_61 ?_
    refine lv_topi (fun x_4 ex_4 => ?_)
    have h := h x_4 ex_4
    refine lv_icmp_ne (tgt := 82) hx hb d_Mo_linked_62 (by decide) (fun c_5 => ?_) (fun c_5 => ?_)
    · have h := h.2 c_5
      exact blk_82 _ hK_9 _ _ _ _ h hP hD hS (lv_sub hl [0, 1, 2, 3, 4] rfl)
    · have h := h.1 c_5
      refine lv_aload_n hx hb d_Mo_linked_65 rfl (lv_at hl 0 rfl) ?_
      refine va_get (D := (dC, dI)) (ci := 6) (v := .ref qu_from) (C := R_Mo) (T := T_Mo) (N := 33) hx hb hts in_Mo hown hK hP 0 rfl rfl 8 (by decide) (hts _ w_442) (fun _ h9 => h9) rfl d_Mo_linked_66 ?_
      refine lv_iload hx hb d_Mo_linked_69 (lv_at hl 4 rfl) ?_
      have hi_6 := h.1
      have h := h.2
      refine va_iald hx hb hK hP 2 0 rfl rfl hi_6 d_Mo_linked_71 ?_
      refine lv_topi (fun y_7 ey_7 => ?_)
      have h := h y_7 ey_7
      refine lv_iload_n hx hb d_Mo_linked_72 rfl (lv_at hl 3 rfl) ?_
      refine lv_iconst (v := 1) hx hb d_Mo_linked_73 (by decide) ?_
      refine lv_ixor hx hb d_Mo_linked_74 ?_
      refine lv_topi (fun x_8 ex_8 => ?_)
      have h := h x_8 ex_8
      refine lv_icmp_ne (tgt := 82) hx hb d_Mo_linked_75 (by decide) (fun c_9 => ?_) (fun c_9 => ?_)
      · have h := h.2 c_9
        exact blk_82 _ hK_9 _ _ _ _ h hP hD hS (lv_sub hl [0, 1, 2, 3, 4] rfl)
      · have h := h.1 c_9
        exact blk_78 _ hK_9 _ _ _ _ h hP hD hS (lv_sub hl [0, 1, 2, 3, 4] rfl)
  have blk_9 : ∀  (n : Nat) (x4 : Int32) (x5 : Int32)  (H : Heap) (locs : List Loc) (ls : Array Slot), w_Mo_linked_9 Q  p1 p2 p3 au_links au_from au_to n x4 x5 → va_P (dC, dI) cls (W_Mo_linked cI cC cB qu qu_links qu_from qu_to qu_text qu_segments qu_names qu_nameSize qu_bases qu_length qu_paths qu_titles qu_titleSize qu_steps qu_step qu_sideOf qu_within qu_read qu_cost qu_walk qu_edits qu_said fu_size fu_places fu_reads fu_there fu_total fu_walked fu_edited fu_written fu_at fu_end fu_began fu_many au_links au_from au_to) H → va_D A (W_Mo_linked cI cC cB qu qu_links qu_from qu_to qu_text qu_segments qu_names qu_nameSize qu_bases qu_length qu_paths qu_titles qu_titleSize qu_steps qu_step qu_sideOf qu_within qu_read qu_cost qu_walk qu_edits qu_said fu_size fu_places fu_reads fu_there fu_total fu_walked fu_edited fu_written fu_at fu_end fu_began fu_many au_links au_from au_to) → va_S A s.heap H locs → lv_has ls 6 [(0, .ref qu), (1, .int p1), (2, .int p2), (3, .int p3), (4, .int x4), (5, .int x5)] → W p l e rm_Mo_linked s m args below meth c H locs 0 0 QF (F0 m 9 ls []) := by
    intro  n
    induction n with
    | zero => intro x4 x5  H locs ls h; exact (show False from h).elim
    | succ n ih =>
      intro x4 x5  H locs ls h hP hD hS hl
      have h : w_Mo_linked_9B Q  (w_Mo_linked_9 Q  p1 p2 p3 au_links au_from au_to n) p1 p2 p3 au_links au_from au_to x4 x5 := h
      generalize w_Mo_linked_9 Q  p1 p2 p3 au_links au_from au_to n = K_9 at h ih
      unfold w_Mo_linked_9B at h
      refine lv_iload hx hb d_Mo_linked_9 (lv_at hl 5 rfl) ?_
      refine lv_bipush (v := 12) hx hb d_Mo_linked_11 (by decide) ?_
      refine lv_iload_n hx hb d_Mo_linked_13 rfl (lv_at hl 1 rfl) ?_
      refine lv_imul hx hb d_Mo_linked_14 ?_
      refine lv_aload_n hx hb d_Mo_linked_15 rfl (lv_at hl 0 rfl) ?_
      refine va_get (D := (dC, dI)) (ci := 6) (v := .ref qu_links) (C := R_Mo) (T := T_Mo) (N := 33) hx hb hts in_Mo hown hK hP 0 rfl rfl 7 (by decide) (hts _ w_443) (fun _ h9 => h9) rfl d_Mo_linked_16 ?_
      refine lv_iload_n hx hb d_Mo_linked_19 rfl (lv_at hl 1 rfl) ?_
      have hi_10 := h.1
      have h := h.2
      refine va_iald hx hb hK hP 1 0 rfl rfl hi_10 d_Mo_linked_20 ?_
      refine lv_iadd hx hb d_Mo_linked_21 ?_
      refine lv_topi (fun x_11 ex_11 => ?_)
      have h := h x_11 ex_11
      refine lv_icmp_ge (tgt := 91) hx hb d_Mo_linked_22 (by decide) (fun c_12 => ?_) (fun c_12 => ?_)
      · have h := h.1 c_12
        refine lv_iload hx hb d_Mo_linked_91 (lv_at hl 4 rfl) ?_
        exact hret () () x4 _ _ _ _ h.1 h.2 hP hD hS d_Mo_linked_93
      · have h := h.2 c_12
        refine lv_iload hx hb d_Mo_linked_25 (lv_at hl 4 rfl) ?_
        refine lv_if_ne (tgt := 78) hx hb d_Mo_linked_27 (by decide) (fun c_13 => ?_) (fun c_13 => ?_)
        · have h := h.2 c_13
          exact blk_78 _ ih _ _ _ _ h hP hD hS (lv_sub hl [0, 1, 2, 3, 5] rfl)
        · have h := h.1 c_13
          refine lv_aload_n hx hb d_Mo_linked_30 rfl (lv_at hl 0 rfl) ?_
          refine va_get (D := (dC, dI)) (ci := 6) (v := .ref qu_from) (C := R_Mo) (T := T_Mo) (N := 33) hx hb hts in_Mo hown hK hP 0 rfl rfl 8 (by decide) (hts _ w_442) (fun _ h9 => h9) rfl d_Mo_linked_31 ?_
          refine lv_iload hx hb d_Mo_linked_34 (lv_at hl 5 rfl) ?_
          have hi_14 := h.1
          have h := h.2
          refine va_iald hx hb hK hP 2 0 rfl rfl hi_14 d_Mo_linked_36 ?_
          refine lv_topi (fun y_15 ey_15 => ?_)
          have h := h y_15 ey_15
          refine lv_iload_n hx hb d_Mo_linked_37 rfl (lv_at hl 2 rfl) ?_
          refine lv_icmp_ne (tgt := 52) hx hb d_Mo_linked_38 (by decide) (fun c_16 => ?_) (fun c_16 => ?_)
          · have h := h.2 c_16
            exact blk_52 _ ih _ _ _ _ h hP hD hS (lv_sub hl [0, 1, 2, 3, 5] rfl)
          · have h := h.1 c_16
            refine lv_aload_n hx hb d_Mo_linked_41 rfl (lv_at hl 0 rfl) ?_
            refine va_get (D := (dC, dI)) (ci := 6) (v := .ref qu_to) (C := R_Mo) (T := T_Mo) (N := 33) hx hb hts in_Mo hown hK hP 0 rfl rfl 9 (by decide) (hts _ w_441) (fun _ h9 => h9) rfl d_Mo_linked_42 ?_
            refine lv_iload hx hb d_Mo_linked_45 (lv_at hl 5 rfl) ?_
            have hi_17 := h.1
            have h := h.2
            refine va_iald hx hb hK hP 3 0 rfl rfl hi_17 d_Mo_linked_47 ?_
            refine lv_topi (fun y_18 ey_18 => ?_)
            have h := h y_18 ey_18
            refine lv_iload_n hx hb d_Mo_linked_48 rfl (lv_at hl 3 rfl) ?_
            refine lv_icmp_eq (tgt := 78) hx hb d_Mo_linked_49 (by decide) (fun c_19 => ?_) (fun c_19 => ?_)
            · have h := h.1 c_19
              exact blk_78 _ ih _ _ _ _ h hP hD hS (lv_sub hl [0, 1, 2, 3, 5] rfl)
            · have h := h.2 c_19
              exact blk_52 _ ih _ _ _ _ h hP hD hS (lv_sub hl [0, 1, 2, 3, 5] rfl)
  unfold wp_Mo_linked at h
  refine lv_iconst (v := 0) hx hb d_Mo_linked_0 (by decide) ?_
  refine lv_istore (lv' := [(4, .int 0), (0, .ref qu), (1, .int p1), (2, .int p2), (3, .int p3)]) hx hb d_Mo_linked_1 hl (by decide) rfl (fun ls hl => ?_)
  refine lv_bipush (v := 12) hx hb d_Mo_linked_3 (by decide) ?_
  refine lv_iload_n hx hb d_Mo_linked_5 rfl (lv_at hl 2 rfl) ?_
  refine lv_imul hx hb d_Mo_linked_6 ?_
  refine lv_topi (fun x_20 ex_20 => ?_)
  have h := h x_20 ex_20
  refine lv_istore (lv' := [(5, .int x_20), (4, .int 0), (0, .ref qu), (1, .int p1), (2, .int p2), (3, .int p3)]) hx hb d_Mo_linked_7 hl (by decide) rfl (fun ls hl => ?_)
  obtain ⟨fu_9, h⟩ := h
  exact blk_9  _ _ _ _ _ _ h hP hD hS (lv_sub hl [2, 3, 4, 5, 1, 0] rfl)
