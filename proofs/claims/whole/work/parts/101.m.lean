abbrev W_Gr_segmentNamed (cI cC cB : ClassId) (qu : Nat) (qu_segmentNames : Nat) (qu_sideStarts : Nat) (qu_placeBases : Nat) (qu_placeSides : Nat) (qu_followers : Nat) (qu_pathNames : Nat) (qu_stepCounts : Nat) (qu_steps : Nat) (qu_joinFrom : Nat) (qu_joinTo : Nat) (fu_segments : Int32) (fu_links : Int32) (fu_paths : Int32) (fu_places : Int32) (fu_joins : Int32) (au_segmentNames : Nat → Int32) : va_W := [(qu, .inr (5, [.int fu_segments, .int fu_links, .int fu_paths, .int fu_places, .int fu_joins, .ref qu_segmentNames, .ref qu_sideStarts, .ref qu_placeBases, .ref qu_placeSides, .ref qu_followers, .ref qu_pathNames, .ref qu_stepCounts, .ref qu_steps, .ref qu_joinFrom, .ref qu_joinTo])), (qu_segmentNames, .inl (cI, 8, .inl au_segmentNames))]
def wp_Gr_segmentNamed (Q : Int32 → Unit → Prop) (p1 : Int32) (fu_segments : Int32) (au_segmentNames : Nat → Int32) : Prop := wp_Gr_positionOf (fun r_2 v_1 => Q r_2 ()) p1 fu_segments 8 au_segmentNames
abbrev rm_Gr_segmentNamed : Room := { frames := 1, cells := 0, slots := 0, locals := 23 }
set_option maxHeartbeats 4000000 in
set_option maxRecDepth 100000 in
theorem k_Gr_segmentNamed (l : Launch) (dC : Nat → ClassId) (dI : Nat → Nat → Nat) (cI cC cB : ClassId) (sz : Nat) (qu : Nat) (qu_segmentNames : Nat) (qu_sideStarts : Nat) (qu_placeBases : Nat) (qu_placeSides : Nat) (qu_followers : Nat) (qu_pathNames : Nat) (qu_stepCounts : Nat) (qu_steps : Nat) (qu_joinFrom : Nat) (qu_joinTo : Nat) (fu_segments : Int32) (fu_links : Int32) (fu_paths : Int32) (fu_places : Int32) (fu_joins : Int32) (au_segmentNames : Nat → Int32) (p1 : Int32) {Q : Int32 → Unit → Prop} (h : wp_Gr_segmentNamed Q p1 fu_segments au_segmentNames) :
    CTi l y_Gr_segmentNamed (wM y_Gr_segmentNamed c_Gr_segmentNamed 2 (some .int)) rm_Gr_segmentNamed 0 0 (dC, dI) (tysL cI cC cB) [.ref qu, .int p1] (W_Gr_segmentNamed cI cC cB qu qu_segmentNames qu_sideStarts qu_placeBases qu_placeSides qu_followers qu_pathNames qu_stepCounts qu_steps qu_joinFrom qu_joinTo fu_segments fu_links fu_paths fu_places fu_joins au_segmentNames) sz Q (fun (v : Unit) (b : Unit) => (W_Gr_segmentNamed cI cC cB qu qu_segmentNames qu_sideStarts qu_placeBases qu_placeSides qu_followers qu_pathNames qu_stepCounts qu_steps qu_joinFrom qu_joinTo fu_segments fu_links fu_paths fu_places fu_joins au_segmentNames)) := by
  refine CTi.std (by decide) (Nat.le_of_ble_eq_true rfl) ?_
  intro p e s m args below meth c A ls QF C0 hP hD hl hS hsz hnm hret
  obtain ⟨hx, hb, hr, hml, hown, hts, hlocks, hN, hA, hK⟩ := id C0
  have hown : s.vm.findClass R_Gr = some m.cls := hown
  have hl : lv_has ls 2 [(0, .ref qu), (1, .int p1)] := hl
  clear hsz hnm
  unfold wp_Gr_segmentNamed at h
  refine lv_iload_n hx hb d_Gr_segmentNamed_0 rfl (lv_at hl 1 rfl) ?_
  refine lv_aload_n hx hb d_Gr_segmentNamed_1 rfl (lv_at hl 0 rfl) ?_
  refine va_get (D := (dC, dI)) (ci := 5) (v := .ref qu_segmentNames) (C := R_Gr) (T := T_Gr) (N := 15) hx hb hts in_Gr hown hK hP 0 rfl rfl 5 (by decide) (hts _ w_36) (fun _ h9 => h9) rfl d_Gr_segmentNamed_2 ?_
  refine lv_aload_n hx hb d_Gr_segmentNamed_5 rfl (lv_at hl 0 rfl) ?_
  refine va_get (D := (dC, dI)) (ci := 5) (v := .int fu_segments) (C := R_Gr) (T := T_Gr) (N := 15) hx hb hts in_Gr hown hK hP 0 rfl rfl 0 (by decide) (hts _ w_10) (fun _ h9 => h9) rfl d_Gr_segmentNamed_6 ?_
  refine call_S_i (As := [.int p1, .ref qu_segmentNames, .int fu_segments]) (rest := []) C0 hP hD hS [1] [0] [0, 1] [(qu, .inr (5, [.int fu_segments, .int fu_links, .int fu_paths, .int fu_places, .int fu_joins, .ref qu_segmentNames, .ref qu_sideStarts, .ref qu_placeBases, .ref qu_placeSides, .ref qu_followers, .ref qu_pathNames, .ref qu_stepCounts, .ref qu_steps, .ref qu_joinFrom, .ref qu_joinTo]))] (fun (v : Unit) (b : Unit) => (W_Gr_segmentNamed cI cC cB qu qu_segmentNames qu_sideStarts qu_placeBases qu_placeSides qu_followers qu_pathNames qu_stepCounts qu_steps qu_joinFrom qu_joinTo fu_segments fu_links fu_paths fu_places fu_joins au_segmentNames)) (k_Gr_positionOf l dC dI cI cC cB _ qu_segmentNames 8 au_segmentNames p1 fu_segments h) (g_S w_38 w_39 w_40 w_37) 3 rfl (by decide +kernel) rfl rfl ⟨Nat.le_of_ble_eq_true rfl, Nat.le_of_ble_eq_true rfl⟩ rfl rfl (by decide) (by decide) (by decide) (by decide) (fun _ _ => rfl) hl.1 rfl (Nat.le_of_ble_eq_true rfl) d_Gr_segmentNamed_9 ⟨Nat.le_of_ble_eq_true rfl, Nat.le_of_ble_eq_true rfl⟩ (fun r_2 v_1 _ H locs h hP hD hS => ?_)
  have hP : va_P (dC, dI) cls (W_Gr_segmentNamed cI cC cB qu qu_segmentNames qu_sideStarts qu_placeBases qu_placeSides qu_followers qu_pathNames qu_stepCounts qu_steps qu_joinFrom qu_joinTo fu_segments fu_links fu_paths fu_places fu_joins au_segmentNames) H := hP
  have hD : va_D A (W_Gr_segmentNamed cI cC cB qu qu_segmentNames qu_sideStarts qu_placeBases qu_placeSides qu_followers qu_pathNames qu_stepCounts qu_steps qu_joinFrom qu_joinTo fu_segments fu_links fu_paths fu_places fu_joins au_segmentNames) := hD
  exact hret () () r_2 _ _ _ _ rfl h hP hD hS d_Gr_segmentNamed_12
abbrev W_Gr_addPlace (cI cC cB : ClassId) (qu : Nat) (qu_placeBases : Nat) (qu_placeSides : Nat) (qu_segmentNames : Nat) (qu_sideStarts : Nat) (qu_followers : Nat) (qu_pathNames : Nat) (qu_stepCounts : Nat) (qu_steps : Nat) (qu_joinFrom : Nat) (qu_joinTo : Nat) (fu_segments : Int32) (fu_links : Int32) (fu_paths : Int32) (fu_places : Int32) (fu_joins : Int32) (au_placeBases : Nat → Int32) (au_placeSides : Nat → Int32) : va_W := [(qu, .inr (5, [.int fu_segments, .int fu_links, .int fu_paths, .int fu_places, .int fu_joins, .ref qu_segmentNames, .ref qu_sideStarts, .ref qu_placeBases, .ref qu_placeSides, .ref qu_followers, .ref qu_pathNames, .ref qu_stepCounts, .ref qu_steps, .ref qu_joinFrom, .ref qu_joinTo])), (qu_placeBases, .inl (cC, 64, .inl au_placeBases)), (qu_placeSides, .inl (cI, 64, .inl au_placeSides))]
def wp_Gr_addPlace (Q : (Int32 × (Nat → Int32) × (Nat → Int32)) → Prop) (p1 : Int32) (p2 : Int32) (fu_places : Int32) (au_placeBases : Nat → Int32) (au_placeSides : Nat → Int32) : Prop := vp_in fu_places 64 ∧ (∀ au_placeBases_2 : Nat → Int32, au_placeBases_2 = upd au_placeBases fu_places.toNatClampNeg (vp_nar .char p1) → (vp_in fu_places 64 ∧ (∀ au_placeSides_4 : Nat → Int32, au_placeSides_4 = upd au_placeSides fu_places.toNatClampNeg p2 → (∀ x_5 : Int32, x_5 = fu_places + 1 → (Q (x_5, au_placeBases_2, au_placeSides_4))))))
abbrev rm_Gr_addPlace : Room := { frames := 0, cells := 0, slots := 0, locals := 0 }
set_option maxHeartbeats 4000000 in
set_option maxRecDepth 100000 in
theorem k_Gr_addPlace (l : Launch) (dC : Nat → ClassId) (dI : Nat → Nat → Nat) (cI cC cB : ClassId) (sz : Nat) (qu : Nat) (qu_placeBases : Nat) (qu_placeSides : Nat) (qu_segmentNames : Nat) (qu_sideStarts : Nat) (qu_followers : Nat) (qu_pathNames : Nat) (qu_stepCounts : Nat) (qu_steps : Nat) (qu_joinFrom : Nat) (qu_joinTo : Nat) (fu_segments : Int32) (fu_links : Int32) (fu_paths : Int32) (fu_places : Int32) (fu_joins : Int32) (au_placeBases : Nat → Int32) (au_placeSides : Nat → Int32) (p1 : Int32) (p2 : Int32) {Q : (Int32 × (Nat → Int32) × (Nat → Int32)) → Prop} (h : wp_Gr_addPlace Q p1 p2 fu_places au_placeBases au_placeSides) :
    CTv l y_Gr_addPlace (wM y_Gr_addPlace c_Gr_addPlace 3 none) rm_Gr_addPlace 0 0 (dC, dI) (tysL cI cC cB) [.ref qu, .int p1, .int p2] (W_Gr_addPlace cI cC cB qu qu_placeBases qu_placeSides qu_segmentNames qu_sideStarts qu_followers qu_pathNames qu_stepCounts qu_steps qu_joinFrom qu_joinTo fu_segments fu_links fu_paths fu_places fu_joins au_placeBases au_placeSides) sz Q (fun (v : Int32 × (Nat → Int32) × (Nat → Int32)) (b : Unit) => (W_Gr_addPlace cI cC cB qu qu_placeBases qu_placeSides qu_segmentNames qu_sideStarts qu_followers qu_pathNames qu_stepCounts qu_steps qu_joinFrom qu_joinTo fu_segments fu_links fu_paths v.1 fu_joins v.2.1 v.2.2)) := by
  refine CTv.std (by decide) (Nat.le_of_ble_eq_true rfl) ?_
  intro p e s m args below meth c A ls QF C0 hP hD hl hS hsz hnm hret
  obtain ⟨hx, hb, hr, hml, hown, hts, hlocks, hN, hA, hK⟩ := id C0
  have hown : s.vm.findClass R_Gr = some m.cls := hown
  have hl : lv_has ls 3 [(0, .ref qu), (1, .int p1), (2, .int p2)] := hl
  clear hsz hnm
  unfold wp_Gr_addPlace at h
  refine lv_aload_n hx hb d_Gr_addPlace_0 rfl (lv_at hl 0 rfl) ?_
  refine va_get (D := (dC, dI)) (ci := 5) (v := .ref qu_placeBases) (C := R_Gr) (T := T_Gr) (N := 15) hx hb hts in_Gr hown hK hP 0 rfl rfl 7 (by decide) (hts _ w_80) (fun _ h9 => h9) rfl d_Gr_addPlace_1 ?_
  refine lv_aload_n hx hb d_Gr_addPlace_4 rfl (lv_at hl 0 rfl) ?_
  refine va_get (D := (dC, dI)) (ci := 5) (v := .int fu_places) (C := R_Gr) (T := T_Gr) (N := 15) hx hb hts in_Gr hown hK hP 0 rfl rfl 3 (by decide) (hts _ w_13) (fun _ h9 => h9) rfl d_Gr_addPlace_5 ?_
  refine lv_iload_n hx hb d_Gr_addPlace_8 rfl (lv_at hl 1 rfl) ?_
  have hi_1 := h.1
  have h := h.2
  refine va_cast hx hb hK hP hD hS 1 1 rfl rfl hi_1 d_Gr_addPlace_9 (fun H locs hP hD hS => ?_)
  obtain ⟨au_placeBases_2, eau_placeBases_2⟩ : ∃ z : Nat → Int32, z = upd au_placeBases fu_places.toNatClampNeg (vp_nar .char p1) := ⟨_, rfl⟩
  have h := h au_placeBases_2 eau_placeBases_2
  have hP : va_P (dC, dI) cls (W_Gr_addPlace cI cC cB qu qu_placeBases qu_placeSides qu_segmentNames qu_sideStarts qu_followers qu_pathNames qu_stepCounts qu_steps qu_joinFrom qu_joinTo fu_segments fu_links fu_paths fu_places fu_joins au_placeBases_2 au_placeSides) H := by rw [eau_placeBases_2]; exact hP
  have hD : va_D A (W_Gr_addPlace cI cC cB qu qu_placeBases qu_placeSides qu_segmentNames qu_sideStarts qu_followers qu_pathNames qu_stepCounts qu_steps qu_joinFrom qu_joinTo fu_segments fu_links fu_paths fu_places fu_joins au_placeBases_2 au_placeSides) := by rw [eau_placeBases_2]; exact hD
  refine lv_aload_n hx hb d_Gr_addPlace_10 rfl (lv_at hl 0 rfl) ?_
  refine va_get (D := (dC, dI)) (ci := 5) (v := .ref qu_placeSides) (C := R_Gr) (T := T_Gr) (N := 15) hx hb hts in_Gr hown hK hP 0 rfl rfl 8 (by decide) (hts _ w_81) (fun _ h9 => h9) rfl d_Gr_addPlace_11 ?_
  refine lv_aload_n hx hb d_Gr_addPlace_14 rfl (lv_at hl 0 rfl) ?_
  refine va_get (D := (dC, dI)) (ci := 5) (v := .int fu_places) (C := R_Gr) (T := T_Gr) (N := 15) hx hb hts in_Gr hown hK hP 0 rfl rfl 3 (by decide) (hts _ w_13) (fun _ h9 => h9) rfl d_Gr_addPlace_15 ?_
  refine lv_iload_n hx hb d_Gr_addPlace_18 rfl (lv_at hl 2 rfl) ?_
  have hi_3 := h.1
  have h := h.2
  refine va_iast hx hb hK hP hD hS 2 0 rfl rfl hi_3 d_Gr_addPlace_19 (fun H locs hP hD hS => ?_)
  obtain ⟨au_placeSides_4, eau_placeSides_4⟩ : ∃ z : Nat → Int32, z = upd au_placeSides fu_places.toNatClampNeg p2 := ⟨_, rfl⟩
  have h := h au_placeSides_4 eau_placeSides_4
  have hP : va_P (dC, dI) cls (W_Gr_addPlace cI cC cB qu qu_placeBases qu_placeSides qu_segmentNames qu_sideStarts qu_followers qu_pathNames qu_stepCounts qu_steps qu_joinFrom qu_joinTo fu_segments fu_links fu_paths fu_places fu_joins au_placeBases_2 au_placeSides_4) H := by rw [eau_placeSides_4]; exact hP
  have hD : va_D A (W_Gr_addPlace cI cC cB qu qu_placeBases qu_placeSides qu_segmentNames qu_sideStarts qu_followers qu_pathNames qu_stepCounts qu_steps qu_joinFrom qu_joinTo fu_segments fu_links fu_paths fu_places fu_joins au_placeBases_2 au_placeSides_4) := by rw [eau_placeSides_4]; exact hD
  refine lv_aload_n hx hb d_Gr_addPlace_20 rfl (lv_at hl 0 rfl) ?_
  refine lv_dup hx hb d_Gr_addPlace_21 rfl ?_
  refine va_get (D := (dC, dI)) (ci := 5) (v := .int fu_places) (C := R_Gr) (T := T_Gr) (N := 15) hx hb hts in_Gr hown hK hP 0 rfl rfl 3 (by decide) (hts _ w_13) (fun _ h9 => h9) rfl d_Gr_addPlace_22 ?_
  refine lv_iconst (v := 1) hx hb d_Gr_addPlace_25 (by decide) ?_
  refine lv_iadd hx hb d_Gr_addPlace_26 ?_
  refine lv_topi (fun x_5 ex_5 => ?_)
  have h := h x_5 ex_5
  refine va_put (D := (dC, dI)) (ci := 5) (v := .int x_5) (ty := .int) (C := R_Gr) (T := T_Gr) (N := 15) hx hb hts in_Gr t_Gr t_Gr_ok n_Gr hown hK hP hD hS 0 rfl rfl 3 (by decide) (hts _ w_13) (fun _ h9 => h9) rfl (by decide +kernel) rfl rfl (Nat.le_of_ble_eq_true rfl) d_Gr_addPlace_27 (fun H locs hP hD hS => ?_)
  have hP : va_P (dC, dI) cls (W_Gr_addPlace cI cC cB qu qu_placeBases qu_placeSides qu_segmentNames qu_sideStarts qu_followers qu_pathNames qu_stepCounts qu_steps qu_joinFrom qu_joinTo fu_segments fu_links fu_paths x_5 fu_joins au_placeBases_2 au_placeSides_4) H := hP
  have hD : va_D A (W_Gr_addPlace cI cC cB qu qu_placeBases qu_placeSides qu_segmentNames qu_sideStarts qu_followers qu_pathNames qu_stepCounts qu_steps qu_joinFrom qu_joinTo fu_segments fu_links fu_paths x_5 fu_joins au_placeBases_2 au_placeSides_4) := hD
  exact hret (x_5, au_placeBases_2, au_placeSides_4) () _ _ _ _ h hP hD hS d_Gr_addPlace_30
def wp_X_turned (Q : Int32 → Unit → Prop) (p0 : Int32)  : Prop := ∀ x_1 : Int32, x_1 = p0 ^^^ 1 → (Q x_1 ())
abbrev rm_X_turned : Room := { frames := 0, cells := 0, slots := 0, locals := 0 }
set_option maxHeartbeats 4000000 in
set_option maxRecDepth 100000 in
theorem k_X_turned (l : Launch) (dC : Nat → ClassId) (dI : Nat → Nat → Nat) (cI cC cB : ClassId) (sz : Nat)   (p0 : Int32) {Q : Int32 → Unit → Prop} (h : wp_X_turned Q p0 ) :
    CTi l y_X_turned (wM y_X_turned c_X_turned 1 (some .int)) rm_X_turned 0 0 (dC, dI) (tysL cI cC cB) [.int p0] [] sz Q (fun (v : Unit) (b : Unit) => []) := by
  refine CTi.std (by decide) (Nat.le_of_ble_eq_true rfl) ?_
  intro p e s m args below meth c A ls QF C0 hP hD hl hS hsz hnm hret
  obtain ⟨hx, hb, hr, hml, hown, hts, hlocks, hN, hA, hK⟩ := id C0
  have hown : s.vm.findClass R_X = some m.cls := hown
  have hl : lv_has ls 1 [(0, .int p0)] := hl
  clear hsz hnm
  unfold wp_X_turned at h
  refine lv_iload_n hx hb d_X_turned_0 rfl (lv_at hl 0 rfl) ?_
  refine lv_iconst (v := 1) hx hb d_X_turned_1 (by decide) ?_
  refine lv_ixor hx hb d_X_turned_2 ?_
  refine lv_topi (fun x_1 ex_1 => ?_)
  have h := h x_1 ex_1
  exact hret () () x_1 _ _ _ _ rfl h hP hD hS d_X_turned_3
def wp_X_partner (Q : Int32 → Unit → Prop) (p0 : Int32)  : Prop := ((p0 = 65 → (Q 84 ())) ∧ (¬ p0 = 65 → (((p0 = 67 → (Q 71 ())) ∧ (¬ p0 = 67 → (((p0 = 71 → (Q 67 ())) ∧ (¬ p0 = 71 → (Q 65 ())))))))))
abbrev rm_X_partner : Room := { frames := 0, cells := 0, slots := 0, locals := 0 }
set_option maxHeartbeats 4000000 in
set_option maxRecDepth 100000 in
theorem k_X_partner (l : Launch) (dC : Nat → ClassId) (dI : Nat → Nat → Nat) (cI cC cB : ClassId) (sz : Nat)   (p0 : Int32) {Q : Int32 → Unit → Prop} (h : wp_X_partner Q p0 ) :
    CTi l y_X_partner (wM y_X_partner c_X_partner 1 (some .char)) rm_X_partner 0 0 (dC, dI) (tysL cI cC cB) [.int p0] [] sz Q (fun (v : Unit) (b : Unit) => []) := by
  refine CTi.std (by decide) (Nat.le_of_ble_eq_true rfl) ?_
  intro p e s m args below meth c A ls QF C0 hP hD hl hS hsz hnm hret
  obtain ⟨hx, hb, hr, hml, hown, hts, hlocks, hN, hA, hK⟩ := id C0
  have hown : s.vm.findClass R_X = some m.cls := hown
  have hl : lv_has ls 1 [(0, .int p0)] := hl
  clear hsz hnm
  unfold wp_X_partner at h
  refine lv_iload_n hx hb d_X_partner_0 rfl (lv_at hl 0 rfl) ?_
  by_cases c_1 : p0 = 65
  · have h := h.1 c_1
    refine lv_lookup (off := 35) (tgt := 36) hx hb d_X_partner_1 (by decide) (by rw [c_1]; decide) (by decide) ?_
    refine lv_bipush (v := 84) hx hb d_X_partner_36 (by decide) ?_
    exact hret () () 84 _ _ _ _ rfl h hP hD hS d_X_partner_38
  have h := h.2 c_1
  by_cases c_2 : p0 = 67
  · have h := h.1 c_2
    refine lv_lookup (off := 38) (tgt := 39) hx hb d_X_partner_1 (by decide) (by rw [c_2]; decide) (by decide) ?_
    refine lv_bipush (v := 71) hx hb d_X_partner_39 (by decide) ?_
    exact hret () () 71 _ _ _ _ rfl h hP hD hS d_X_partner_41
  have h := h.2 c_2
  by_cases c_3 : p0 = 71
  · have h := h.1 c_3
    refine lv_lookup (off := 41) (tgt := 42) hx hb d_X_partner_1 (by decide) (by rw [c_3]; decide) (by decide) ?_
    refine lv_bipush (v := 67) hx hb d_X_partner_42 (by decide) ?_
    exact hret () () 67 _ _ _ _ rfl h hP hD hS d_X_partner_44
  have h := h.2 c_3
  refine lv_lookup (off := 44) (tgt := 45) hx hb d_X_partner_1 (by decide) (by rw [lv_osw c_1 (by decide), lv_osw c_2 (by decide), lv_osw c_3 (by decide)]; rfl) (by decide) ?_
  refine lv_bipush (v := 65) hx hb d_X_partner_45 (by decide) ?_
  exact hret () () 65 _ _ _ _ rfl h hP hD hS d_X_partner_47
abbrev W_Gr_addSegment (cI cC cB : ClassId) (qu : Nat) (qu_segmentNames : Nat) (qu_sideStarts : Nat) (qu_placeBases : Nat) (qu_placeSides : Nat) (qw : Nat) (qu_followers : Nat) (qu_pathNames : Nat) (qu_stepCounts : Nat) (qu_steps : Nat) (qu_joinFrom : Nat) (qu_joinTo : Nat) (fu_segments : Int32) (fu_links : Int32) (fu_paths : Int32) (fu_places : Int32) (fu_joins : Int32) (au_segmentNames : Nat → Int32) (au_sideStarts : Nat → Int32) (au_placeBases : Nat → Int32) (au_placeSides : Nat → Int32) (nw : Nat) (aw : Nat → Int32) : va_W := [(qu, .inr (5, [.int fu_segments, .int fu_links, .int fu_paths, .int fu_places, .int fu_joins, .ref qu_segmentNames, .ref qu_sideStarts, .ref qu_placeBases, .ref qu_placeSides, .ref qu_followers, .ref qu_pathNames, .ref qu_stepCounts, .ref qu_steps, .ref qu_joinFrom, .ref qu_joinTo])), (qu_segmentNames, .inl (cI, 8, .inl au_segmentNames)), (qu_sideStarts, .inl (cI, 16, .inl au_sideStarts)), (qu_placeBases, .inl (cC, 64, .inl au_placeBases)), (qu_placeSides, .inl (cI, 64, .inl au_placeSides)), (qw, .inl (cC, nw, .inl aw))]
def w_Gr_addSegment_130B (Q : Int32 → (Int32 × Int32 × (Nat → Int32) × (Nat → Int32) × (Nat → Int32) × (Nat → Int32)) → Prop)  (K_130 : Int32 → Int32 → Int32 → Int32 → (Nat → Int32) → (Nat → Int32) → (Nat → Int32) → (Nat → Int32) → Prop) (p3 : Int32) (nw : Nat) (aw : Nat → Int32) (x6 : Int32) (x7 : Int32) (fu_segments : Int32) (fu_places : Int32) (au_segmentNames : Nat → Int32) (au_sideStarts : Nat → Int32) (au_placeBases : Nat → Int32) (au_placeSides : Nat → Int32) : Prop := ((x7 < 0 → (Q 1 (fu_segments, fu_places, au_segmentNames, au_sideStarts, au_placeBases, au_placeSides))) ∧ (¬ x7 < 0 → (∀ x_2 : Int32, x_2 = p3 + x7 → (vp_in x_2 nw ∧ (∀ y_4 : Int32, y_4 = aw x_2.toNatClampNeg → (wp_X_partner (fun r_6 v_5 => wp_X_turned (fun r_8 v_7 => wp_Gr_addPlace (fun v_9 => ∀ x7_11 : Int32, x7_11 = x7 + (-1) → (K_130 x6 x7_11 fu_segments v_9.1 au_segmentNames au_sideStarts v_9.2.1 v_9.2.2)) r_6 r_8 fu_places au_placeBases au_placeSides) x6) y_4))))))
def w_Gr_addSegment_130 (Q : Int32 → (Int32 × Int32 × (Nat → Int32) × (Nat → Int32) × (Nat → Int32) × (Nat → Int32)) → Prop)  (p3 : Int32) (nw : Nat) (aw : Nat → Int32) : Nat → Int32 → Int32 → Int32 → Int32 → (Nat → Int32) → (Nat → Int32) → (Nat → Int32) → (Nat → Int32) → Prop
  | 0 => fun _ _ _ _ _ _ _ _ => False
  | n + 1 => fun x6 x7 fu_segments fu_places au_segmentNames au_sideStarts au_placeBases au_placeSides => w_Gr_addSegment_130B Q  (w_Gr_addSegment_130 Q  p3 nw aw n) p3 nw aw x6 x7 fu_segments fu_places au_segmentNames au_sideStarts au_placeBases au_placeSides
def w_Gr_addSegment_85B (Q : Int32 → (Int32 × Int32 × (Nat → Int32) × (Nat → Int32) × (Nat → Int32) × (Nat → Int32)) → Prop)  (K_85 : Int32 → Int32 → Int32 → Int32 → (Nat → Int32) → (Nat → Int32) → (Nat → Int32) → (Nat → Int32) → Prop) (p3 : Int32) (p4 : Int32) (nw : Nat) (aw : Nat → Int32) (x6 : Int32) (x7 : Int32) (fu_segments : Int32) (fu_places : Int32) (au_segmentNames : Nat → Int32) (au_sideStarts : Nat → Int32) (au_placeBases : Nat → Int32) (au_placeSides : Nat → Int32) : Prop := ((p4 ≤ x7 → (wp_X_turned (fun r_14 v_13 => vp_in r_14 16 ∧ (∀ au_sideStarts_16 : Nat → Int32, au_sideStarts_16 = upd au_sideStarts r_14.toNatClampNeg fu_places → (∀ x_17 : Int32, x_17 = p4 - 1 → (∃ fu_130 : Nat, w_Gr_addSegment_130 Q p3 nw aw fu_130 x6 x_17 fu_segments fu_places au_segmentNames au_sideStarts_16 au_placeBases au_placeSides)))) x6)) ∧ (¬ p4 ≤ x7 → (∀ x_18 : Int32, x_18 = p3 + x7 → (vp_in x_18 nw ∧ (∀ y_20 : Int32, y_20 = aw x_18.toNatClampNeg → (wp_Gr_addPlace (fun v_21 => ∀ x7_23 : Int32, x7_23 = x7 + 1 → (K_85 x6 x7_23 fu_segments v_21.1 au_segmentNames au_sideStarts v_21.2.1 v_21.2.2)) y_20 x6 fu_places au_placeBases au_placeSides))))))
def w_Gr_addSegment_85 (Q : Int32 → (Int32 × Int32 × (Nat → Int32) × (Nat → Int32) × (Nat → Int32) × (Nat → Int32)) → Prop)  (p3 : Int32) (p4 : Int32) (nw : Nat) (aw : Nat → Int32) : Nat → Int32 → Int32 → Int32 → Int32 → (Nat → Int32) → (Nat → Int32) → (Nat → Int32) → (Nat → Int32) → Prop
  | 0 => fun _ _ _ _ _ _ _ _ => False
  | n + 1 => fun x6 x7 fu_segments fu_places au_segmentNames au_sideStarts au_placeBases au_placeSides => w_Gr_addSegment_85B Q  (w_Gr_addSegment_85 Q  p3 p4 nw aw n) p3 p4 nw aw x6 x7 fu_segments fu_places au_segmentNames au_sideStarts au_placeBases au_placeSides
def w_Gr_addSegment_26 (Q : Int32 → (Int32 × Int32 × (Nat → Int32) × (Nat → Int32) × (Nat → Int32) × (Nat → Int32)) → Prop)  (p1 : Int32) (p3 : Int32) (p4 : Int32) (nw : Nat) (aw : Nat → Int32) (s0 : Int32) (fu_segments : Int32) (fu_places : Int32) (au_segmentNames : Nat → Int32) (au_sideStarts : Nat → Int32) (au_placeBases : Nat → Int32) (au_placeSides : Nat → Int32) : Prop := ((s0 = 0 → (Q 0 (fu_segments, fu_places, au_segmentNames, au_sideStarts, au_placeBases, au_placeSides))) ∧ (¬ s0 = 0 → (wp_Gr_segmentNamed (fun r_26 v_25 => ((r_26 < 0 → (∀ x_28 : Int32, x_28 = 2 * fu_segments → (vp_in fu_segments 8 ∧ (∀ au_segmentNames_30 : Nat → Int32, au_segmentNames_30 = upd au_segmentNames fu_segments.toNatClampNeg p1 → (∀ x_31 : Int32, x_31 = fu_segments + 1 → (vp_in x_28 16 ∧ (∀ au_sideStarts_33 : Nat → Int32, au_sideStarts_33 = upd au_sideStarts x_28.toNatClampNeg fu_places → (∃ fu_85 : Nat, w_Gr_addSegment_85 Q p3 p4 nw aw fu_85 x_28 0 x_31 fu_places au_segmentNames_30 au_sideStarts_33 au_placeBases au_placeSides)))))))) ∧ (¬ r_26 < 0 → (Q 0 (fu_segments, fu_places, au_segmentNames, au_sideStarts, au_placeBases, au_placeSides))))) p1 fu_segments au_segmentNames)))
def w_Gr_addSegment_25 (Q : Int32 → (Int32 × Int32 × (Nat → Int32) × (Nat → Int32) × (Nat → Int32) × (Nat → Int32)) → Prop)  (p1 : Int32) (p3 : Int32) (p4 : Int32) (nw : Nat) (aw : Nat → Int32) (fu_segments : Int32) (fu_places : Int32) (au_segmentNames : Nat → Int32) (au_sideStarts : Nat → Int32) (au_placeBases : Nat → Int32) (au_placeSides : Nat → Int32) : Prop := w_Gr_addSegment_26 Q p1 p3 p4 nw aw 0 fu_segments fu_places au_segmentNames au_sideStarts au_placeBases au_placeSides
def wp_Gr_addSegment (Q : Int32 → (Int32 × Int32 × (Nat → Int32) × (Nat → Int32) × (Nat → Int32) × (Nat → Int32)) → Prop) (p1 : Int32) (p3 : Int32) (p4 : Int32) (fu_segments : Int32) (fu_places : Int32) (au_segmentNames : Nat → Int32) (au_sideStarts : Nat → Int32) (au_placeBases : Nat → Int32) (au_placeSides : Nat → Int32) (nw : Nat) (aw : Nat → Int32) : Prop := ((8 ≤ fu_segments → (w_Gr_addSegment_25 Q p1 p3 p4 nw aw fu_segments fu_places au_segmentNames au_sideStarts au_placeBases au_placeSides)) ∧ (¬ 8 ≤ fu_segments → (((p4 < 1 → (w_Gr_addSegment_25 Q p1 p3 p4 nw aw fu_segments fu_places au_segmentNames au_sideStarts au_placeBases au_placeSides)) ∧ (¬ p4 < 1 → (((4 < p4 → (w_Gr_addSegment_25 Q p1 p3 p4 nw aw fu_segments fu_places au_segmentNames au_sideStarts au_placeBases au_placeSides)) ∧ (¬ 4 < p4 → (w_Gr_addSegment_26 Q p1 p3 p4 nw aw 1 fu_segments fu_places au_segmentNames au_sideStarts au_placeBases au_placeSides)))))))))
abbrev rm_Gr_addSegment : Room := { frames := 2, cells := 0, slots := 0, locals := 44 }
set_option maxHeartbeats 4000000 in
set_option maxRecDepth 100000 in
theorem k_Gr_addSegment (l : Launch) (dC : Nat → ClassId) (dI : Nat → Nat → Nat) (cI cC cB : ClassId) (sz : Nat) (qu : Nat) (qu_segmentNames : Nat) (qu_sideStarts : Nat) (qu_placeBases : Nat) (qu_placeSides : Nat) (qw : Nat) (qu_followers : Nat) (qu_pathNames : Nat) (qu_stepCounts : Nat) (qu_steps : Nat) (qu_joinFrom : Nat) (qu_joinTo : Nat) (fu_segments : Int32) (fu_links : Int32) (fu_paths : Int32) (fu_places : Int32) (fu_joins : Int32) (au_segmentNames : Nat → Int32) (au_sideStarts : Nat → Int32) (au_placeBases : Nat → Int32) (au_placeSides : Nat → Int32) (nw : Nat) (aw : Nat → Int32) (p1 : Int32) (p3 : Int32) (p4 : Int32) {Q : Int32 → (Int32 × Int32 × (Nat → Int32) × (Nat → Int32) × (Nat → Int32) × (Nat → Int32)) → Prop} (h : wp_Gr_addSegment Q p1 p3 p4 fu_segments fu_places au_segmentNames au_sideStarts au_placeBases au_placeSides nw aw) :
    CTi l y_Gr_addSegment (wM y_Gr_addSegment c_Gr_addSegment 8 (some .boolean)) rm_Gr_addSegment 0 0 (dC, dI) (tysL cI cC cB) [.ref qu, .int p1, .ref qw, .int p3, .int p4] (W_Gr_addSegment cI cC cB qu qu_segmentNames qu_sideStarts qu_placeBases qu_placeSides qw qu_followers qu_pathNames qu_stepCounts qu_steps qu_joinFrom qu_joinTo fu_segments fu_links fu_paths fu_places fu_joins au_segmentNames au_sideStarts au_placeBases au_placeSides nw aw) sz Q (fun (v : Int32 × Int32 × (Nat → Int32) × (Nat → Int32) × (Nat → Int32) × (Nat → Int32)) (b : Unit) => (W_Gr_addSegment cI cC cB qu qu_segmentNames qu_sideStarts qu_placeBases qu_placeSides qw qu_followers qu_pathNames qu_stepCounts qu_steps qu_joinFrom qu_joinTo v.1 fu_links fu_paths v.2.1 fu_joins v.2.2.1 v.2.2.2.1 v.2.2.2.2.1 v.2.2.2.2.2 nw aw)) := by
  refine CTi.std (by decide) (Nat.le_of_ble_eq_true rfl) ?_
  intro p e s m args below meth c A ls QF C0 hP hD hl hS hsz hnm hret
  obtain ⟨hx, hb, hr, hml, hown, hts, hlocks, hN, hA, hK⟩ := id C0
  have hown : s.vm.findClass R_Gr = some m.cls := hown
  have hl : lv_has ls 8 [(0, .ref qu), (1, .int p1), (2, .ref qw), (3, .int p3), (4, .int p4)] := hl
  clear hsz hnm
  have blk_130 : ∀  (n : Nat) (x6 : Int32) (x7 : Int32) (fu_segments : Int32) (fu_places : Int32) (au_segmentNames : Nat → Int32) (au_sideStarts : Nat → Int32) (au_placeBases : Nat → Int32) (au_placeSides : Nat → Int32)  (H : Heap) (locs : List Loc) (ls : Array Slot), w_Gr_addSegment_130 Q  p3 nw aw n x6 x7 fu_segments fu_places au_segmentNames au_sideStarts au_placeBases au_placeSides → va_P (dC, dI) cls (W_Gr_addSegment cI cC cB qu qu_segmentNames qu_sideStarts qu_placeBases qu_placeSides qw qu_followers qu_pathNames qu_stepCounts qu_steps qu_joinFrom qu_joinTo fu_segments fu_links fu_paths fu_places fu_joins au_segmentNames au_sideStarts au_placeBases au_placeSides nw aw) H → va_D A (W_Gr_addSegment cI cC cB qu qu_segmentNames qu_sideStarts qu_placeBases qu_placeSides qw qu_followers qu_pathNames qu_stepCounts qu_steps qu_joinFrom qu_joinTo fu_segments fu_links fu_paths fu_places fu_joins au_segmentNames au_sideStarts au_placeBases au_placeSides nw aw) → va_S A s.heap H locs → lv_has ls 8 [(0, .ref qu), (2, .ref qw), (3, .int p3), (6, .int x6), (7, .int x7)] → W p l e rm_Gr_addSegment s m args below meth c H locs 0 0 QF (F0 m 130 ls []) := by
    intro  n
    induction n with
    | zero => intro x6 x7 fu_segments fu_places au_segmentNames au_sideStarts au_placeBases au_placeSides  H locs ls h; exact (show False from h).elim
    | succ n ih =>
      intro x6 x7 fu_segments fu_places au_segmentNames au_sideStarts au_placeBases au_placeSides  H locs ls h hP hD hS hl
      have h : w_Gr_addSegment_130B Q  (w_Gr_addSegment_130 Q  p3 nw aw n) p3 nw aw x6 x7 fu_segments fu_places au_segmentNames au_sideStarts au_placeBases au_placeSides := h
      generalize w_Gr_addSegment_130 Q  p3 nw aw n = K_130 at h ih
      unfold w_Gr_addSegment_130B at h
      refine lv_iload hx hb d_Gr_addSegment_130 (lv_at hl 4 rfl) ?_
      refine lv_if_lt (tgt := 159) hx hb d_Gr_addSegment_132 (by decide) (fun c_1 => ?_) (fun c_1 => ?_)
      · have h := h.1 c_1
        refine lv_iconst (v := 1) hx hb d_Gr_addSegment_159 (by decide) ?_
        exact hret (fu_segments, fu_places, au_segmentNames, au_sideStarts, au_placeBases, au_placeSides) () 1 _ _ _ _ rfl h hP hD hS d_Gr_addSegment_160
      · have h := h.2 c_1
        refine lv_aload_n hx hb d_Gr_addSegment_135 rfl (lv_at hl 0 rfl) ?_
        refine lv_aload_n hx hb d_Gr_addSegment_136 rfl (lv_at hl 1 rfl) ?_
        refine lv_iload_n hx hb d_Gr_addSegment_137 rfl (lv_at hl 2 rfl) ?_
        refine lv_iload hx hb d_Gr_addSegment_138 (lv_at hl 4 rfl) ?_
        refine lv_iadd hx hb d_Gr_addSegment_140 ?_
        refine lv_topi (fun x_2 ex_2 => ?_)
        have h := h x_2 ex_2
        have hi_3 := h.1
        have h := h.2
        refine va_cald hx hb hK hP 5 1 rfl rfl hi_3 d_Gr_addSegment_141 ?_
        refine lv_topi (fun y_4 ey_4 => ?_)
        have h := h y_4 ey_4
        refine call_SN_i (As := [.int y_4]) (rest := [.ref qu]) C0 hP hD hS [] [0, 1, 2, 3, 4, 5] [0, 1, 2, 3, 4, 5] [(qu, .inr (5, [.int fu_segments, .int fu_links, .int fu_paths, .int fu_places, .int fu_joins, .ref qu_segmentNames, .ref qu_sideStarts, .ref qu_placeBases, .ref qu_placeSides, .ref qu_followers, .ref qu_pathNames, .ref qu_stepCounts, .ref qu_steps, .ref qu_joinFrom, .ref qu_joinTo])), (qu_segmentNames, .inl (cI, 8, .inl au_segmentNames)), (qu_sideStarts, .inl (cI, 16, .inl au_sideStarts)), (qu_placeBases, .inl (cC, 64, .inl au_placeBases)), (qu_placeSides, .inl (cI, 64, .inl au_placeSides)), (qw, .inl (cC, nw, .inl aw))] (fun (v : Unit) (b : Unit) => (W_Gr_addSegment cI cC cB qu qu_segmentNames qu_sideStarts qu_placeBases qu_placeSides qw qu_followers qu_pathNames qu_stepCounts qu_steps qu_joinFrom qu_joinTo fu_segments fu_links fu_paths fu_places fu_joins au_segmentNames au_sideStarts au_placeBases au_placeSides nw aw)) (k_X_partner l dC dI cI cC cB _ y_4 h) (host := R_X) (List.mem_of_getElem? (i := 8) rfl) w_87 w_33 w_86 1 rfl (by decide +kernel) rfl rfl ⟨Nat.le_of_ble_eq_true rfl, Nat.le_of_ble_eq_true rfl⟩ rfl rfl (by decide) (by decide) (by decide) (by decide) (fun _ _ => rfl) hl.1 rfl (Nat.le_of_ble_eq_true rfl) d_Gr_addSegment_142 ⟨Nat.le_of_ble_eq_true rfl, Nat.le_of_ble_eq_true rfl⟩ (fun r_6 v_5 _ H locs h hP hD hS => ?_)
        have hP : va_P (dC, dI) cls (W_Gr_addSegment cI cC cB qu qu_segmentNames qu_sideStarts qu_placeBases qu_placeSides qw qu_followers qu_pathNames qu_stepCounts qu_steps qu_joinFrom qu_joinTo fu_segments fu_links fu_paths fu_places fu_joins au_segmentNames au_sideStarts au_placeBases au_placeSides nw aw) H := hP
        have hD : va_D A (W_Gr_addSegment cI cC cB qu qu_segmentNames qu_sideStarts qu_placeBases qu_placeSides qw qu_followers qu_pathNames qu_stepCounts qu_steps qu_joinFrom qu_joinTo fu_segments fu_links fu_paths fu_places fu_joins au_segmentNames au_sideStarts au_placeBases au_placeSides nw aw) := hD
        refine lv_iload hx hb d_Gr_addSegment_145 (lv_at hl 3 rfl) ?_
        refine call_SN_i (As := [.int x6]) (rest := [.int r_6, .ref qu]) C0 hP hD hS [] [0, 1, 2, 3, 4, 5] [0, 1, 2, 3, 4, 5] [(qu, .inr (5, [.int fu_segments, .int fu_links, .int fu_paths, .int fu_places, .int fu_joins, .ref qu_segmentNames, .ref qu_sideStarts, .ref qu_placeBases, .ref qu_placeSides, .ref qu_followers, .ref qu_pathNames, .ref qu_stepCounts, .ref qu_steps, .ref qu_joinFrom, .ref qu_joinTo])), (qu_segmentNames, .inl (cI, 8, .inl au_segmentNames)), (qu_sideStarts, .inl (cI, 16, .inl au_sideStarts)), (qu_placeBases, .inl (cC, 64, .inl au_placeBases)), (qu_placeSides, .inl (cI, 64, .inl au_placeSides)), (qw, .inl (cC, nw, .inl aw))] (fun (v : Unit) (b : Unit) => (W_Gr_addSegment cI cC cB qu qu_segmentNames qu_sideStarts qu_placeBases qu_placeSides qw qu_followers qu_pathNames qu_stepCounts qu_steps qu_joinFrom qu_joinTo fu_segments fu_links fu_paths fu_places fu_joins au_segmentNames au_sideStarts au_placeBases au_placeSides nw aw)) (k_X_turned l dC dI cI cC cB _ x6 h) (host := R_X) (List.mem_of_getElem? (i := 7) rfl) w_32 w_33 w_30 1 rfl (by decide +kernel) rfl rfl ⟨Nat.le_of_ble_eq_true rfl, Nat.le_of_ble_eq_true rfl⟩ rfl rfl (by decide) (by decide) (by decide) (by decide) (fun _ _ => rfl) hl.1 rfl (Nat.le_of_ble_eq_true rfl) d_Gr_addSegment_147 ⟨Nat.le_of_ble_eq_true rfl, Nat.le_of_ble_eq_true rfl⟩ (fun r_8 v_7 _ H locs h hP hD hS => ?_)
        have hP : va_P (dC, dI) cls (W_Gr_addSegment cI cC cB qu qu_segmentNames qu_sideStarts qu_placeBases qu_placeSides qw qu_followers qu_pathNames qu_stepCounts qu_steps qu_joinFrom qu_joinTo fu_segments fu_links fu_paths fu_places fu_joins au_segmentNames au_sideStarts au_placeBases au_placeSides nw aw) H := hP
        have hD : va_D A (W_Gr_addSegment cI cC cB qu qu_segmentNames qu_sideStarts qu_placeBases qu_placeSides qw qu_followers qu_pathNames qu_stepCounts qu_steps qu_joinFrom qu_joinTo fu_segments fu_links fu_paths fu_places fu_joins au_segmentNames au_sideStarts au_placeBases au_placeSides nw aw) := hD
        refine call_V_v (As := [.int r_6, .int r_8]) (rest := []) C0 hP hD hS [0, 3, 4] [1, 2, 5] [3, 0, 1, 4, 5, 2] [(qu_segmentNames, .inl (cI, 8, .inl au_segmentNames)), (qu_sideStarts, .inl (cI, 16, .inl au_sideStarts)), (qw, .inl (cC, nw, .inl aw))] (fun (v : Int32 × (Nat → Int32) × (Nat → Int32)) (b : Unit) => (W_Gr_addSegment cI cC cB qu qu_segmentNames qu_sideStarts qu_placeBases qu_placeSides qw qu_followers qu_pathNames qu_stepCounts qu_steps qu_joinFrom qu_joinTo fu_segments fu_links fu_paths v.1 fu_joins au_segmentNames au_sideStarts v.2.1 v.2.2 nw aw)) (ci := 5) rfl rfl (k_Gr_addPlace l dC dI cI cC cB _ qu qu_placeBases qu_placeSides qu_segmentNames qu_sideStarts qu_followers qu_pathNames qu_stepCounts qu_steps qu_joinFrom qu_joinTo fu_segments fu_links fu_paths fu_places fu_joins au_placeBases au_placeSides r_6 r_8 h) (g_V w_83 w_84 w_85 w_40 w_82) 2 rfl (by decide +kernel) rfl rfl ⟨Nat.le_of_ble_eq_true rfl, Nat.le_of_ble_eq_true rfl⟩ rfl rfl (by decide) (by decide) (by decide) (by decide) (fun _ _ => rfl) hl.1 rfl (Nat.le_of_ble_eq_true rfl) d_Gr_addSegment_150 ⟨Nat.le_of_ble_eq_true rfl, Nat.le_of_ble_eq_true rfl⟩ (fun v_9 _ H locs h hP hD hS => ?_)
        have hP : va_P (dC, dI) cls (W_Gr_addSegment cI cC cB qu qu_segmentNames qu_sideStarts qu_placeBases qu_placeSides qw qu_followers qu_pathNames qu_stepCounts qu_steps qu_joinFrom qu_joinTo fu_segments fu_links fu_paths v_9.1 fu_joins au_segmentNames au_sideStarts v_9.2.1 v_9.2.2 nw aw) H := hP
        have hD : va_D A (W_Gr_addSegment cI cC cB qu qu_segmentNames qu_sideStarts qu_placeBases qu_placeSides qw qu_followers qu_pathNames qu_stepCounts qu_steps qu_joinFrom qu_joinTo fu_segments fu_links fu_paths v_9.1 fu_joins au_segmentNames au_sideStarts v_9.2.1 v_9.2.2 nw aw) := hD
        obtain ⟨x7_11, ex7_11⟩ : ∃ y : Int32, y = x7 + (-1) := ⟨_, rfl⟩
        have h := h x7_11 ex7_11
        refine lv_iinc (v := x7_11) (lv' := [(7, .int x7_11), (0, .ref qu), (2, .ref qw), (3, .int p3), (6, .int x6)]) hx hb d_Gr_addSegment_153 hl (k := 4) rfl (by rw [ex7_11]; rfl) (by decide) rfl (fun ls hl => ?_)
        refine lv_goto (tgt := 130) hx hb d_Gr_addSegment_156 (by decide) ?_
        exact ih _ _ _ _ _ _ _ _ _ _ _ h hP hD hS (lv_sub hl [1, 2, 3, 4, 0] rfl)
  have blk_85 : ∀  (n : Nat) (x6 : Int32) (x7 : Int32) (fu_segments : Int32) (fu_places : Int32) (au_segmentNames : Nat → Int32) (au_sideStarts : Nat → Int32) (au_placeBases : Nat → Int32) (au_placeSides : Nat → Int32)  (H : Heap) (locs : List Loc) (ls : Array Slot), w_Gr_addSegment_85 Q  p3 p4 nw aw n x6 x7 fu_segments fu_places au_segmentNames au_sideStarts au_placeBases au_placeSides → va_P (dC, dI) cls (W_Gr_addSegment cI cC cB qu qu_segmentNames qu_sideStarts qu_placeBases qu_placeSides qw qu_followers qu_pathNames qu_stepCounts qu_steps qu_joinFrom qu_joinTo fu_segments fu_links fu_paths fu_places fu_joins au_segmentNames au_sideStarts au_placeBases au_placeSides nw aw) H → va_D A (W_Gr_addSegment cI cC cB qu qu_segmentNames qu_sideStarts qu_placeBases qu_placeSides qw qu_followers qu_pathNames qu_stepCounts qu_steps qu_joinFrom qu_joinTo fu_segments fu_links fu_paths fu_places fu_joins au_segmentNames au_sideStarts au_placeBases au_placeSides nw aw) → va_S A s.heap H locs → lv_has ls 8 [(0, .ref qu), (2, .ref qw), (3, .int p3), (4, .int p4), (6, .int x6), (7, .int x7)] → W p l e rm_Gr_addSegment s m args below meth c H locs 0 0 QF (F0 m 85 ls []) := by
    intro  n
    induction n with
    | zero => intro x6 x7 fu_segments fu_places au_segmentNames au_sideStarts au_placeBases au_placeSides  H locs ls h; exact (show False from h).elim
    | succ n ih =>
      intro x6 x7 fu_segments fu_places au_segmentNames au_sideStarts au_placeBases au_placeSides  H locs ls h hP hD hS hl
      have h : w_Gr_addSegment_85B Q  (w_Gr_addSegment_85 Q  p3 p4 nw aw n) p3 p4 nw aw x6 x7 fu_segments fu_places au_segmentNames au_sideStarts au_placeBases au_placeSides := h
      generalize w_Gr_addSegment_85 Q  p3 p4 nw aw n = K_85 at h ih
      unfold w_Gr_addSegment_85B at h
      refine lv_iload hx hb d_Gr_addSegment_85 (lv_at hl 5 rfl) ?_
      refine lv_iload hx hb d_Gr_addSegment_87 (lv_at hl 3 rfl) ?_
      refine lv_icmp_ge (tgt := 110) hx hb d_Gr_addSegment_89 (by decide) (fun c_12 => ?_) (fun c_12 => ?_)
      · have h := h.1 c_12
        refine lv_aload_n hx hb d_Gr_addSegment_110 rfl (lv_at hl 0 rfl) ?_
        refine va_get (D := (dC, dI)) (ci := 5) (v := .ref qu_sideStarts) (C := R_Gr) (T := T_Gr) (N := 15) hx hb hts in_Gr hown hK hP 0 rfl rfl 6 (by decide) (hts _ w_88) (fun _ h9 => h9) rfl d_Gr_addSegment_111 ?_
        refine lv_iload hx hb d_Gr_addSegment_114 (lv_at hl 4 rfl) ?_
        refine call_SN_i (As := [.int x6]) (rest := [.ref qu_sideStarts]) C0 hP hD hS [] [0, 1, 2, 3, 4, 5] [0, 1, 2, 3, 4, 5] [(qu, .inr (5, [.int fu_segments, .int fu_links, .int fu_paths, .int fu_places, .int fu_joins, .ref qu_segmentNames, .ref qu_sideStarts, .ref qu_placeBases, .ref qu_placeSides, .ref qu_followers, .ref qu_pathNames, .ref qu_stepCounts, .ref qu_steps, .ref qu_joinFrom, .ref qu_joinTo])), (qu_segmentNames, .inl (cI, 8, .inl au_segmentNames)), (qu_sideStarts, .inl (cI, 16, .inl au_sideStarts)), (qu_placeBases, .inl (cC, 64, .inl au_placeBases)), (qu_placeSides, .inl (cI, 64, .inl au_placeSides)), (qw, .inl (cC, nw, .inl aw))] (fun (v : Unit) (b : Unit) => (W_Gr_addSegment cI cC cB qu qu_segmentNames qu_sideStarts qu_placeBases qu_placeSides qw qu_followers qu_pathNames qu_stepCounts qu_steps qu_joinFrom qu_joinTo fu_segments fu_links fu_paths fu_places fu_joins au_segmentNames au_sideStarts au_placeBases au_placeSides nw aw)) (k_X_turned l dC dI cI cC cB _ x6 h) (host := R_X) (List.mem_of_getElem? (i := 7) rfl) w_32 w_33 w_30 1 rfl (by decide +kernel) rfl rfl ⟨Nat.le_of_ble_eq_true rfl, Nat.le_of_ble_eq_true rfl⟩ rfl rfl (by decide) (by decide) (by decide) (by decide) (fun _ _ => rfl) hl.1 rfl (Nat.le_of_ble_eq_true rfl) d_Gr_addSegment_116 ⟨Nat.le_of_ble_eq_true rfl, Nat.le_of_ble_eq_true rfl⟩ (fun r_14 v_13 _ H locs h hP hD hS => ?_)
        have hP : va_P (dC, dI) cls (W_Gr_addSegment cI cC cB qu qu_segmentNames qu_sideStarts qu_placeBases qu_placeSides qw qu_followers qu_pathNames qu_stepCounts qu_steps qu_joinFrom qu_joinTo fu_segments fu_links fu_paths fu_places fu_joins au_segmentNames au_sideStarts au_placeBases au_placeSides nw aw) H := hP
        have hD : va_D A (W_Gr_addSegment cI cC cB qu qu_segmentNames qu_sideStarts qu_placeBases qu_placeSides qw qu_followers qu_pathNames qu_stepCounts qu_steps qu_joinFrom qu_joinTo fu_segments fu_links fu_paths fu_places fu_joins au_segmentNames au_sideStarts au_placeBases au_placeSides nw aw) := hD
        refine lv_aload_n hx hb d_Gr_addSegment_119 rfl (lv_at hl 0 rfl) ?_
        refine va_get (D := (dC, dI)) (ci := 5) (v := .int fu_places) (C := R_Gr) (T := T_Gr) (N := 15) hx hb hts in_Gr hown hK hP 0 rfl rfl 3 (by decide) (hts _ w_13) (fun _ h9 => h9) rfl d_Gr_addSegment_120 ?_
        have hi_15 := h.1
        have h := h.2
        refine va_iast hx hb hK hP hD hS 2 0 rfl rfl hi_15 d_Gr_addSegment_123 (fun H locs hP hD hS => ?_)
        obtain ⟨au_sideStarts_16, eau_sideStarts_16⟩ : ∃ z : Nat → Int32, z = upd au_sideStarts r_14.toNatClampNeg fu_places := ⟨_, rfl⟩
        have h := h au_sideStarts_16 eau_sideStarts_16
        have hP : va_P (dC, dI) cls (W_Gr_addSegment cI cC cB qu qu_segmentNames qu_sideStarts qu_placeBases qu_placeSides qw qu_followers qu_pathNames qu_stepCounts qu_steps qu_joinFrom qu_joinTo fu_segments fu_links fu_paths fu_places fu_joins au_segmentNames au_sideStarts_16 au_placeBases au_placeSides nw aw) H := by rw [eau_sideStarts_16]; exact hP
        have hD : va_D A (W_Gr_addSegment cI cC cB qu qu_segmentNames qu_sideStarts qu_placeBases qu_placeSides qw qu_followers qu_pathNames qu_stepCounts qu_steps qu_joinFrom qu_joinTo fu_segments fu_links fu_paths fu_places fu_joins au_segmentNames au_sideStarts_16 au_placeBases au_placeSides nw aw) := by rw [eau_sideStarts_16]; exact hD
        refine lv_iload hx hb d_Gr_addSegment_124 (lv_at hl 3 rfl) ?_
        refine lv_iconst (v := 1) hx hb d_Gr_addSegment_126 (by decide) ?_
        refine lv_isub hx hb d_Gr_addSegment_127 ?_
        refine lv_topi (fun x_17 ex_17 => ?_)
        have h := h x_17 ex_17
        refine lv_istore (lv' := [(7, .int x_17), (0, .ref qu), (2, .ref qw), (3, .int p3), (4, .int p4), (6, .int x6)]) hx hb d_Gr_addSegment_128 hl (by decide) rfl (fun ls hl => ?_)
        obtain ⟨fu_130, h⟩ := h
        exact blk_130  _ _ _ _ _ _ _ _ _ _ _ _ h hP hD hS (lv_sub hl [1, 2, 3, 5, 0] rfl)
      · have h := h.2 c_12
        refine lv_aload_n hx hb d_Gr_addSegment_92 rfl (lv_at hl 0 rfl) ?_
        refine lv_aload_n hx hb d_Gr_addSegment_93 rfl (lv_at hl 1 rfl) ?_
        refine lv_iload_n hx hb d_Gr_addSegment_94 rfl (lv_at hl 2 rfl) ?_
        refine lv_iload hx hb d_Gr_addSegment_95 (lv_at hl 5 rfl) ?_
        refine lv_iadd hx hb d_Gr_addSegment_97 ?_
        refine lv_topi (fun x_18 ex_18 => ?_)
        have h := h x_18 ex_18
        have hi_19 := h.1
        have h := h.2
        refine va_cald hx hb hK hP 5 1 rfl rfl hi_19 d_Gr_addSegment_98 ?_
        refine lv_topi (fun y_20 ey_20 => ?_)
        have h := h y_20 ey_20
        refine lv_iload hx hb d_Gr_addSegment_99 (lv_at hl 4 rfl) ?_
        refine call_V_v (As := [.int y_20, .int x6]) (rest := []) C0 hP hD hS [0, 3, 4] [1, 2, 5] [3, 0, 1, 4, 5, 2] [(qu_segmentNames, .inl (cI, 8, .inl au_segmentNames)), (qu_sideStarts, .inl (cI, 16, .inl au_sideStarts)), (qw, .inl (cC, nw, .inl aw))] (fun (v : Int32 × (Nat → Int32) × (Nat → Int32)) (b : Unit) => (W_Gr_addSegment cI cC cB qu qu_segmentNames qu_sideStarts qu_placeBases qu_placeSides qw qu_followers qu_pathNames qu_stepCounts qu_steps qu_joinFrom qu_joinTo fu_segments fu_links fu_paths v.1 fu_joins au_segmentNames au_sideStarts v.2.1 v.2.2 nw aw)) (ci := 5) rfl rfl (k_Gr_addPlace l dC dI cI cC cB _ qu qu_placeBases qu_placeSides qu_segmentNames qu_sideStarts qu_followers qu_pathNames qu_stepCounts qu_steps qu_joinFrom qu_joinTo fu_segments fu_links fu_paths fu_places fu_joins au_placeBases au_placeSides y_20 x6 h) (g_V w_83 w_84 w_85 w_40 w_82) 2 rfl (by decide +kernel) rfl rfl ⟨Nat.le_of_ble_eq_true rfl, Nat.le_of_ble_eq_true rfl⟩ rfl rfl (by decide) (by decide) (by decide) (by decide) (fun _ _ => rfl) hl.1 rfl (Nat.le_of_ble_eq_true rfl) d_Gr_addSegment_101 ⟨Nat.le_of_ble_eq_true rfl, Nat.le_of_ble_eq_true rfl⟩ (fun v_21 _ H locs h hP hD hS => ?_)
        have hP : va_P (dC, dI) cls (W_Gr_addSegment cI cC cB qu qu_segmentNames qu_sideStarts qu_placeBases qu_placeSides qw qu_followers qu_pathNames qu_stepCounts qu_steps qu_joinFrom qu_joinTo fu_segments fu_links fu_paths v_21.1 fu_joins au_segmentNames au_sideStarts v_21.2.1 v_21.2.2 nw aw) H := hP
        have hD : va_D A (W_Gr_addSegment cI cC cB qu qu_segmentNames qu_sideStarts qu_placeBases qu_placeSides qw qu_followers qu_pathNames qu_stepCounts qu_steps qu_joinFrom qu_joinTo fu_segments fu_links fu_paths v_21.1 fu_joins au_segmentNames au_sideStarts v_21.2.1 v_21.2.2 nw aw) := hD
        obtain ⟨x7_23, ex7_23⟩ : ∃ y : Int32, y = x7 + 1 := ⟨_, rfl⟩
        have h := h x7_23 ex7_23
        refine lv_iinc (v := x7_23) (lv' := [(7, .int x7_23), (0, .ref qu), (2, .ref qw), (3, .int p3), (4, .int p4), (6, .int x6)]) hx hb d_Gr_addSegment_104 hl (k := 5) rfl (by rw [ex7_23]; rfl) (by decide) rfl (fun ls hl => ?_)
        refine lv_goto (tgt := 85) hx hb d_Gr_addSegment_107 (by decide) ?_
        exact ih _ _ _ _ _ _ _ _ _ _ _ h hP hD hS (lv_sub hl [1, 2, 3, 4, 5, 0] rfl)
  have blk_26 : ∀  (s0 : Int32) (fu_segments : Int32) (fu_places : Int32) (au_segmentNames : Nat → Int32) (au_sideStarts : Nat → Int32) (au_placeBases : Nat → Int32) (au_placeSides : Nat → Int32)  (H : Heap) (locs : List Loc) (ls : Array Slot), w_Gr_addSegment_26 Q  p1 p3 p4 nw aw s0 fu_segments fu_places au_segmentNames au_sideStarts au_placeBases au_placeSides → va_P (dC, dI) cls (W_Gr_addSegment cI cC cB qu qu_segmentNames qu_sideStarts qu_placeBases qu_placeSides qw qu_followers qu_pathNames qu_stepCounts qu_steps qu_joinFrom qu_joinTo fu_segments fu_links fu_paths fu_places fu_joins au_segmentNames au_sideStarts au_placeBases au_placeSides nw aw) H → va_D A (W_Gr_addSegment cI cC cB qu qu_segmentNames qu_sideStarts qu_placeBases qu_placeSides qw qu_followers qu_pathNames qu_stepCounts qu_steps qu_joinFrom qu_joinTo fu_segments fu_links fu_paths fu_places fu_joins au_segmentNames au_sideStarts au_placeBases au_placeSides nw aw) → va_S A s.heap H locs → lv_has ls 8 [(0, .ref qu), (1, .int p1), (2, .ref qw), (3, .int p3), (4, .int p4)] → W p l e rm_Gr_addSegment s m args below meth c H locs 0 0 QF (F0 m 26 ls [.int s0]) := by
    intro  s0 fu_segments fu_places au_segmentNames au_sideStarts au_placeBases au_placeSides  H locs ls h hP hD hS hl
    unfold w_Gr_addSegment_26 at h
    refine lv_istore (lv' := [(5, .int s0), (0, .ref qu), (1, .int p1), (2, .ref qw), (3, .int p3), (4, .int p4)]) hx hb d_Gr_addSegment_26 hl (by decide) rfl (fun ls hl => ?_)
    refine lv_iload hx hb d_Gr_addSegment_28 (lv_at hl 0 rfl) ?_
    refine lv_if_eq (tgt := 41) hx hb d_Gr_addSegment_30 (by decide) (fun c_24 => ?_) (fun c_24 => ?_)
    · have h := h.1 c_24
      refine lv_iconst (v := 0) hx hb d_Gr_addSegment_41 (by decide) ?_
      exact hret (fu_segments, fu_places, au_segmentNames, au_sideStarts, au_placeBases, au_placeSides) () 0 _ _ _ _ rfl h hP hD hS d_Gr_addSegment_42
    · have h := h.2 c_24
      refine lv_aload_n hx hb d_Gr_addSegment_33 rfl (lv_at hl 1 rfl) ?_
      refine lv_iload_n hx hb d_Gr_addSegment_34 rfl (lv_at hl 2 rfl) ?_
      refine call_V_i (As := [.int p1]) (rest := []) C0 hP hD hS [0, 1] [2, 3, 4, 5] [4, 5, 0, 1, 2, 3] [(qu_sideStarts, .inl (cI, 16, .inl au_sideStarts)), (qu_placeBases, .inl (cC, 64, .inl au_placeBases)), (qu_placeSides, .inl (cI, 64, .inl au_placeSides)), (qw, .inl (cC, nw, .inl aw))] (fun (v : Unit) (b : Unit) => (W_Gr_addSegment cI cC cB qu qu_segmentNames qu_sideStarts qu_placeBases qu_placeSides qw qu_followers qu_pathNames qu_stepCounts qu_steps qu_joinFrom qu_joinTo fu_segments fu_links fu_paths fu_places fu_joins au_segmentNames au_sideStarts au_placeBases au_placeSides nw aw)) (ci := 5) rfl rfl (k_Gr_segmentNamed l dC dI cI cC cB _ qu qu_segmentNames qu_sideStarts qu_placeBases qu_placeSides qu_followers qu_pathNames qu_stepCounts qu_steps qu_joinFrom qu_joinTo fu_segments fu_links fu_paths fu_places fu_joins au_segmentNames p1 h) (g_V w_89 w_43 w_44 w_40 w_41) 1 rfl (by decide +kernel) rfl rfl ⟨Nat.le_of_ble_eq_true rfl, Nat.le_of_ble_eq_true rfl⟩ rfl rfl (by decide) (by decide) (by decide) (by decide) (fun _ _ => rfl) hl.1 rfl (Nat.le_of_ble_eq_true rfl) d_Gr_addSegment_35 ⟨Nat.le_of_ble_eq_true rfl, Nat.le_of_ble_eq_true rfl⟩ (fun r_26 v_25 _ H locs h hP hD hS => ?_)
      have hP : va_P (dC, dI) cls (W_Gr_addSegment cI cC cB qu qu_segmentNames qu_sideStarts qu_placeBases qu_placeSides qw qu_followers qu_pathNames qu_stepCounts qu_steps qu_joinFrom qu_joinTo fu_segments fu_links fu_paths fu_places fu_joins au_segmentNames au_sideStarts au_placeBases au_placeSides nw aw) H := hP
      have hD : va_D A (W_Gr_addSegment cI cC cB qu qu_segmentNames qu_sideStarts qu_placeBases qu_placeSides qw qu_followers qu_pathNames qu_stepCounts qu_steps qu_joinFrom qu_joinTo fu_segments fu_links fu_paths fu_places fu_joins au_segmentNames au_sideStarts au_placeBases au_placeSides nw aw) := hD
      refine lv_if_lt (tgt := 43) hx hb d_Gr_addSegment_38 (by decide) (fun c_27 => ?_) (fun c_27 => ?_)
      · have h := h.1 c_27
        refine lv_iconst (v := 2) hx hb d_Gr_addSegment_43 (by decide) ?_
        refine lv_aload_n hx hb d_Gr_addSegment_44 rfl (lv_at hl 1 rfl) ?_
        refine va_get (D := (dC, dI)) (ci := 5) (v := .int fu_segments) (C := R_Gr) (T := T_Gr) (N := 15) hx hb hts in_Gr hown hK hP 0 rfl rfl 0 (by decide) (hts _ w_10) (fun _ h9 => h9) rfl d_Gr_addSegment_45 ?_
        refine lv_imul hx hb d_Gr_addSegment_48 ?_
        refine lv_topi (fun x_28 ex_28 => ?_)
        have h := h x_28 ex_28
        refine lv_istore (lv' := [(6, .int x_28), (5, .int s0), (0, .ref qu), (1, .int p1), (2, .ref qw), (3, .int p3), (4, .int p4)]) hx hb d_Gr_addSegment_49 hl (by decide) rfl (fun ls hl => ?_)
        refine lv_aload_n hx hb d_Gr_addSegment_51 rfl (lv_at hl 2 rfl) ?_
        refine va_get (D := (dC, dI)) (ci := 5) (v := .ref qu_segmentNames) (C := R_Gr) (T := T_Gr) (N := 15) hx hb hts in_Gr hown hK hP 0 rfl rfl 5 (by decide) (hts _ w_36) (fun _ h9 => h9) rfl d_Gr_addSegment_52 ?_
        refine lv_aload_n hx hb d_Gr_addSegment_55 rfl (lv_at hl 2 rfl) ?_
        refine va_get (D := (dC, dI)) (ci := 5) (v := .int fu_segments) (C := R_Gr) (T := T_Gr) (N := 15) hx hb hts in_Gr hown hK hP 0 rfl rfl 0 (by decide) (hts _ w_10) (fun _ h9 => h9) rfl d_Gr_addSegment_56 ?_
        refine lv_iload_n hx hb d_Gr_addSegment_59 rfl (lv_at hl 3 rfl) ?_
        have hi_29 := h.1
        have h := h.2
        refine va_iast hx hb hK hP hD hS 1 0 rfl rfl hi_29 d_Gr_addSegment_60 (fun H locs hP hD hS => ?_)
        obtain ⟨au_segmentNames_30, eau_segmentNames_30⟩ : ∃ z : Nat → Int32, z = upd au_segmentNames fu_segments.toNatClampNeg p1 := ⟨_, rfl⟩
        have h := h au_segmentNames_30 eau_segmentNames_30
        have hP : va_P (dC, dI) cls (W_Gr_addSegment cI cC cB qu qu_segmentNames qu_sideStarts qu_placeBases qu_placeSides qw qu_followers qu_pathNames qu_stepCounts qu_steps qu_joinFrom qu_joinTo fu_segments fu_links fu_paths fu_places fu_joins au_segmentNames_30 au_sideStarts au_placeBases au_placeSides nw aw) H := by rw [eau_segmentNames_30]; exact hP
        have hD : va_D A (W_Gr_addSegment cI cC cB qu qu_segmentNames qu_sideStarts qu_placeBases qu_placeSides qw qu_followers qu_pathNames qu_stepCounts qu_steps qu_joinFrom qu_joinTo fu_segments fu_links fu_paths fu_places fu_joins au_segmentNames_30 au_sideStarts au_placeBases au_placeSides nw aw) := by rw [eau_segmentNames_30]; exact hD
        refine lv_aload_n hx hb d_Gr_addSegment_61 rfl (lv_at hl 2 rfl) ?_
        refine lv_dup hx hb d_Gr_addSegment_62 rfl ?_
        refine va_get (D := (dC, dI)) (ci := 5) (v := .int fu_segments) (C := R_Gr) (T := T_Gr) (N := 15) hx hb hts in_Gr hown hK hP 0 rfl rfl 0 (by decide) (hts _ w_10) (fun _ h9 => h9) rfl d_Gr_addSegment_63 ?_
        refine lv_iconst (v := 1) hx hb d_Gr_addSegment_66 (by decide) ?_
        refine lv_iadd hx hb d_Gr_addSegment_67 ?_
        refine lv_topi (fun x_31 ex_31 => ?_)
        have h := h x_31 ex_31
        refine va_put (D := (dC, dI)) (ci := 5) (v := .int x_31) (ty := .int) (C := R_Gr) (T := T_Gr) (N := 15) hx hb hts in_Gr t_Gr t_Gr_ok n_Gr hown hK hP hD hS 0 rfl rfl 0 (by decide) (hts _ w_10) (fun _ h9 => h9) rfl (by decide +kernel) rfl rfl (Nat.le_of_ble_eq_true rfl) d_Gr_addSegment_68 (fun H locs hP hD hS => ?_)
        have hP : va_P (dC, dI) cls (W_Gr_addSegment cI cC cB qu qu_segmentNames qu_sideStarts qu_placeBases qu_placeSides qw qu_followers qu_pathNames qu_stepCounts qu_steps qu_joinFrom qu_joinTo x_31 fu_links fu_paths fu_places fu_joins au_segmentNames_30 au_sideStarts au_placeBases au_placeSides nw aw) H := hP
        have hD : va_D A (W_Gr_addSegment cI cC cB qu qu_segmentNames qu_sideStarts qu_placeBases qu_placeSides qw qu_followers qu_pathNames qu_stepCounts qu_steps qu_joinFrom qu_joinTo x_31 fu_links fu_paths fu_places fu_joins au_segmentNames_30 au_sideStarts au_placeBases au_placeSides nw aw) := hD
        refine lv_aload_n hx hb d_Gr_addSegment_71 rfl (lv_at hl 2 rfl) ?_
        refine va_get (D := (dC, dI)) (ci := 5) (v := .ref qu_sideStarts) (C := R_Gr) (T := T_Gr) (N := 15) hx hb hts in_Gr hown hK hP 0 rfl rfl 6 (by decide) (hts _ w_88) (fun _ h9 => h9) rfl d_Gr_addSegment_72 ?_
        refine lv_iload hx hb d_Gr_addSegment_75 (lv_at hl 0 rfl) ?_
        refine lv_aload_n hx hb d_Gr_addSegment_77 rfl (lv_at hl 2 rfl) ?_
        refine va_get (D := (dC, dI)) (ci := 5) (v := .int fu_places) (C := R_Gr) (T := T_Gr) (N := 15) hx hb hts in_Gr hown hK hP 0 rfl rfl 3 (by decide) (hts _ w_13) (fun _ h9 => h9) rfl d_Gr_addSegment_78 ?_
        have hi_32 := h.1
        have h := h.2
        refine va_iast hx hb hK hP hD hS 2 0 rfl rfl hi_32 d_Gr_addSegment_81 (fun H locs hP hD hS => ?_)
        obtain ⟨au_sideStarts_33, eau_sideStarts_33⟩ : ∃ z : Nat → Int32, z = upd au_sideStarts x_28.toNatClampNeg fu_places := ⟨_, rfl⟩
        have h := h au_sideStarts_33 eau_sideStarts_33
        have hP : va_P (dC, dI) cls (W_Gr_addSegment cI cC cB qu qu_segmentNames qu_sideStarts qu_placeBases qu_placeSides qw qu_followers qu_pathNames qu_stepCounts qu_steps qu_joinFrom qu_joinTo x_31 fu_links fu_paths fu_places fu_joins au_segmentNames_30 au_sideStarts_33 au_placeBases au_placeSides nw aw) H := by rw [eau_sideStarts_33]; exact hP
        have hD : va_D A (W_Gr_addSegment cI cC cB qu qu_segmentNames qu_sideStarts qu_placeBases qu_placeSides qw qu_followers qu_pathNames qu_stepCounts qu_steps qu_joinFrom qu_joinTo x_31 fu_links fu_paths fu_places fu_joins au_segmentNames_30 au_sideStarts_33 au_placeBases au_placeSides nw aw) := by rw [eau_sideStarts_33]; exact hD
        refine lv_iconst (v := 0) hx hb d_Gr_addSegment_82 (by decide) ?_
        refine lv_istore (lv' := [(7, .int 0), (6, .int x_28), (5, .int s0), (0, .ref qu), (1, .int p1), (2, .ref qw), (3, .int p3), (4, .int p4)]) hx hb d_Gr_addSegment_83 hl (by decide) rfl (fun ls hl => ?_)
        obtain ⟨fu_85, h⟩ := h
        exact blk_85  _ _ _ _ _ _ _ _ _ _ _ _ h hP hD hS (lv_sub hl [3, 5, 6, 7, 1, 0] rfl)
      · have h := h.2 c_27
        refine lv_iconst (v := 0) hx hb d_Gr_addSegment_41 (by decide) ?_
        exact hret (fu_segments, fu_places, au_segmentNames, au_sideStarts, au_placeBases, au_placeSides) () 0 _ _ _ _ rfl h hP hD hS d_Gr_addSegment_42
  have blk_25 : ∀  (fu_segments : Int32) (fu_places : Int32) (au_segmentNames : Nat → Int32) (au_sideStarts : Nat → Int32) (au_placeBases : Nat → Int32) (au_placeSides : Nat → Int32)  (H : Heap) (locs : List Loc) (ls : Array Slot), w_Gr_addSegment_25 Q  p1 p3 p4 nw aw fu_segments fu_places au_segmentNames au_sideStarts au_placeBases au_placeSides → va_P (dC, dI) cls (W_Gr_addSegment cI cC cB qu qu_segmentNames qu_sideStarts qu_placeBases qu_placeSides qw qu_followers qu_pathNames qu_stepCounts qu_steps qu_joinFrom qu_joinTo fu_segments fu_links fu_paths fu_places fu_joins au_segmentNames au_sideStarts au_placeBases au_placeSides nw aw) H → va_D A (W_Gr_addSegment cI cC cB qu qu_segmentNames qu_sideStarts qu_placeBases qu_placeSides qw qu_followers qu_pathNames qu_stepCounts qu_steps qu_joinFrom qu_joinTo fu_segments fu_links fu_paths fu_places fu_joins au_segmentNames au_sideStarts au_placeBases au_placeSides nw aw) → va_S A s.heap H locs → lv_has ls 8 [(0, .ref qu), (1, .int p1), (2, .ref qw), (3, .int p3), (4, .int p4)] → W p l e rm_Gr_addSegment s m args below meth c H locs 0 0 QF (F0 m 25 ls []) := by
    intro  fu_segments fu_places au_segmentNames au_sideStarts au_placeBases au_placeSides  H locs ls h hP hD hS hl
    unfold w_Gr_addSegment_25 at h
    refine lv_iconst (v := 0) hx hb d_Gr_addSegment_25 (by decide) ?_
    exact blk_26  _ _ _ _ _ _ _ _ _ _ h hP hD hS (lv_sub hl [0, 1, 2, 3, 4] rfl)
  unfold wp_Gr_addSegment at h
  refine lv_aload_n hx hb d_Gr_addSegment_0 rfl (lv_at hl 0 rfl) ?_
  refine va_get (D := (dC, dI)) (ci := 5) (v := .int fu_segments) (C := R_Gr) (T := T_Gr) (N := 15) hx hb hts in_Gr hown hK hP 0 rfl rfl 0 (by decide) (hts _ w_10) (fun _ h9 => h9) rfl d_Gr_addSegment_1 ?_
  refine lv_bipush (v := 8) hx hb d_Gr_addSegment_4 (by decide) ?_
  refine lv_icmp_ge (tgt := 25) hx hb d_Gr_addSegment_6 (by decide) (fun c_34 => ?_) (fun c_34 => ?_)
  · have h := h.1 c_34
    exact blk_25  _ _ _ _ _ _ _ _ _ h hP hD hS (lv_sub hl [0, 1, 2, 3, 4] rfl)
  · have h := h.2 c_34
    refine lv_iload hx hb d_Gr_addSegment_9 (lv_at hl 4 rfl) ?_
    refine lv_iconst (v := 1) hx hb d_Gr_addSegment_11 (by decide) ?_
    refine lv_icmp_lt (tgt := 25) hx hb d_Gr_addSegment_12 (by decide) (fun c_35 => ?_) (fun c_35 => ?_)
    · have h := h.1 c_35
      exact blk_25  _ _ _ _ _ _ _ _ _ h hP hD hS (lv_sub hl [0, 1, 2, 3, 4] rfl)
    · have h := h.2 c_35
      refine lv_iload hx hb d_Gr_addSegment_15 (lv_at hl 4 rfl) ?_
      refine lv_iconst (v := 4) hx hb d_Gr_addSegment_17 (by decide) ?_
      refine lv_icmp_gt (tgt := 25) hx hb d_Gr_addSegment_18 (by decide) (fun c_36 => ?_) (fun c_36 => ?_)
      · have h := h.1 c_36
        exact blk_25  _ _ _ _ _ _ _ _ _ h hP hD hS (lv_sub hl [0, 1, 2, 3, 4] rfl)
      · have h := h.2 c_36
        refine lv_iconst (v := 1) hx hb d_Gr_addSegment_21 (by decide) ?_
        refine lv_goto (tgt := 26) hx hb d_Gr_addSegment_22 (by decide) ?_
        exact blk_26  _ _ _ _ _ _ _ _ _ _ h hP hD hS (lv_sub hl [0, 1, 2, 3, 4] rfl)
abbrev W_X_takeSegment (cI cC cB : ClassId) (qu : Nat) (qu_characters : Nat) (qv : Nat) (qv_segmentNames : Nat) (qv_sideStarts : Nat) (qv_placeBases : Nat) (qv_placeSides : Nat) (qv_followers : Nat) (qv_pathNames : Nat) (qv_stepCounts : Nat) (qv_steps : Nat) (qv_joinFrom : Nat) (qv_joinTo : Nat) (fu_length : Int32) (fu_at : Int32) (au_characters : Nat → Int32) (fv_segments : Int32) (fv_links : Int32) (fv_paths : Int32) (fv_places : Int32) (fv_joins : Int32) (av_segmentNames : Nat → Int32) (av_sideStarts : Nat → Int32) (av_placeBases : Nat → Int32) (av_placeSides : Nat → Int32) : va_W := [(qu, .inr (1, [.ref qu_characters, .int fu_length, .int fu_at])), (qu_characters, .inl (cC, 400, .inl au_characters)), (qv, .inr (5, [.int fv_segments, .int fv_links, .int fv_paths, .int fv_places, .int fv_joins, .ref qv_segmentNames, .ref qv_sideStarts, .ref qv_placeBases, .ref qv_placeSides, .ref qv_followers, .ref qv_pathNames, .ref qv_stepCounts, .ref qv_steps, .ref qv_joinFrom, .ref qv_joinTo])), (qv_segmentNames, .inl (cI, 8, .inl av_segmentNames)), (qv_sideStarts, .inl (cI, 16, .inl av_sideStarts)), (qv_placeBases, .inl (cC, 64, .inl av_placeBases)), (qv_placeSides, .inl (cI, 64, .inl av_placeSides))]
def wp_X_takeSegment (Q : Int32 → (Int32 × Int32 × Int32 × (Nat → Int32) × (Nat → Int32) × (Nat → Int32) × (Nat → Int32)) → Prop)  (fu_length : Int32) (fu_at : Int32) (au_characters : Nat → Int32) (fv_segments : Int32) (fv_places : Int32) (av_segmentNames : Nat → Int32) (av_sideStarts : Nat → Int32) (av_placeBases : Nat → Int32) (av_placeSides : Nat → Int32) : Prop := wp_Te_takes (fun r_2 v_1 => ((r_2 = 0 → (Q 0 (v_1, fv_segments, fv_places, av_segmentNames, av_sideStarts, av_placeBases, av_placeSides))) ∧ (¬ r_2 = 0 → (wp_Te_takeName (fun r_5 v_4 => ((r_5 = 0 → (Q 0 (v_4, fv_segments, fv_places, av_segmentNames, av_sideStarts, av_placeBases, av_placeSides))) ∧ (¬ r_5 = 0 → (wp_Te_takes (fun r_8 v_7 => ((r_8 = 0 → (Q 0 (v_7, fv_segments, fv_places, av_segmentNames, av_sideStarts, av_placeBases, av_placeSides))) ∧ (¬ r_8 = 0 → (wp_Te_takeBases (fun r_11 v_10 => wp_Te_takes (fun r_13 v_12 => ((r_13 = 0 → (Q 0 (v_12, fv_segments, fv_places, av_segmentNames, av_sideStarts, av_placeBases, av_placeSides))) ∧ (¬ r_13 = 0 → (wp_Gr_addSegment (fun r_16 v_15 => ((r_16 = 0 → (Q 0 (v_12, v_15.1, v_15.2.1, v_15.2.2.1, v_15.2.2.2.1, v_15.2.2.2.2.1, v_15.2.2.2.2.2))) ∧ (¬ r_16 = 0 → (Q 1 (v_12, v_15.1, v_15.2.1, v_15.2.2.1, v_15.2.2.2.1, v_15.2.2.2.2.1, v_15.2.2.2.2.2))))) r_5 v_7 r_11 fv_segments fv_places av_segmentNames av_sideStarts av_placeBases av_placeSides 400 au_characters)))) 10 fu_length v_10 au_characters) fu_length v_7 au_characters)))) 9 fu_length v_4 au_characters)))) fu_length v_1 au_characters)))) 9 fu_length fu_at au_characters
abbrev rm_X_takeSegment : Room := { frames := 3, cells := 0, slots := 0, locals := 71 }
set_option maxHeartbeats 4000000 in
set_option maxRecDepth 100000 in
theorem k_X_takeSegment (l : Launch) (dC : Nat → ClassId) (dI : Nat → Nat → Nat) (cI cC cB : ClassId) (sz : Nat) (qu : Nat) (qu_characters : Nat) (qv : Nat) (qv_segmentNames : Nat) (qv_sideStarts : Nat) (qv_placeBases : Nat) (qv_placeSides : Nat) (qv_followers : Nat) (qv_pathNames : Nat) (qv_stepCounts : Nat) (qv_steps : Nat) (qv_joinFrom : Nat) (qv_joinTo : Nat) (fu_length : Int32) (fu_at : Int32) (au_characters : Nat → Int32) (fv_segments : Int32) (fv_links : Int32) (fv_paths : Int32) (fv_places : Int32) (fv_joins : Int32) (av_segmentNames : Nat → Int32) (av_sideStarts : Nat → Int32) (av_placeBases : Nat → Int32) (av_placeSides : Nat → Int32)  {Q : Int32 → (Int32 × Int32 × Int32 × (Nat → Int32) × (Nat → Int32) × (Nat → Int32) × (Nat → Int32)) → Prop} (h : wp_X_takeSegment Q  fu_length fu_at au_characters fv_segments fv_places av_segmentNames av_sideStarts av_placeBases av_placeSides) :
    CTi l y_X_takeSegment (wM y_X_takeSegment c_X_takeSegment 5 (some .boolean)) rm_X_takeSegment 0 0 (dC, dI) (tysL cI cC cB) [.ref qu, .ref qv] (W_X_takeSegment cI cC cB qu qu_characters qv qv_segmentNames qv_sideStarts qv_placeBases qv_placeSides qv_followers qv_pathNames qv_stepCounts qv_steps qv_joinFrom qv_joinTo fu_length fu_at au_characters fv_segments fv_links fv_paths fv_places fv_joins av_segmentNames av_sideStarts av_placeBases av_placeSides) sz Q (fun (v : Int32 × Int32 × Int32 × (Nat → Int32) × (Nat → Int32) × (Nat → Int32) × (Nat → Int32)) (b : Unit) => (W_X_takeSegment cI cC cB qu qu_characters qv qv_segmentNames qv_sideStarts qv_placeBases qv_placeSides qv_followers qv_pathNames qv_stepCounts qv_steps qv_joinFrom qv_joinTo fu_length v.1 au_characters v.2.1 fv_links fv_paths v.2.2.1 fv_joins v.2.2.2.1 v.2.2.2.2.1 v.2.2.2.2.2.1 v.2.2.2.2.2.2)) := by
  refine CTi.std (by decide) (Nat.le_of_ble_eq_true rfl) ?_
  intro p e s m args below meth c A ls QF C0 hP hD hl hS hsz hnm hret
  obtain ⟨hx, hb, hr, hml, hown, hts, hlocks, hN, hA, hK⟩ := id C0
  have hown : s.vm.findClass R_X = some m.cls := hown
  have hl : lv_has ls 5 [(0, .ref qu), (1, .ref qv)] := hl
  clear hsz hnm
  unfold wp_X_takeSegment at h
  refine lv_aload_n hx hb d_X_takeSegment_0 rfl (lv_at hl 0 rfl) ?_
  refine lv_bipush (v := 9) hx hb d_X_takeSegment_1 (by decide) ?_
  refine call_V_i (As := [.int 9]) (rest := []) C0 hP hD hS [0, 1] [2, 3, 4, 5, 6] [5, 6, 0, 1, 2, 3, 4] [(qv, .inr (5, [.int fv_segments, .int fv_links, .int fv_paths, .int fv_places, .int fv_joins, .ref qv_segmentNames, .ref qv_sideStarts, .ref qv_placeBases, .ref qv_placeSides, .ref qv_followers, .ref qv_pathNames, .ref qv_stepCounts, .ref qv_steps, .ref qv_joinFrom, .ref qv_joinTo])), (qv_segmentNames, .inl (cI, 8, .inl av_segmentNames)), (qv_sideStarts, .inl (cI, 16, .inl av_sideStarts)), (qv_placeBases, .inl (cC, 64, .inl av_placeBases)), (qv_placeSides, .inl (cI, 64, .inl av_placeSides))] (fun (v : Int32) (b : Unit) => (W_X_takeSegment cI cC cB qu qu_characters qv qv_segmentNames qv_sideStarts qv_placeBases qv_placeSides qv_followers qv_pathNames qv_stepCounts qv_steps qv_joinFrom qv_joinTo fu_length v au_characters fv_segments fv_links fv_paths fv_places fv_joins av_segmentNames av_sideStarts av_placeBases av_placeSides)) (ci := 1) rfl rfl (k_Te_takes l dC dI cI cC cB _ qu qu_characters fu_length fu_at au_characters 9 h) (g_V w_27 w_28 w_29 w_7 w_26) 1 rfl (by decide +kernel) rfl rfl ⟨Nat.le_of_ble_eq_true rfl, Nat.le_of_ble_eq_true rfl⟩ rfl rfl (by decide) (by decide) (by decide) (by decide) (fun _ _ => rfl) hl.1 rfl (Nat.le_of_ble_eq_true rfl) d_X_takeSegment_3 ⟨Nat.le_of_ble_eq_true rfl, Nat.le_of_ble_eq_true rfl⟩ (fun r_2 v_1 _ H locs h hP hD hS => ?_)
  have hP : va_P (dC, dI) cls (W_X_takeSegment cI cC cB qu qu_characters qv qv_segmentNames qv_sideStarts qv_placeBases qv_placeSides qv_followers qv_pathNames qv_stepCounts qv_steps qv_joinFrom qv_joinTo fu_length v_1 au_characters fv_segments fv_links fv_paths fv_places fv_joins av_segmentNames av_sideStarts av_placeBases av_placeSides) H := hP
  have hD : va_D A (W_X_takeSegment cI cC cB qu qu_characters qv qv_segmentNames qv_sideStarts qv_placeBases qv_placeSides qv_followers qv_pathNames qv_stepCounts qv_steps qv_joinFrom qv_joinTo fu_length v_1 au_characters fv_segments fv_links fv_paths fv_places fv_joins av_segmentNames av_sideStarts av_placeBases av_placeSides) := hD
  refine lv_if_ne (tgt := 11) hx hb d_X_takeSegment_6 (by decide) (fun c_3 => ?_) (fun c_3 => ?_)
  · have h := h.2 c_3
    refine lv_aload_n hx hb d_X_takeSegment_11 rfl (lv_at hl 0 rfl) ?_
    refine call_V_i (As := []) (rest := []) C0 hP hD hS [0, 1] [2, 3, 4, 5, 6] [5, 6, 0, 1, 2, 3, 4] [(qv, .inr (5, [.int fv_segments, .int fv_links, .int fv_paths, .int fv_places, .int fv_joins, .ref qv_segmentNames, .ref qv_sideStarts, .ref qv_placeBases, .ref qv_placeSides, .ref qv_followers, .ref qv_pathNames, .ref qv_stepCounts, .ref qv_steps, .ref qv_joinFrom, .ref qv_joinTo])), (qv_segmentNames, .inl (cI, 8, .inl av_segmentNames)), (qv_sideStarts, .inl (cI, 16, .inl av_sideStarts)), (qv_placeBases, .inl (cC, 64, .inl av_placeBases)), (qv_placeSides, .inl (cI, 64, .inl av_placeSides))] (fun (v : Int32) (b : Unit) => (W_X_takeSegment cI cC cB qu qu_characters qv qv_segmentNames qv_sideStarts qv_placeBases qv_placeSides qv_followers qv_pathNames qv_stepCounts qv_steps qv_joinFrom qv_joinTo fu_length v au_characters fv_segments fv_links fv_paths fv_places fv_joins av_segmentNames av_sideStarts av_placeBases av_placeSides)) (ci := 1) rfl rfl (k_Te_takeName l dC dI cI cC cB _ qu qu_characters fu_length v_1 au_characters h) (g_V w_46 w_47 w_48 w_7 w_45) 0 rfl (by decide +kernel) rfl rfl ⟨Nat.le_of_ble_eq_true rfl, Nat.le_of_ble_eq_true rfl⟩ rfl rfl (by decide) (by decide) (by decide) (by decide) (fun _ _ => rfl) hl.1 rfl (Nat.le_of_ble_eq_true rfl) d_X_takeSegment_12 ⟨Nat.le_of_ble_eq_true rfl, Nat.le_of_ble_eq_true rfl⟩ (fun r_5 v_4 _ H locs h hP hD hS => ?_)
    have hP : va_P (dC, dI) cls (W_X_takeSegment cI cC cB qu qu_characters qv qv_segmentNames qv_sideStarts qv_placeBases qv_placeSides qv_followers qv_pathNames qv_stepCounts qv_steps qv_joinFrom qv_joinTo fu_length v_4 au_characters fv_segments fv_links fv_paths fv_places fv_joins av_segmentNames av_sideStarts av_placeBases av_placeSides) H := hP
    have hD : va_D A (W_X_takeSegment cI cC cB qu qu_characters qv qv_segmentNames qv_sideStarts qv_placeBases qv_placeSides qv_followers qv_pathNames qv_stepCounts qv_steps qv_joinFrom qv_joinTo fu_length v_4 au_characters fv_segments fv_links fv_paths fv_places fv_joins av_segmentNames av_sideStarts av_placeBases av_placeSides) := hD
    refine lv_istore_n (lv' := [(2, .int r_5), (0, .ref qu), (1, .ref qv)]) hx hb d_X_takeSegment_15 rfl hl (by decide) rfl (fun ls hl => ?_)
    refine lv_iload_n hx hb d_X_takeSegment_16 rfl (lv_at hl 0 rfl) ?_
    refine lv_if_eq (tgt := 29) hx hb d_X_takeSegment_17 (by decide) (fun c_6 => ?_) (fun c_6 => ?_)
    · have h := h.1 c_6
      refine lv_iconst (v := 0) hx hb d_X_takeSegment_29 (by decide) ?_
      exact hret (v_4, fv_segments, fv_places, av_segmentNames, av_sideStarts, av_placeBases, av_placeSides) () 0 _ _ _ _ rfl h hP hD hS d_X_takeSegment_30
    · have h := h.2 c_6
      refine lv_aload_n hx hb d_X_takeSegment_20 rfl (lv_at hl 1 rfl) ?_
      refine lv_bipush (v := 9) hx hb d_X_takeSegment_21 (by decide) ?_
      refine call_V_i (As := [.int 9]) (rest := []) C0 hP hD hS [0, 1] [2, 3, 4, 5, 6] [5, 6, 0, 1, 2, 3, 4] [(qv, .inr (5, [.int fv_segments, .int fv_links, .int fv_paths, .int fv_places, .int fv_joins, .ref qv_segmentNames, .ref qv_sideStarts, .ref qv_placeBases, .ref qv_placeSides, .ref qv_followers, .ref qv_pathNames, .ref qv_stepCounts, .ref qv_steps, .ref qv_joinFrom, .ref qv_joinTo])), (qv_segmentNames, .inl (cI, 8, .inl av_segmentNames)), (qv_sideStarts, .inl (cI, 16, .inl av_sideStarts)), (qv_placeBases, .inl (cC, 64, .inl av_placeBases)), (qv_placeSides, .inl (cI, 64, .inl av_placeSides))] (fun (v : Int32) (b : Unit) => (W_X_takeSegment cI cC cB qu qu_characters qv qv_segmentNames qv_sideStarts qv_placeBases qv_placeSides qv_followers qv_pathNames qv_stepCounts qv_steps qv_joinFrom qv_joinTo fu_length v au_characters fv_segments fv_links fv_paths fv_places fv_joins av_segmentNames av_sideStarts av_placeBases av_placeSides)) (ci := 1) rfl rfl (k_Te_takes l dC dI cI cC cB _ qu qu_characters fu_length v_4 au_characters 9 h) (g_V w_27 w_28 w_29 w_7 w_26) 1 rfl (by decide +kernel) rfl rfl ⟨Nat.le_of_ble_eq_true rfl, Nat.le_of_ble_eq_true rfl⟩ rfl rfl (by decide) (by decide) (by decide) (by decide) (fun _ _ => rfl) hl.1 rfl (Nat.le_of_ble_eq_true rfl) d_X_takeSegment_23 ⟨Nat.le_of_ble_eq_true rfl, Nat.le_of_ble_eq_true rfl⟩ (fun r_8 v_7 _ H locs h hP hD hS => ?_)
      have hP : va_P (dC, dI) cls (W_X_takeSegment cI cC cB qu qu_characters qv qv_segmentNames qv_sideStarts qv_placeBases qv_placeSides qv_followers qv_pathNames qv_stepCounts qv_steps qv_joinFrom qv_joinTo fu_length v_7 au_characters fv_segments fv_links fv_paths fv_places fv_joins av_segmentNames av_sideStarts av_placeBases av_placeSides) H := hP
      have hD : va_D A (W_X_takeSegment cI cC cB qu qu_characters qv qv_segmentNames qv_sideStarts qv_placeBases qv_placeSides qv_followers qv_pathNames qv_stepCounts qv_steps qv_joinFrom qv_joinTo fu_length v_7 au_characters fv_segments fv_links fv_paths fv_places fv_joins av_segmentNames av_sideStarts av_placeBases av_placeSides) := hD
      refine lv_if_ne (tgt := 31) hx hb d_X_takeSegment_26 (by decide) (fun c_9 => ?_) (fun c_9 => ?_)
      · have h := h.2 c_9
        refine lv_aload_n hx hb d_X_takeSegment_31 rfl (lv_at hl 1 rfl) ?_
        refine va_get (D := (dC, dI)) (ci := 1) (v := .int v_7) (C := R_Te) (T := T_Te) (N := 3) hx hb hts in_Te hown hK hP 0 rfl rfl 2 (by decide) (hts _ w_20) (fun _ h9 => h9) rfl d_X_takeSegment_32 ?_
        refine lv_istore_n (lv' := [(3, .int v_7), (2, .int r_5), (0, .ref qu), (1, .ref qv)]) hx hb d_X_takeSegment_35 rfl hl (by decide) rfl (fun ls hl => ?_)
        refine lv_aload_n hx hb d_X_takeSegment_36 rfl (lv_at hl 2 rfl) ?_
        refine call_V_i (As := []) (rest := []) C0 hP hD hS [0, 1] [2, 3, 4, 5, 6] [5, 6, 0, 1, 2, 3, 4] [(qv, .inr (5, [.int fv_segments, .int fv_links, .int fv_paths, .int fv_places, .int fv_joins, .ref qv_segmentNames, .ref qv_sideStarts, .ref qv_placeBases, .ref qv_placeSides, .ref qv_followers, .ref qv_pathNames, .ref qv_stepCounts, .ref qv_steps, .ref qv_joinFrom, .ref qv_joinTo])), (qv_segmentNames, .inl (cI, 8, .inl av_segmentNames)), (qv_sideStarts, .inl (cI, 16, .inl av_sideStarts)), (qv_placeBases, .inl (cC, 64, .inl av_placeBases)), (qv_placeSides, .inl (cI, 64, .inl av_placeSides))] (fun (v : Int32) (b : Unit) => (W_X_takeSegment cI cC cB qu qu_characters qv qv_segmentNames qv_sideStarts qv_placeBases qv_placeSides qv_followers qv_pathNames qv_stepCounts qv_steps qv_joinFrom qv_joinTo fu_length v au_characters fv_segments fv_links fv_paths fv_places fv_joins av_segmentNames av_sideStarts av_placeBases av_placeSides)) (ci := 1) rfl rfl (k_Te_takeBases l dC dI cI cC cB _ qu qu_characters fu_length v_7 au_characters h) (g_V w_95 w_96 w_97 w_7 w_94) 0 rfl (by decide +kernel) rfl rfl ⟨Nat.le_of_ble_eq_true rfl, Nat.le_of_ble_eq_true rfl⟩ rfl rfl (by decide) (by decide) (by decide) (by decide) (fun _ _ => rfl) hl.1 rfl (Nat.le_of_ble_eq_true rfl) d_X_takeSegment_37 ⟨Nat.le_of_ble_eq_true rfl, Nat.le_of_ble_eq_true rfl⟩ (fun r_11 v_10 _ H locs h hP hD hS => ?_)
        have hP : va_P (dC, dI) cls (W_X_takeSegment cI cC cB qu qu_characters qv qv_segmentNames qv_sideStarts qv_placeBases qv_placeSides qv_followers qv_pathNames qv_stepCounts qv_steps qv_joinFrom qv_joinTo fu_length v_10 au_characters fv_segments fv_links fv_paths fv_places fv_joins av_segmentNames av_sideStarts av_placeBases av_placeSides) H := hP
        have hD : va_D A (W_X_takeSegment cI cC cB qu qu_characters qv qv_segmentNames qv_sideStarts qv_placeBases qv_placeSides qv_followers qv_pathNames qv_stepCounts qv_steps qv_joinFrom qv_joinTo fu_length v_10 au_characters fv_segments fv_links fv_paths fv_places fv_joins av_segmentNames av_sideStarts av_placeBases av_placeSides) := hD
        refine lv_istore (lv' := [(4, .int r_11), (3, .int v_7), (2, .int r_5), (0, .ref qu), (1, .ref qv)]) hx hb d_X_takeSegment_40 hl (by decide) rfl (fun ls hl => ?_)
        refine lv_aload_n hx hb d_X_takeSegment_42 rfl (lv_at hl 3 rfl) ?_
        refine lv_bipush (v := 10) hx hb d_X_takeSegment_43 (by decide) ?_
        refine call_V_i (As := [.int 10]) (rest := []) C0 hP hD hS [0, 1] [2, 3, 4, 5, 6] [5, 6, 0, 1, 2, 3, 4] [(qv, .inr (5, [.int fv_segments, .int fv_links, .int fv_paths, .int fv_places, .int fv_joins, .ref qv_segmentNames, .ref qv_sideStarts, .ref qv_placeBases, .ref qv_placeSides, .ref qv_followers, .ref qv_pathNames, .ref qv_stepCounts, .ref qv_steps, .ref qv_joinFrom, .ref qv_joinTo])), (qv_segmentNames, .inl (cI, 8, .inl av_segmentNames)), (qv_sideStarts, .inl (cI, 16, .inl av_sideStarts)), (qv_placeBases, .inl (cC, 64, .inl av_placeBases)), (qv_placeSides, .inl (cI, 64, .inl av_placeSides))] (fun (v : Int32) (b : Unit) => (W_X_takeSegment cI cC cB qu qu_characters qv qv_segmentNames qv_sideStarts qv_placeBases qv_placeSides qv_followers qv_pathNames qv_stepCounts qv_steps qv_joinFrom qv_joinTo fu_length v au_characters fv_segments fv_links fv_paths fv_places fv_joins av_segmentNames av_sideStarts av_placeBases av_placeSides)) (ci := 1) rfl rfl (k_Te_takes l dC dI cI cC cB _ qu qu_characters fu_length v_10 au_characters 10 h) (g_V w_27 w_28 w_29 w_7 w_26) 1 rfl (by decide +kernel) rfl rfl ⟨Nat.le_of_ble_eq_true rfl, Nat.le_of_ble_eq_true rfl⟩ rfl rfl (by decide) (by decide) (by decide) (by decide) (fun _ _ => rfl) hl.1 rfl (Nat.le_of_ble_eq_true rfl) d_X_takeSegment_45 ⟨Nat.le_of_ble_eq_true rfl, Nat.le_of_ble_eq_true rfl⟩ (fun r_13 v_12 _ H locs h hP hD hS => ?_)
        have hP : va_P (dC, dI) cls (W_X_takeSegment cI cC cB qu qu_characters qv qv_segmentNames qv_sideStarts qv_placeBases qv_placeSides qv_followers qv_pathNames qv_stepCounts qv_steps qv_joinFrom qv_joinTo fu_length v_12 au_characters fv_segments fv_links fv_paths fv_places fv_joins av_segmentNames av_sideStarts av_placeBases av_placeSides) H := hP
        have hD : va_D A (W_X_takeSegment cI cC cB qu qu_characters qv qv_segmentNames qv_sideStarts qv_placeBases qv_placeSides qv_followers qv_pathNames qv_stepCounts qv_steps qv_joinFrom qv_joinTo fu_length v_12 au_characters fv_segments fv_links fv_paths fv_places fv_joins av_segmentNames av_sideStarts av_placeBases av_placeSides) := hD
        refine lv_if_eq (tgt := 70) hx hb d_X_takeSegment_48 (by decide) (fun c_14 => ?_) (fun c_14 => ?_)
        · have h := h.1 c_14
          refine lv_iconst (v := 0) hx hb d_X_takeSegment_70 (by decide) ?_
          exact hret (v_12, fv_segments, fv_places, av_segmentNames, av_sideStarts, av_placeBases, av_placeSides) () 0 _ _ _ _ rfl h hP hD hS d_X_takeSegment_71
        · have h := h.2 c_14
          refine lv_aload_n hx hb d_X_takeSegment_51 rfl (lv_at hl 4 rfl) ?_
          refine lv_iload_n hx hb d_X_takeSegment_52 rfl (lv_at hl 2 rfl) ?_
          refine lv_aload_n hx hb d_X_takeSegment_53 rfl (lv_at hl 3 rfl) ?_
          refine va_get (D := (dC, dI)) (ci := 1) (v := .ref qu_characters) (C := R_Te) (T := T_Te) (N := 3) hx hb hts in_Te hown hK hP 0 rfl rfl 0 (by decide) (hts _ w_79) (fun _ h9 => h9) rfl d_X_takeSegment_54 ?_
          refine lv_iload_n hx hb d_X_takeSegment_57 rfl (lv_at hl 1 rfl) ?_
          refine lv_iload hx hb d_X_takeSegment_58 (lv_at hl 0 rfl) ?_
          refine call_V_i (As := [.int r_5, .ref qu_characters, .int v_7, .int r_11]) (rest := []) C0 hP hD hS [2, 3, 4, 5, 6, 1] [0] [0, 6, 1, 2, 3, 4, 5] [(qu, .inr (1, [.ref qu_characters, .int fu_length, .int v_12]))] (fun (v : Int32 × Int32 × (Nat → Int32) × (Nat → Int32) × (Nat → Int32) × (Nat → Int32)) (b : Unit) => (W_X_takeSegment cI cC cB qu qu_characters qv qv_segmentNames qv_sideStarts qv_placeBases qv_placeSides qv_followers qv_pathNames qv_stepCounts qv_steps qv_joinFrom qv_joinTo fu_length v_12 au_characters v.1 fv_links fv_paths v.2.1 fv_joins v.2.2.1 v.2.2.2.1 v.2.2.2.2.1 v.2.2.2.2.2)) (ci := 5) rfl rfl (k_Gr_addSegment l dC dI cI cC cB _ qv qv_segmentNames qv_sideStarts qv_placeBases qv_placeSides qu_characters qv_followers qv_pathNames qv_stepCounts qv_steps qv_joinFrom qv_joinTo fv_segments fv_links fv_paths fv_places fv_joins av_segmentNames av_sideStarts av_placeBases av_placeSides 400 au_characters r_5 v_7 r_11 h) (g_V w_91 w_92 w_93 w_40 w_90) 4 rfl (by decide +kernel) rfl rfl ⟨Nat.le_of_ble_eq_true rfl, Nat.le_of_ble_eq_true rfl⟩ rfl rfl (by decide) (by decide) (by decide) (by decide) (fun _ _ => rfl) hl.1 rfl (Nat.le_of_ble_eq_true rfl) d_X_takeSegment_60 ⟨Nat.le_of_ble_eq_true rfl, Nat.le_of_ble_eq_true rfl⟩ (fun r_16 v_15 _ H locs h hP hD hS => ?_)
          have hP : va_P (dC, dI) cls (W_X_takeSegment cI cC cB qu qu_characters qv qv_segmentNames qv_sideStarts qv_placeBases qv_placeSides qv_followers qv_pathNames qv_stepCounts qv_steps qv_joinFrom qv_joinTo fu_length v_12 au_characters v_15.1 fv_links fv_paths v_15.2.1 fv_joins v_15.2.2.1 v_15.2.2.2.1 v_15.2.2.2.2.1 v_15.2.2.2.2.2) H := hP
          have hD : va_D A (W_X_takeSegment cI cC cB qu qu_characters qv qv_segmentNames qv_sideStarts qv_placeBases qv_placeSides qv_followers qv_pathNames qv_stepCounts qv_steps qv_joinFrom qv_joinTo fu_length v_12 au_characters v_15.1 fv_links fv_paths v_15.2.1 fv_joins v_15.2.2.1 v_15.2.2.2.1 v_15.2.2.2.2.1 v_15.2.2.2.2.2) := hD
          refine lv_if_eq (tgt := 70) hx hb d_X_takeSegment_63 (by decide) (fun c_17 => ?_) (fun c_17 => ?_)
          · have h := h.1 c_17
            refine lv_iconst (v := 0) hx hb d_X_takeSegment_70 (by decide) ?_
            exact hret (v_12, v_15.1, v_15.2.1, v_15.2.2.1, v_15.2.2.2.1, v_15.2.2.2.2.1, v_15.2.2.2.2.2) () 0 _ _ _ _ rfl h hP hD hS d_X_takeSegment_71
          · have h := h.2 c_17
            refine lv_iconst (v := 1) hx hb d_X_takeSegment_66 (by decide) ?_
            refine lv_goto (tgt := 71) hx hb d_X_takeSegment_67 (by decide) ?_
            exact hret (v_12, v_15.1, v_15.2.1, v_15.2.2.1, v_15.2.2.2.1, v_15.2.2.2.2.1, v_15.2.2.2.2.2) () 1 _ _ _ _ rfl h hP hD hS d_X_takeSegment_71
      · have h := h.1 c_9
        refine lv_iconst (v := 0) hx hb d_X_takeSegment_29 (by decide) ?_
        exact hret (v_7, fv_segments, fv_places, av_segmentNames, av_sideStarts, av_placeBases, av_placeSides) () 0 _ _ _ _ rfl h hP hD hS d_X_takeSegment_30
  · have h := h.1 c_3
    refine lv_iconst (v := 0) hx hb d_X_takeSegment_9 (by decide) ?_
    exact hret (v_1, fv_segments, fv_places, av_segmentNames, av_sideStarts, av_placeBases, av_placeSides) () 0 _ _ _ _ rfl h hP hD hS d_X_takeSegment_10
abbrev W_X_takeSide (cI cC cB : ClassId) (qu : Nat) (qu_characters : Nat) (qv : Nat) (qv_segmentNames : Nat) (qv_sideStarts : Nat) (qv_placeBases : Nat) (qv_placeSides : Nat) (qv_followers : Nat) (qv_pathNames : Nat) (qv_stepCounts : Nat) (qv_steps : Nat) (qv_joinFrom : Nat) (qv_joinTo : Nat) (fu_length : Int32) (fu_at : Int32) (au_characters : Nat → Int32) (fv_segments : Int32) (fv_links : Int32) (fv_paths : Int32) (fv_places : Int32) (fv_joins : Int32) (av_segmentNames : Nat → Int32) : va_W := [(qu, .inr (1, [.ref qu_characters, .int fu_length, .int fu_at])), (qu_characters, .inl (cC, 400, .inl au_characters)), (qv, .inr (5, [.int fv_segments, .int fv_links, .int fv_paths, .int fv_places, .int fv_joins, .ref qv_segmentNames, .ref qv_sideStarts, .ref qv_placeBases, .ref qv_placeSides, .ref qv_followers, .ref qv_pathNames, .ref qv_stepCounts, .ref qv_steps, .ref qv_joinFrom, .ref qv_joinTo])), (qv_segmentNames, .inl (cI, 8, .inl av_segmentNames))]
def w_X_takeSide_28 (Q : Int32 → Int32 → Prop)  (fu_length : Int32) (au_characters : Nat → Int32) (fv_segments : Int32) (av_segmentNames : Nat → Int32) (x3 : Int32) (fu_at : Int32) : Prop := wp_Te_takes (fun r_2 v_1 => ((r_2 = 0 → (wp_Te_takes (fun r_5 v_4 => ((r_5 = 0 → (Q (-1) v_4)) ∧ (¬ r_5 = 0 → (∀ x_7 : Int32, x_7 = 2 * x3 → (wp_X_turned (fun r_9 v_8 => Q r_9 v_4) x_7))))) 45 fu_length v_1 au_characters)) ∧ (¬ r_2 = 0 → (∀ x_10 : Int32, x_10 = 2 * x3 → (Q x_10 v_1))))) 43 fu_length fu_at au_characters
def wp_X_takeSide (Q : Int32 → Int32 → Prop) (p2 : Int32) (fu_length : Int32) (fu_at : Int32) (au_characters : Nat → Int32) (fv_segments : Int32) (av_segmentNames : Nat → Int32) : Prop := wp_Te_takeName (fun r_12 v_11 => wp_Gr_segmentNamed (fun r_14 v_13 => ((r_14 < 0 → (Q (-1) v_11)) ∧ (¬ r_14 < 0 → (((p2 = 0 → (w_X_takeSide_28 Q fu_length au_characters fv_segments av_segmentNames r_14 v_11)) ∧ (¬ p2 = 0 → (wp_Te_takes (fun r_18 v_17 => ((r_18 = 0 → (Q (-1) v_17)) ∧ (¬ r_18 = 0 → (w_X_takeSide_28 Q fu_length au_characters fv_segments av_segmentNames r_14 v_17)))) 9 fu_length v_11 au_characters))))))) r_12 fv_segments av_segmentNames) fu_length fu_at au_characters
abbrev rm_X_takeSide : Room := { frames := 2, cells := 0, slots := 0, locals := 44 }
set_option maxHeartbeats 4000000 in
set_option maxRecDepth 100000 in
theorem k_X_takeSide (l : Launch) (dC : Nat → ClassId) (dI : Nat → Nat → Nat) (cI cC cB : ClassId) (sz : Nat) (qu : Nat) (qu_characters : Nat) (qv : Nat) (qv_segmentNames : Nat) (qv_sideStarts : Nat) (qv_placeBases : Nat) (qv_placeSides : Nat) (qv_followers : Nat) (qv_pathNames : Nat) (qv_stepCounts : Nat) (qv_steps : Nat) (qv_joinFrom : Nat) (qv_joinTo : Nat) (fu_length : Int32) (fu_at : Int32) (au_characters : Nat → Int32) (fv_segments : Int32) (fv_links : Int32) (fv_paths : Int32) (fv_places : Int32) (fv_joins : Int32) (av_segmentNames : Nat → Int32) (p2 : Int32) {Q : Int32 → Int32 → Prop} (h : wp_X_takeSide Q p2 fu_length fu_at au_characters fv_segments av_segmentNames) :
    CTi l y_X_takeSide (wM y_X_takeSide c_X_takeSide 4 (some .int)) rm_X_takeSide 0 0 (dC, dI) (tysL cI cC cB) [.ref qu, .ref qv, .int p2] (W_X_takeSide cI cC cB qu qu_characters qv qv_segmentNames qv_sideStarts qv_placeBases qv_placeSides qv_followers qv_pathNames qv_stepCounts qv_steps qv_joinFrom qv_joinTo fu_length fu_at au_characters fv_segments fv_links fv_paths fv_places fv_joins av_segmentNames) sz Q (fun (v : Int32) (b : Unit) => (W_X_takeSide cI cC cB qu qu_characters qv qv_segmentNames qv_sideStarts qv_placeBases qv_placeSides qv_followers qv_pathNames qv_stepCounts qv_steps qv_joinFrom qv_joinTo fu_length v au_characters fv_segments fv_links fv_paths fv_places fv_joins av_segmentNames)) := by
  refine CTi.std (by decide) (Nat.le_of_ble_eq_true rfl) ?_
  intro p e s m args below meth c A ls QF C0 hP hD hl hS hsz hnm hret
  obtain ⟨hx, hb, hr, hml, hown, hts, hlocks, hN, hA, hK⟩ := id C0
  have hown : s.vm.findClass R_X = some m.cls := hown
  have hl : lv_has ls 4 [(0, .ref qu), (1, .ref qv), (2, .int p2)] := hl
  clear hsz hnm
  have blk_28 : ∀  (x3 : Int32) (fu_at : Int32)  (H : Heap) (locs : List Loc) (ls : Array Slot), w_X_takeSide_28 Q  fu_length au_characters fv_segments av_segmentNames x3 fu_at → va_P (dC, dI) cls (W_X_takeSide cI cC cB qu qu_characters qv qv_segmentNames qv_sideStarts qv_placeBases qv_placeSides qv_followers qv_pathNames qv_stepCounts qv_steps qv_joinFrom qv_joinTo fu_length fu_at au_characters fv_segments fv_links fv_paths fv_places fv_joins av_segmentNames) H → va_D A (W_X_takeSide cI cC cB qu qu_characters qv qv_segmentNames qv_sideStarts qv_placeBases qv_placeSides qv_followers qv_pathNames qv_stepCounts qv_steps qv_joinFrom qv_joinTo fu_length fu_at au_characters fv_segments fv_links fv_paths fv_places fv_joins av_segmentNames) → va_S A s.heap H locs → lv_has ls 4 [(0, .ref qu), (3, .int x3)] → W p l e rm_X_takeSide s m args below meth c H locs 0 0 QF (F0 m 28 ls []) := by
    intro  x3 fu_at  H locs ls h hP hD hS hl
    unfold w_X_takeSide_28 at h
    refine lv_aload_n hx hb d_X_takeSide_28 rfl (lv_at hl 0 rfl) ?_
    refine lv_bipush (v := 43) hx hb d_X_takeSide_29 (by decide) ?_
    refine call_V_i (As := [.int 43]) (rest := []) C0 hP hD hS [0, 1] [2, 3] [2, 3, 0, 1] [(qv, .inr (5, [.int fv_segments, .int fv_links, .int fv_paths, .int fv_places, .int fv_joins, .ref qv_segmentNames, .ref qv_sideStarts, .ref qv_placeBases, .ref qv_placeSides, .ref qv_followers, .ref qv_pathNames, .ref qv_stepCounts, .ref qv_steps, .ref qv_joinFrom, .ref qv_joinTo])), (qv_segmentNames, .inl (cI, 8, .inl av_segmentNames))] (fun (v : Int32) (b : Unit) => (W_X_takeSide cI cC cB qu qu_characters qv qv_segmentNames qv_sideStarts qv_placeBases qv_placeSides qv_followers qv_pathNames qv_stepCounts qv_steps qv_joinFrom qv_joinTo fu_length v au_characters fv_segments fv_links fv_paths fv_places fv_joins av_segmentNames)) (ci := 1) rfl rfl (k_Te_takes l dC dI cI cC cB _ qu qu_characters fu_length fu_at au_characters 43 h) (g_V w_27 w_28 w_29 w_7 w_26) 1 rfl (by decide +kernel) rfl rfl ⟨Nat.le_of_ble_eq_true rfl, Nat.le_of_ble_eq_true rfl⟩ rfl rfl (by decide) (by decide) (by decide) (by decide) (fun _ _ => rfl) hl.1 rfl (Nat.le_of_ble_eq_true rfl) d_X_takeSide_31 ⟨Nat.le_of_ble_eq_true rfl, Nat.le_of_ble_eq_true rfl⟩ (fun r_2 v_1 _ H locs h hP hD hS => ?_)
    have hP : va_P (dC, dI) cls (W_X_takeSide cI cC cB qu qu_characters qv qv_segmentNames qv_sideStarts qv_placeBases qv_placeSides qv_followers qv_pathNames qv_stepCounts qv_steps qv_joinFrom qv_joinTo fu_length v_1 au_characters fv_segments fv_links fv_paths fv_places fv_joins av_segmentNames) H := hP
    have hD : va_D A (W_X_takeSide cI cC cB qu qu_characters qv qv_segmentNames qv_sideStarts qv_placeBases qv_placeSides qv_followers qv_pathNames qv_stepCounts qv_steps qv_joinFrom qv_joinTo fu_length v_1 au_characters fv_segments fv_links fv_paths fv_places fv_joins av_segmentNames) := hD
    refine lv_if_eq (tgt := 41) hx hb d_X_takeSide_34 (by decide) (fun c_3 => ?_) (fun c_3 => ?_)
    · have h := h.1 c_3
      refine lv_aload_n hx hb d_X_takeSide_41 rfl (lv_at hl 0 rfl) ?_
      refine lv_bipush (v := 45) hx hb d_X_takeSide_42 (by decide) ?_
      refine call_V_i (As := [.int 45]) (rest := []) C0 hP hD hS [0, 1] [2, 3] [2, 3, 0, 1] [(qv, .inr (5, [.int fv_segments, .int fv_links, .int fv_paths, .int fv_places, .int fv_joins, .ref qv_segmentNames, .ref qv_sideStarts, .ref qv_placeBases, .ref qv_placeSides, .ref qv_followers, .ref qv_pathNames, .ref qv_stepCounts, .ref qv_steps, .ref qv_joinFrom, .ref qv_joinTo])), (qv_segmentNames, .inl (cI, 8, .inl av_segmentNames))] (fun (v : Int32) (b : Unit) => (W_X_takeSide cI cC cB qu qu_characters qv qv_segmentNames qv_sideStarts qv_placeBases qv_placeSides qv_followers qv_pathNames qv_stepCounts qv_steps qv_joinFrom qv_joinTo fu_length v au_characters fv_segments fv_links fv_paths fv_places fv_joins av_segmentNames)) (ci := 1) rfl rfl (k_Te_takes l dC dI cI cC cB _ qu qu_characters fu_length v_1 au_characters 45 h) (g_V w_27 w_28 w_29 w_7 w_26) 1 rfl (by decide +kernel) rfl rfl ⟨Nat.le_of_ble_eq_true rfl, Nat.le_of_ble_eq_true rfl⟩ rfl rfl (by decide) (by decide) (by decide) (by decide) (fun _ _ => rfl) hl.1 rfl (Nat.le_of_ble_eq_true rfl) d_X_takeSide_44 ⟨Nat.le_of_ble_eq_true rfl, Nat.le_of_ble_eq_true rfl⟩ (fun r_5 v_4 _ H locs h hP hD hS => ?_)
      have hP : va_P (dC, dI) cls (W_X_takeSide cI cC cB qu qu_characters qv qv_segmentNames qv_sideStarts qv_placeBases qv_placeSides qv_followers qv_pathNames qv_stepCounts qv_steps qv_joinFrom qv_joinTo fu_length v_4 au_characters fv_segments fv_links fv_paths fv_places fv_joins av_segmentNames) H := hP
      have hD : va_D A (W_X_takeSide cI cC cB qu qu_characters qv qv_segmentNames qv_sideStarts qv_placeBases qv_placeSides qv_followers qv_pathNames qv_stepCounts qv_steps qv_joinFrom qv_joinTo fu_length v_4 au_characters fv_segments fv_links fv_paths fv_places fv_joins av_segmentNames) := hD
      refine lv_if_eq (tgt := 59) hx hb d_X_takeSide_47 (by decide) (fun c_6 => ?_) (fun c_6 => ?_)
      · have h := h.1 c_6
        refine lv_iconst (v := (-1)) hx hb d_X_takeSide_59 (by decide) ?_
        exact hret v_4 () (-1) _ _ _ _ rfl h hP hD hS d_X_takeSide_60
      · have h := h.2 c_6
        refine lv_iconst (v := 2) hx hb d_X_takeSide_50 (by decide) ?_
        refine lv_iload_n hx hb d_X_takeSide_51 rfl (lv_at hl 1 rfl) ?_
        refine lv_imul hx hb d_X_takeSide_52 ?_
        refine lv_topi (fun x_7 ex_7 => ?_)
        have h := h x_7 ex_7
        refine call_S_i (As := [.int x_7]) (rest := []) C0 hP hD hS [] [0, 1, 2, 3] [0, 1, 2, 3] [(qu, .inr (1, [.ref qu_characters, .int fu_length, .int v_4])), (qu_characters, .inl (cC, 400, .inl au_characters)), (qv, .inr (5, [.int fv_segments, .int fv_links, .int fv_paths, .int fv_places, .int fv_joins, .ref qv_segmentNames, .ref qv_sideStarts, .ref qv_placeBases, .ref qv_placeSides, .ref qv_followers, .ref qv_pathNames, .ref qv_stepCounts, .ref qv_steps, .ref qv_joinFrom, .ref qv_joinTo])), (qv_segmentNames, .inl (cI, 8, .inl av_segmentNames))] (fun (v : Unit) (b : Unit) => (W_X_takeSide cI cC cB qu qu_characters qv qv_segmentNames qv_sideStarts qv_placeBases qv_placeSides qv_followers qv_pathNames qv_stepCounts qv_steps qv_joinFrom qv_joinTo fu_length v_4 au_characters fv_segments fv_links fv_paths fv_places fv_joins av_segmentNames)) (k_X_turned l dC dI cI cC cB _ x_7 h) (g_S w_31 w_32 w_33 w_30) 1 rfl (by decide +kernel) rfl rfl ⟨Nat.le_of_ble_eq_true rfl, Nat.le_of_ble_eq_true rfl⟩ rfl rfl (by decide) (by decide) (by decide) (by decide) (fun _ _ => rfl) hl.1 rfl (Nat.le_of_ble_eq_true rfl) d_X_takeSide_53 ⟨Nat.le_of_ble_eq_true rfl, Nat.le_of_ble_eq_true rfl⟩ (fun r_9 v_8 _ H locs h hP hD hS => ?_)
        have hP : va_P (dC, dI) cls (W_X_takeSide cI cC cB qu qu_characters qv qv_segmentNames qv_sideStarts qv_placeBases qv_placeSides qv_followers qv_pathNames qv_stepCounts qv_steps qv_joinFrom qv_joinTo fu_length v_4 au_characters fv_segments fv_links fv_paths fv_places fv_joins av_segmentNames) H := hP
        have hD : va_D A (W_X_takeSide cI cC cB qu qu_characters qv qv_segmentNames qv_sideStarts qv_placeBases qv_placeSides qv_followers qv_pathNames qv_stepCounts qv_steps qv_joinFrom qv_joinTo fu_length v_4 au_characters fv_segments fv_links fv_paths fv_places fv_joins av_segmentNames) := hD
        refine lv_goto (tgt := 60) hx hb d_X_takeSide_56 (by decide) ?_
        exact hret v_4 () r_9 _ _ _ _ rfl h hP hD hS d_X_takeSide_60
    · have h := h.2 c_3
      refine lv_iconst (v := 2) hx hb d_X_takeSide_37 (by decide) ?_
      refine lv_iload_n hx hb d_X_takeSide_38 rfl (lv_at hl 1 rfl) ?_
      refine lv_imul hx hb d_X_takeSide_39 ?_
      refine lv_topi (fun x_10 ex_10 => ?_)
      have h := h x_10 ex_10
      exact hret v_1 () x_10 _ _ _ _ rfl h hP hD hS d_X_takeSide_40
  unfold wp_X_takeSide at h
  refine lv_aload_n hx hb d_X_takeSide_0 rfl (lv_at hl 1 rfl) ?_
  refine lv_aload_n hx hb d_X_takeSide_1 rfl (lv_at hl 0 rfl) ?_
  refine call_V_i (As := []) (rest := [.ref qv]) C0 hP hD hS [0, 1] [2, 3] [2, 3, 0, 1] [(qv, .inr (5, [.int fv_segments, .int fv_links, .int fv_paths, .int fv_places, .int fv_joins, .ref qv_segmentNames, .ref qv_sideStarts, .ref qv_placeBases, .ref qv_placeSides, .ref qv_followers, .ref qv_pathNames, .ref qv_stepCounts, .ref qv_steps, .ref qv_joinFrom, .ref qv_joinTo])), (qv_segmentNames, .inl (cI, 8, .inl av_segmentNames))] (fun (v : Int32) (b : Unit) => (W_X_takeSide cI cC cB qu qu_characters qv qv_segmentNames qv_sideStarts qv_placeBases qv_placeSides qv_followers qv_pathNames qv_stepCounts qv_steps qv_joinFrom qv_joinTo fu_length v au_characters fv_segments fv_links fv_paths fv_places fv_joins av_segmentNames)) (ci := 1) rfl rfl (k_Te_takeName l dC dI cI cC cB _ qu qu_characters fu_length fu_at au_characters h) (g_V w_46 w_47 w_48 w_7 w_45) 0 rfl (by decide +kernel) rfl rfl ⟨Nat.le_of_ble_eq_true rfl, Nat.le_of_ble_eq_true rfl⟩ rfl rfl (by decide) (by decide) (by decide) (by decide) (fun _ _ => rfl) hl.1 rfl (Nat.le_of_ble_eq_true rfl) d_X_takeSide_2 ⟨Nat.le_of_ble_eq_true rfl, Nat.le_of_ble_eq_true rfl⟩ (fun r_12 v_11 _ H locs h hP hD hS => ?_)
  have hP : va_P (dC, dI) cls (W_X_takeSide cI cC cB qu qu_characters qv qv_segmentNames qv_sideStarts qv_placeBases qv_placeSides qv_followers qv_pathNames qv_stepCounts qv_steps qv_joinFrom qv_joinTo fu_length v_11 au_characters fv_segments fv_links fv_paths fv_places fv_joins av_segmentNames) H := hP
  have hD : va_D A (W_X_takeSide cI cC cB qu qu_characters qv qv_segmentNames qv_sideStarts qv_placeBases qv_placeSides qv_followers qv_pathNames qv_stepCounts qv_steps qv_joinFrom qv_joinTo fu_length v_11 au_characters fv_segments fv_links fv_paths fv_places fv_joins av_segmentNames) := hD
  refine call_V_i (As := [.int r_12]) (rest := []) C0 hP hD hS [2, 3] [0, 1] [0, 1, 2, 3] [(qu, .inr (1, [.ref qu_characters, .int fu_length, .int v_11])), (qu_characters, .inl (cC, 400, .inl au_characters))] (fun (v : Unit) (b : Unit) => (W_X_takeSide cI cC cB qu qu_characters qv qv_segmentNames qv_sideStarts qv_placeBases qv_placeSides qv_followers qv_pathNames qv_stepCounts qv_steps qv_joinFrom qv_joinTo fu_length v_11 au_characters fv_segments fv_links fv_paths fv_places fv_joins av_segmentNames)) (ci := 5) rfl rfl (k_Gr_segmentNamed l dC dI cI cC cB _ qv qv_segmentNames qv_sideStarts qv_placeBases qv_placeSides qv_followers qv_pathNames qv_stepCounts qv_steps qv_joinFrom qv_joinTo fv_segments fv_links fv_paths fv_places fv_joins av_segmentNames r_12 h) (g_V w_42 w_43 w_44 w_40 w_41) 1 rfl (by decide +kernel) rfl rfl ⟨Nat.le_of_ble_eq_true rfl, Nat.le_of_ble_eq_true rfl⟩ rfl rfl (by decide) (by decide) (by decide) (by decide) (fun _ _ => rfl) hl.1 rfl (Nat.le_of_ble_eq_true rfl) d_X_takeSide_5 ⟨Nat.le_of_ble_eq_true rfl, Nat.le_of_ble_eq_true rfl⟩ (fun r_14 v_13 _ H locs h hP hD hS => ?_)
  have hP : va_P (dC, dI) cls (W_X_takeSide cI cC cB qu qu_characters qv qv_segmentNames qv_sideStarts qv_placeBases qv_placeSides qv_followers qv_pathNames qv_stepCounts qv_steps qv_joinFrom qv_joinTo fu_length v_11 au_characters fv_segments fv_links fv_paths fv_places fv_joins av_segmentNames) H := hP
  have hD : va_D A (W_X_takeSide cI cC cB qu qu_characters qv qv_segmentNames qv_sideStarts qv_placeBases qv_placeSides qv_followers qv_pathNames qv_stepCounts qv_steps qv_joinFrom qv_joinTo fu_length v_11 au_characters fv_segments fv_links fv_paths fv_places fv_joins av_segmentNames) := hD
  refine lv_istore_n (lv' := [(3, .int r_14), (0, .ref qu), (1, .ref qv), (2, .int p2)]) hx hb d_X_takeSide_8 rfl hl (by decide) rfl (fun ls hl => ?_)
  refine lv_iload_n hx hb d_X_takeSide_9 rfl (lv_at hl 0 rfl) ?_
  refine lv_if_lt (tgt := 26) hx hb d_X_takeSide_10 (by decide) (fun c_15 => ?_) (fun c_15 => ?_)
  · have h := h.1 c_15
    refine lv_iconst (v := (-1)) hx hb d_X_takeSide_26 (by decide) ?_
    exact hret v_11 () (-1) _ _ _ _ rfl h hP hD hS d_X_takeSide_27
  · have h := h.2 c_15
    refine lv_iload_n hx hb d_X_takeSide_13 rfl (lv_at hl 3 rfl) ?_
    refine lv_if_eq (tgt := 28) hx hb d_X_takeSide_14 (by decide) (fun c_16 => ?_) (fun c_16 => ?_)
    · have h := h.1 c_16
      exact blk_28  _ _ _ _ _ h hP hD hS (lv_sub hl [1, 0] rfl)
    · have h := h.2 c_16
      refine lv_aload_n hx hb d_X_takeSide_17 rfl (lv_at hl 1 rfl) ?_
      refine lv_bipush (v := 9) hx hb d_X_takeSide_18 (by decide) ?_
      refine call_V_i (As := [.int 9]) (rest := []) C0 hP hD hS [0, 1] [2, 3] [2, 3, 0, 1] [(qv, .inr (5, [.int fv_segments, .int fv_links, .int fv_paths, .int fv_places, .int fv_joins, .ref qv_segmentNames, .ref qv_sideStarts, .ref qv_placeBases, .ref qv_placeSides, .ref qv_followers, .ref qv_pathNames, .ref qv_stepCounts, .ref qv_steps, .ref qv_joinFrom, .ref qv_joinTo])), (qv_segmentNames, .inl (cI, 8, .inl av_segmentNames))] (fun (v : Int32) (b : Unit) => (W_X_takeSide cI cC cB qu qu_characters qv qv_segmentNames qv_sideStarts qv_placeBases qv_placeSides qv_followers qv_pathNames qv_stepCounts qv_steps qv_joinFrom qv_joinTo fu_length v au_characters fv_segments fv_links fv_paths fv_places fv_joins av_segmentNames)) (ci := 1) rfl rfl (k_Te_takes l dC dI cI cC cB _ qu qu_characters fu_length v_11 au_characters 9 h) (g_V w_27 w_28 w_29 w_7 w_26) 1 rfl (by decide +kernel) rfl rfl ⟨Nat.le_of_ble_eq_true rfl, Nat.le_of_ble_eq_true rfl⟩ rfl rfl (by decide) (by decide) (by decide) (by decide) (fun _ _ => rfl) hl.1 rfl (Nat.le_of_ble_eq_true rfl) d_X_takeSide_20 ⟨Nat.le_of_ble_eq_true rfl, Nat.le_of_ble_eq_true rfl⟩ (fun r_18 v_17 _ H locs h hP hD hS => ?_)
      have hP : va_P (dC, dI) cls (W_X_takeSide cI cC cB qu qu_characters qv qv_segmentNames qv_sideStarts qv_placeBases qv_placeSides qv_followers qv_pathNames qv_stepCounts qv_steps qv_joinFrom qv_joinTo fu_length v_17 au_characters fv_segments fv_links fv_paths fv_places fv_joins av_segmentNames) H := hP
      have hD : va_D A (W_X_takeSide cI cC cB qu qu_characters qv qv_segmentNames qv_sideStarts qv_placeBases qv_placeSides qv_followers qv_pathNames qv_stepCounts qv_steps qv_joinFrom qv_joinTo fu_length v_17 au_characters fv_segments fv_links fv_paths fv_places fv_joins av_segmentNames) := hD
      refine lv_if_ne (tgt := 28) hx hb d_X_takeSide_23 (by decide) (fun c_19 => ?_) (fun c_19 => ?_)
      · have h := h.2 c_19
        exact blk_28  _ _ _ _ _ h hP hD hS (lv_sub hl [1, 0] rfl)
      · have h := h.1 c_19
        refine lv_iconst (v := (-1)) hx hb d_X_takeSide_26 (by decide) ?_
        exact hret v_17 () (-1) _ _ _ _ rfl h hP hD hS d_X_takeSide_27
abbrev W_Gr_mayFollow (cI cC cB : ClassId) (qu : Nat) (qu_followers : Nat) (qu_segmentNames : Nat) (qu_sideStarts : Nat) (qu_placeBases : Nat) (qu_placeSides : Nat) (qu_pathNames : Nat) (qu_stepCounts : Nat) (qu_steps : Nat) (qu_joinFrom : Nat) (qu_joinTo : Nat) (fu_segments : Int32) (fu_links : Int32) (fu_paths : Int32) (fu_places : Int32) (fu_joins : Int32) (au_followers : Nat → Int32) : va_W := [(qu, .inr (5, [.int fu_segments, .int fu_links, .int fu_paths, .int fu_places, .int fu_joins, .ref qu_segmentNames, .ref qu_sideStarts, .ref qu_placeBases, .ref qu_placeSides, .ref qu_followers, .ref qu_pathNames, .ref qu_stepCounts, .ref qu_steps, .ref qu_joinFrom, .ref qu_joinTo])), (qu_followers, .inl (cI, 16, .inl au_followers))]
def wp_Gr_mayFollow (Q : Int32 → Unit → Prop) (p1 : Int32) (p2 : Int32) (au_followers : Nat → Int32) : Prop := vp_in p1 16 ∧ (∀ x_2 : Int32, x_2 = ((au_followers p1.toNatClampNeg) >>> (p2 &&& 31)) &&& 1 → (((x_2 = 0 → (Q 0 ())) ∧ (¬ x_2 = 0 → (Q 1 ())))))
abbrev rm_Gr_mayFollow : Room := { frames := 0, cells := 0, slots := 0, locals := 0 }
set_option maxHeartbeats 4000000 in
set_option maxRecDepth 100000 in
theorem k_Gr_mayFollow (l : Launch) (dC : Nat → ClassId) (dI : Nat → Nat → Nat) (cI cC cB : ClassId) (sz : Nat) (qu : Nat) (qu_followers : Nat) (qu_segmentNames : Nat) (qu_sideStarts : Nat) (qu_placeBases : Nat) (qu_placeSides : Nat) (qu_pathNames : Nat) (qu_stepCounts : Nat) (qu_steps : Nat) (qu_joinFrom : Nat) (qu_joinTo : Nat) (fu_segments : Int32) (fu_links : Int32) (fu_paths : Int32) (fu_places : Int32) (fu_joins : Int32) (au_followers : Nat → Int32) (p1 : Int32) (p2 : Int32) {Q : Int32 → Unit → Prop} (h : wp_Gr_mayFollow Q p1 p2 au_followers) :
    CTi l y_Gr_mayFollow (wM y_Gr_mayFollow c_Gr_mayFollow 3 (some .boolean)) rm_Gr_mayFollow 0 0 (dC, dI) (tysL cI cC cB) [.ref qu, .int p1, .int p2] (W_Gr_mayFollow cI cC cB qu qu_followers qu_segmentNames qu_sideStarts qu_placeBases qu_placeSides qu_pathNames qu_stepCounts qu_steps qu_joinFrom qu_joinTo fu_segments fu_links fu_paths fu_places fu_joins au_followers) sz Q (fun (v : Unit) (b : Unit) => (W_Gr_mayFollow cI cC cB qu qu_followers qu_segmentNames qu_sideStarts qu_placeBases qu_placeSides qu_pathNames qu_stepCounts qu_steps qu_joinFrom qu_joinTo fu_segments fu_links fu_paths fu_places fu_joins au_followers)) := by
  refine CTi.std (by decide) (Nat.le_of_ble_eq_true rfl) ?_
  intro p e s m args below meth c A ls QF C0 hP hD hl hS hsz hnm hret
  obtain ⟨hx, hb, hr, hml, hown, hts, hlocks, hN, hA, hK⟩ := id C0
  have hown : s.vm.findClass R_Gr = some m.cls := hown
  have hl : lv_has ls 3 [(0, .ref qu), (1, .int p1), (2, .int p2)] := hl
  clear hsz hnm
  unfold wp_Gr_mayFollow at h
  refine lv_aload_n hx hb d_Gr_mayFollow_0 rfl (lv_at hl 0 rfl) ?_
  refine va_get (D := (dC, dI)) (ci := 5) (v := .ref qu_followers) (C := R_Gr) (T := T_Gr) (N := 15) hx hb hts in_Gr hown hK hP 0 rfl rfl 9 (by decide) (hts _ w_15) (fun _ h9 => h9) rfl d_Gr_mayFollow_1 ?_
  refine lv_iload_n hx hb d_Gr_mayFollow_4 rfl (lv_at hl 1 rfl) ?_
  have hi_1 := h.1
  have h := h.2
  refine va_iald hx hb hK hP 1 0 rfl rfl hi_1 d_Gr_mayFollow_5 ?_
  refine lv_iload_n hx hb d_Gr_mayFollow_6 rfl (lv_at hl 2 rfl) ?_
  refine lv_ishr hx hb d_Gr_mayFollow_7 ?_
  refine lv_iconst (v := 1) hx hb d_Gr_mayFollow_8 (by decide) ?_
  refine lv_iand hx hb d_Gr_mayFollow_9 ?_
  refine lv_topi (fun x_2 ex_2 => ?_)
  have h := h x_2 ex_2
  refine lv_if_eq (tgt := 17) hx hb d_Gr_mayFollow_10 (by decide) (fun c_3 => ?_) (fun c_3 => ?_)
  · have h := h.1 c_3
    refine lv_iconst (v := 0) hx hb d_Gr_mayFollow_17 (by decide) ?_
    exact hret () () 0 _ _ _ _ rfl h hP hD hS d_Gr_mayFollow_18
  · have h := h.2 c_3
    refine lv_iconst (v := 1) hx hb d_Gr_mayFollow_13 (by decide) ?_
    refine lv_goto (tgt := 18) hx hb d_Gr_mayFollow_14 (by decide) ?_
    exact hret () () 1 _ _ _ _ rfl h hP hD hS d_Gr_mayFollow_18
abbrev W_Gr_addLink (cI cC cB : ClassId) (qu : Nat) (qu_followers : Nat) (qu_segmentNames : Nat) (qu_sideStarts : Nat) (qu_placeBases : Nat) (qu_placeSides : Nat) (qu_pathNames : Nat) (qu_stepCounts : Nat) (qu_steps : Nat) (qu_joinFrom : Nat) (qu_joinTo : Nat) (fu_segments : Int32) (fu_links : Int32) (fu_paths : Int32) (fu_places : Int32) (fu_joins : Int32) (au_followers : Nat → Int32) : va_W := [(qu, .inr (5, [.int fu_segments, .int fu_links, .int fu_paths, .int fu_places, .int fu_joins, .ref qu_segmentNames, .ref qu_sideStarts, .ref qu_placeBases, .ref qu_placeSides, .ref qu_followers, .ref qu_pathNames, .ref qu_stepCounts, .ref qu_steps, .ref qu_joinFrom, .ref qu_joinTo])), (qu_followers, .inl (cI, 16, .inl au_followers))]
def wp_Gr_addLink (Q : Int32 → (Int32 × (Nat → Int32)) → Prop) (p1 : Int32) (p2 : Int32) (fu_links : Int32) (au_followers : Nat → Int32) : Prop := ((12 ≤ fu_links → (Q 0 (fu_links, au_followers))) ∧ (¬ 12 ≤ fu_links → (wp_Gr_mayFollow (fun r_3 v_2 => ((r_3 = 0 → (∀ x_5 : Int32, x_5 = fu_links + 1 → (vp_in p1 16 ∧ (∀ x_7 : Int32, x_7 = (au_followers p1.toNatClampNeg) ||| (1 <<< (p2 &&& 31)) → (vp_in p1 16 ∧ (∀ au_followers_9 : Nat → Int32, au_followers_9 = upd au_followers p1.toNatClampNeg x_7 → (wp_X_turned (fun r_11 v_10 => vp_in r_11 16 ∧ (∀ y_13 : Int32, y_13 = au_followers_9 r_11.toNatClampNeg → (wp_X_turned (fun r_15 v_14 => ∀ x_16 : Int32, x_16 = y_13 ||| (1 <<< (r_15 &&& 31)) → (vp_in r_11 16 ∧ (∀ au_followers_18 : Nat → Int32, au_followers_18 = upd au_followers_9 r_11.toNatClampNeg x_16 → (Q 1 (x_5, au_followers_18))))) p1))) p2))))))) ∧ (¬ r_3 = 0 → (Q 0 (fu_links, au_followers))))) p1 p2 au_followers)))
abbrev rm_Gr_addLink : Room := { frames := 1, cells := 0, slots := 0, locals := 22 }
set_option maxHeartbeats 4000000 in
set_option maxRecDepth 100000 in
theorem k_Gr_addLink (l : Launch) (dC : Nat → ClassId) (dI : Nat → Nat → Nat) (cI cC cB : ClassId) (sz : Nat) (qu : Nat) (qu_followers : Nat) (qu_segmentNames : Nat) (qu_sideStarts : Nat) (qu_placeBases : Nat) (qu_placeSides : Nat) (qu_pathNames : Nat) (qu_stepCounts : Nat) (qu_steps : Nat) (qu_joinFrom : Nat) (qu_joinTo : Nat) (fu_segments : Int32) (fu_links : Int32) (fu_paths : Int32) (fu_places : Int32) (fu_joins : Int32) (au_followers : Nat → Int32) (p1 : Int32) (p2 : Int32) {Q : Int32 → (Int32 × (Nat → Int32)) → Prop} (h : wp_Gr_addLink Q p1 p2 fu_links au_followers) :
    CTi l y_Gr_addLink (wM y_Gr_addLink c_Gr_addLink 3 (some .boolean)) rm_Gr_addLink 0 0 (dC, dI) (tysL cI cC cB) [.ref qu, .int p1, .int p2] (W_Gr_addLink cI cC cB qu qu_followers qu_segmentNames qu_sideStarts qu_placeBases qu_placeSides qu_pathNames qu_stepCounts qu_steps qu_joinFrom qu_joinTo fu_segments fu_links fu_paths fu_places fu_joins au_followers) sz Q (fun (v : Int32 × (Nat → Int32)) (b : Unit) => (W_Gr_addLink cI cC cB qu qu_followers qu_segmentNames qu_sideStarts qu_placeBases qu_placeSides qu_pathNames qu_stepCounts qu_steps qu_joinFrom qu_joinTo fu_segments v.1 fu_paths fu_places fu_joins v.2)) := by
  refine CTi.std (by decide) (Nat.le_of_ble_eq_true rfl) ?_
  intro p e s m args below meth c A ls QF C0 hP hD hl hS hsz hnm hret
  obtain ⟨hx, hb, hr, hml, hown, hts, hlocks, hN, hA, hK⟩ := id C0
  have hown : s.vm.findClass R_Gr = some m.cls := hown
  have hl : lv_has ls 3 [(0, .ref qu), (1, .int p1), (2, .int p2)] := hl
  clear hsz hnm
  unfold wp_Gr_addLink at h
  refine lv_aload_n hx hb d_Gr_addLink_0 rfl (lv_at hl 0 rfl) ?_
  refine va_get (D := (dC, dI)) (ci := 5) (v := .int fu_links) (C := R_Gr) (T := T_Gr) (N := 15) hx hb hts in_Gr hown hK hP 0 rfl rfl 1 (by decide) (hts _ w_11) (fun _ h9 => h9) rfl d_Gr_addLink_1 ?_
  refine lv_bipush (v := 12) hx hb d_Gr_addLink_4 (by decide) ?_
  refine lv_icmp_ge (tgt := 18) hx hb d_Gr_addLink_6 (by decide) (fun c_1 => ?_) (fun c_1 => ?_)
  · have h := h.1 c_1
    refine lv_iconst (v := 0) hx hb d_Gr_addLink_18 (by decide) ?_
    exact hret (fu_links, au_followers) () 0 _ _ _ _ rfl h hP hD hS d_Gr_addLink_19
  · have h := h.2 c_1
    refine lv_aload_n hx hb d_Gr_addLink_9 rfl (lv_at hl 0 rfl) ?_
    refine lv_iload_n hx hb d_Gr_addLink_10 rfl (lv_at hl 1 rfl) ?_
    refine lv_iload_n hx hb d_Gr_addLink_11 rfl (lv_at hl 2 rfl) ?_
    refine call_V_i (As := [.int p1, .int p2]) (rest := []) C0 hP hD hS [0, 1] [] [0, 1] [] (fun (v : Unit) (b : Unit) => (W_Gr_addLink cI cC cB qu qu_followers qu_segmentNames qu_sideStarts qu_placeBases qu_placeSides qu_pathNames qu_stepCounts qu_steps qu_joinFrom qu_joinTo fu_segments fu_links fu_paths fu_places fu_joins au_followers)) (ci := 5) rfl rfl (k_Gr_mayFollow l dC dI cI cC cB _ qu qu_followers qu_segmentNames qu_sideStarts qu_placeBases qu_placeSides qu_pathNames qu_stepCounts qu_steps qu_joinFrom qu_joinTo fu_segments fu_links fu_paths fu_places fu_joins au_followers p1 p2 h) (g_V w_52 w_53 w_54 w_40 w_51) 2 rfl (by decide +kernel) rfl rfl ⟨Nat.le_of_ble_eq_true rfl, Nat.le_of_ble_eq_true rfl⟩ rfl rfl (by decide) (by decide) (by decide) (by decide) (fun _ _ => rfl) hl.1 rfl (Nat.le_of_ble_eq_true rfl) d_Gr_addLink_12 ⟨Nat.le_of_ble_eq_true rfl, Nat.le_of_ble_eq_true rfl⟩ (fun r_3 v_2 _ H locs h hP hD hS => ?_)
    have hP : va_P (dC, dI) cls (W_Gr_addLink cI cC cB qu qu_followers qu_segmentNames qu_sideStarts qu_placeBases qu_placeSides qu_pathNames qu_stepCounts qu_steps qu_joinFrom qu_joinTo fu_segments fu_links fu_paths fu_places fu_joins au_followers) H := hP
    have hD : va_D A (W_Gr_addLink cI cC cB qu qu_followers qu_segmentNames qu_sideStarts qu_placeBases qu_placeSides qu_pathNames qu_stepCounts qu_steps qu_joinFrom qu_joinTo fu_segments fu_links fu_paths fu_places fu_joins au_followers) := hD
    refine lv_if_eq (tgt := 20) hx hb d_Gr_addLink_15 (by decide) (fun c_4 => ?_) (fun c_4 => ?_)
    · have h := h.1 c_4
      refine lv_aload_n hx hb d_Gr_addLink_20 rfl (lv_at hl 0 rfl) ?_
      refine lv_dup hx hb d_Gr_addLink_21 rfl ?_
      refine va_get (D := (dC, dI)) (ci := 5) (v := .int fu_links) (C := R_Gr) (T := T_Gr) (N := 15) hx hb hts in_Gr hown hK hP 0 rfl rfl 1 (by decide) (hts _ w_11) (fun _ h9 => h9) rfl d_Gr_addLink_22 ?_
      refine lv_iconst (v := 1) hx hb d_Gr_addLink_25 (by decide) ?_
      refine lv_iadd hx hb d_Gr_addLink_26 ?_
      refine lv_topi (fun x_5 ex_5 => ?_)
      have h := h x_5 ex_5
      refine va_put (D := (dC, dI)) (ci := 5) (v := .int x_5) (ty := .int) (C := R_Gr) (T := T_Gr) (N := 15) hx hb hts in_Gr t_Gr t_Gr_ok n_Gr hown hK hP hD hS 0 rfl rfl 1 (by decide) (hts _ w_11) (fun _ h9 => h9) rfl (by decide +kernel) rfl rfl (Nat.le_of_ble_eq_true rfl) d_Gr_addLink_27 (fun H locs hP hD hS => ?_)
      have hP : va_P (dC, dI) cls (W_Gr_addLink cI cC cB qu qu_followers qu_segmentNames qu_sideStarts qu_placeBases qu_placeSides qu_pathNames qu_stepCounts qu_steps qu_joinFrom qu_joinTo fu_segments x_5 fu_paths fu_places fu_joins au_followers) H := hP
      have hD : va_D A (W_Gr_addLink cI cC cB qu qu_followers qu_segmentNames qu_sideStarts qu_placeBases qu_placeSides qu_pathNames qu_stepCounts qu_steps qu_joinFrom qu_joinTo fu_segments x_5 fu_paths fu_places fu_joins au_followers) := hD
      refine lv_aload_n hx hb d_Gr_addLink_30 rfl (lv_at hl 0 rfl) ?_
      refine va_get (D := (dC, dI)) (ci := 5) (v := .ref qu_followers) (C := R_Gr) (T := T_Gr) (N := 15) hx hb hts in_Gr hown hK hP 0 rfl rfl 9 (by decide) (hts _ w_15) (fun _ h9 => h9) rfl d_Gr_addLink_31 ?_
      refine lv_iload_n hx hb d_Gr_addLink_34 rfl (lv_at hl 1 rfl) ?_
      refine lv_dup2_11 hx hb d_Gr_addLink_35 rfl rfl ?_
      have hi_6 := h.1
      have h := h.2
      refine va_iald hx hb hK hP 1 0 rfl rfl hi_6 d_Gr_addLink_36 ?_
      refine lv_iconst (v := 1) hx hb d_Gr_addLink_37 (by decide) ?_
      refine lv_iload_n hx hb d_Gr_addLink_38 rfl (lv_at hl 2 rfl) ?_
      refine lv_ishl hx hb d_Gr_addLink_39 ?_
      refine lv_ior hx hb d_Gr_addLink_40 ?_
      refine lv_topi (fun x_7 ex_7 => ?_)
      have h := h x_7 ex_7
      have hi_8 := h.1
      have h := h.2
      refine va_iast hx hb hK hP hD hS 1 0 rfl rfl hi_8 d_Gr_addLink_41 (fun H locs hP hD hS => ?_)
      obtain ⟨au_followers_9, eau_followers_9⟩ : ∃ z : Nat → Int32, z = upd au_followers p1.toNatClampNeg x_7 := ⟨_, rfl⟩
      have h := h au_followers_9 eau_followers_9
      have hP : va_P (dC, dI) cls (W_Gr_addLink cI cC cB qu qu_followers qu_segmentNames qu_sideStarts qu_placeBases qu_placeSides qu_pathNames qu_stepCounts qu_steps qu_joinFrom qu_joinTo fu_segments x_5 fu_paths fu_places fu_joins au_followers_9) H := by rw [eau_followers_9]; exact hP
      have hD : va_D A (W_Gr_addLink cI cC cB qu qu_followers qu_segmentNames qu_sideStarts qu_placeBases qu_placeSides qu_pathNames qu_stepCounts qu_steps qu_joinFrom qu_joinTo fu_segments x_5 fu_paths fu_places fu_joins au_followers_9) := by rw [eau_followers_9]; exact hD
      refine lv_aload_n hx hb d_Gr_addLink_42 rfl (lv_at hl 0 rfl) ?_
      refine va_get (D := (dC, dI)) (ci := 5) (v := .ref qu_followers) (C := R_Gr) (T := T_Gr) (N := 15) hx hb hts in_Gr hown hK hP 0 rfl rfl 9 (by decide) (hts _ w_15) (fun _ h9 => h9) rfl d_Gr_addLink_43 ?_
      refine lv_iload_n hx hb d_Gr_addLink_46 rfl (lv_at hl 2 rfl) ?_
      refine call_SN_i (As := [.int p2]) (rest := [.ref qu_followers]) C0 hP hD hS [] [0, 1] [0, 1] [(qu, .inr (5, [.int fu_segments, .int x_5, .int fu_paths, .int fu_places, .int fu_joins, .ref qu_segmentNames, .ref qu_sideStarts, .ref qu_placeBases, .ref qu_placeSides, .ref qu_followers, .ref qu_pathNames, .ref qu_stepCounts, .ref qu_steps, .ref qu_joinFrom, .ref qu_joinTo])), (qu_followers, .inl (cI, 16, .inl au_followers_9))] (fun (v : Unit) (b : Unit) => (W_Gr_addLink cI cC cB qu qu_followers qu_segmentNames qu_sideStarts qu_placeBases qu_placeSides qu_pathNames qu_stepCounts qu_steps qu_joinFrom qu_joinTo fu_segments x_5 fu_paths fu_places fu_joins au_followers_9)) (k_X_turned l dC dI cI cC cB _ p2 h) (host := R_X) (List.mem_of_getElem? (i := 7) rfl) w_32 w_33 w_30 1 rfl (by decide +kernel) rfl rfl ⟨Nat.le_of_ble_eq_true rfl, Nat.le_of_ble_eq_true rfl⟩ rfl rfl (by decide) (by decide) (by decide) (by decide) (fun _ _ => rfl) hl.1 rfl (Nat.le_of_ble_eq_true rfl) d_Gr_addLink_47 ⟨Nat.le_of_ble_eq_true rfl, Nat.le_of_ble_eq_true rfl⟩ (fun r_11 v_10 _ H locs h hP hD hS => ?_)
      have hP : va_P (dC, dI) cls (W_Gr_addLink cI cC cB qu qu_followers qu_segmentNames qu_sideStarts qu_placeBases qu_placeSides qu_pathNames qu_stepCounts qu_steps qu_joinFrom qu_joinTo fu_segments x_5 fu_paths fu_places fu_joins au_followers_9) H := hP
      have hD : va_D A (W_Gr_addLink cI cC cB qu qu_followers qu_segmentNames qu_sideStarts qu_placeBases qu_placeSides qu_pathNames qu_stepCounts qu_steps qu_joinFrom qu_joinTo fu_segments x_5 fu_paths fu_places fu_joins au_followers_9) := hD
      refine lv_dup2_11 hx hb d_Gr_addLink_50 rfl rfl ?_
      have hi_12 := h.1
      have h := h.2
      refine va_iald hx hb hK hP 1 0 rfl rfl hi_12 d_Gr_addLink_51 ?_
      refine lv_topi (fun y_13 ey_13 => ?_)
      have h := h y_13 ey_13
      refine lv_iconst (v := 1) hx hb d_Gr_addLink_52 (by decide) ?_
      refine lv_iload_n hx hb d_Gr_addLink_53 rfl (lv_at hl 1 rfl) ?_
      refine call_SN_i (As := [.int p1]) (rest := [.int 1, .int y_13, .int r_11, .ref qu_followers]) C0 hP hD hS [] [0, 1] [0, 1] [(qu, .inr (5, [.int fu_segments, .int x_5, .int fu_paths, .int fu_places, .int fu_joins, .ref qu_segmentNames, .ref qu_sideStarts, .ref qu_placeBases, .ref qu_placeSides, .ref qu_followers, .ref qu_pathNames, .ref qu_stepCounts, .ref qu_steps, .ref qu_joinFrom, .ref qu_joinTo])), (qu_followers, .inl (cI, 16, .inl au_followers_9))] (fun (v : Unit) (b : Unit) => (W_Gr_addLink cI cC cB qu qu_followers qu_segmentNames qu_sideStarts qu_placeBases qu_placeSides qu_pathNames qu_stepCounts qu_steps qu_joinFrom qu_joinTo fu_segments x_5 fu_paths fu_places fu_joins au_followers_9)) (k_X_turned l dC dI cI cC cB _ p1 h) (host := R_X) (List.mem_of_getElem? (i := 7) rfl) w_32 w_33 w_30 1 rfl (by decide +kernel) rfl rfl ⟨Nat.le_of_ble_eq_true rfl, Nat.le_of_ble_eq_true rfl⟩ rfl rfl (by decide) (by decide) (by decide) (by decide) (fun _ _ => rfl) hl.1 rfl (Nat.le_of_ble_eq_true rfl) d_Gr_addLink_54 ⟨Nat.le_of_ble_eq_true rfl, Nat.le_of_ble_eq_true rfl⟩ (fun r_15 v_14 _ H locs h hP hD hS => ?_)
      have hP : va_P (dC, dI) cls (W_Gr_addLink cI cC cB qu qu_followers qu_segmentNames qu_sideStarts qu_placeBases qu_placeSides qu_pathNames qu_stepCounts qu_steps qu_joinFrom qu_joinTo fu_segments x_5 fu_paths fu_places fu_joins au_followers_9) H := hP
      have hD : va_D A (W_Gr_addLink cI cC cB qu qu_followers qu_segmentNames qu_sideStarts qu_placeBases qu_placeSides qu_pathNames qu_stepCounts qu_steps qu_joinFrom qu_joinTo fu_segments x_5 fu_paths fu_places fu_joins au_followers_9) := hD
      refine lv_ishl hx hb d_Gr_addLink_57 ?_
      refine lv_ior hx hb d_Gr_addLink_58 ?_
      refine lv_topi (fun x_16 ex_16 => ?_)
      have h := h x_16 ex_16
      have hi_17 := h.1
      have h := h.2
      refine va_iast hx hb hK hP hD hS 1 0 rfl rfl hi_17 d_Gr_addLink_59 (fun H locs hP hD hS => ?_)
      obtain ⟨au_followers_18, eau_followers_18⟩ : ∃ z : Nat → Int32, z = upd au_followers_9 r_11.toNatClampNeg x_16 := ⟨_, rfl⟩
      have h := h au_followers_18 eau_followers_18
      have hP : va_P (dC, dI) cls (W_Gr_addLink cI cC cB qu qu_followers qu_segmentNames qu_sideStarts qu_placeBases qu_placeSides qu_pathNames qu_stepCounts qu_steps qu_joinFrom qu_joinTo fu_segments x_5 fu_paths fu_places fu_joins au_followers_18) H := by rw [eau_followers_18]; exact hP
      have hD : va_D A (W_Gr_addLink cI cC cB qu qu_followers qu_segmentNames qu_sideStarts qu_placeBases qu_placeSides qu_pathNames qu_stepCounts qu_steps qu_joinFrom qu_joinTo fu_segments x_5 fu_paths fu_places fu_joins au_followers_18) := by rw [eau_followers_18]; exact hD
      refine lv_iconst (v := 1) hx hb d_Gr_addLink_60 (by decide) ?_
      exact hret (x_5, au_followers_18) () 1 _ _ _ _ rfl h hP hD hS d_Gr_addLink_61
    · have h := h.2 c_4
      refine lv_iconst (v := 0) hx hb d_Gr_addLink_18 (by decide) ?_
      exact hret (fu_links, au_followers) () 0 _ _ _ _ rfl h hP hD hS d_Gr_addLink_19
