abbrev W_Gr_join (cI cC cB : ClassId) (qu : Nat) (qu_joinFrom : Nat) (qu_joinTo : Nat) (qu_segmentNames : Nat) (qu_sideStarts : Nat) (qu_placeBases : Nat) (qu_placeSides : Nat) (qu_followers : Nat) (qu_pathNames : Nat) (qu_stepCounts : Nat) (qu_steps : Nat) (fu_segments : Int32) (fu_links : Int32) (fu_paths : Int32) (fu_places : Int32) (fu_joins : Int32) (au_joinFrom : Nat → Int32) (au_joinTo : Nat → Int32) : va_W := [(qu, .inr (5, [.int fu_segments, .int fu_links, .int fu_paths, .int fu_places, .int fu_joins, .ref qu_segmentNames, .ref qu_sideStarts, .ref qu_placeBases, .ref qu_placeSides, .ref qu_followers, .ref qu_pathNames, .ref qu_stepCounts, .ref qu_steps, .ref qu_joinFrom, .ref qu_joinTo])), (qu_joinFrom, .inl (cI, 72, .inl au_joinFrom)), (qu_joinTo, .inl (cI, 72, .inl au_joinTo))]
def wp_Gr_join (Q : (Int32 × (Nat → Int32) × (Nat → Int32)) → Prop) (p1 : Int32) (p2 : Int32) (fu_joins : Int32) (au_joinFrom : Nat → Int32) (au_joinTo : Nat → Int32) : Prop := ((72 ≤ fu_joins → (Q (fu_joins, au_joinFrom, au_joinTo))) ∧ (¬ 72 ≤ fu_joins → (vp_in fu_joins 72 ∧ (∀ au_joinFrom_3 : Nat → Int32, au_joinFrom_3 = upd au_joinFrom fu_joins.toNatClampNeg p1 → (vp_in fu_joins 72 ∧ (∀ au_joinTo_5 : Nat → Int32, au_joinTo_5 = upd au_joinTo fu_joins.toNatClampNeg p2 → (∀ x_6 : Int32, x_6 = fu_joins + 1 → (Q (x_6, au_joinFrom_3, au_joinTo_5)))))))))
abbrev rm_Gr_join : Room := { frames := 0, cells := 0, slots := 0, locals := 0 }
set_option maxHeartbeats 4000000 in
set_option maxRecDepth 100000 in
theorem k_Gr_join (l : Launch) (dC : Nat → ClassId) (dI : Nat → Nat → Nat) (cI cC cB : ClassId) (sz : Nat) (qu : Nat) (qu_joinFrom : Nat) (qu_joinTo : Nat) (qu_segmentNames : Nat) (qu_sideStarts : Nat) (qu_placeBases : Nat) (qu_placeSides : Nat) (qu_followers : Nat) (qu_pathNames : Nat) (qu_stepCounts : Nat) (qu_steps : Nat) (fu_segments : Int32) (fu_links : Int32) (fu_paths : Int32) (fu_places : Int32) (fu_joins : Int32) (au_joinFrom : Nat → Int32) (au_joinTo : Nat → Int32) (p1 : Int32) (p2 : Int32) {Q : (Int32 × (Nat → Int32) × (Nat → Int32)) → Prop} (h : wp_Gr_join Q p1 p2 fu_joins au_joinFrom au_joinTo) :
    CTv l y_Gr_join (wM y_Gr_join c_Gr_join 3 none) rm_Gr_join 0 0 (dC, dI) (tysL cI cC cB) [.ref qu, .int p1, .int p2] (W_Gr_join cI cC cB qu qu_joinFrom qu_joinTo qu_segmentNames qu_sideStarts qu_placeBases qu_placeSides qu_followers qu_pathNames qu_stepCounts qu_steps fu_segments fu_links fu_paths fu_places fu_joins au_joinFrom au_joinTo) sz Q (fun (v : Int32 × (Nat → Int32) × (Nat → Int32)) (b : Unit) => (W_Gr_join cI cC cB qu qu_joinFrom qu_joinTo qu_segmentNames qu_sideStarts qu_placeBases qu_placeSides qu_followers qu_pathNames qu_stepCounts qu_steps fu_segments fu_links fu_paths fu_places v.1 v.2.1 v.2.2)) := by
  refine CTv.std (by decide) (Nat.le_of_ble_eq_true rfl) ?_
  intro p e s m args below meth c A ls QF C0 hP hD hl hS hsz hnm hret
  obtain ⟨hx, hb, hr, hml, hown, hts, hlocks, hN, hA, hK⟩ := id C0
  have hown : s.vm.findClass R_Gr = some m.cls := hown
  have hl : lv_has ls 3 [(0, .ref qu), (1, .int p1), (2, .int p2)] := hl
  clear hsz hnm
  unfold wp_Gr_join at h
  refine lv_aload_n hx hb d_Gr_join_0 rfl (lv_at hl 0 rfl) ?_
  refine va_get (D := (dC, dI)) (ci := 5) (v := .int fu_joins) (C := R_Gr) (T := T_Gr) (N := 15) hx hb hts in_Gr hown hK hP 0 rfl rfl 4 (by decide) (hts _ w_14) (fun _ h9 => h9) rfl d_Gr_join_1 ?_
  refine lv_bipush (v := 72) hx hb d_Gr_join_4 (by decide) ?_
  refine lv_icmp_ge (tgt := 39) hx hb d_Gr_join_6 (by decide) (fun c_1 => ?_) (fun c_1 => ?_)
  · have h := h.1 c_1
    exact hret (fu_joins, au_joinFrom, au_joinTo) () _ _ _ _ h hP hD hS d_Gr_join_39
  · have h := h.2 c_1
    refine lv_aload_n hx hb d_Gr_join_9 rfl (lv_at hl 0 rfl) ?_
    refine va_get (D := (dC, dI)) (ci := 5) (v := .ref qu_joinFrom) (C := R_Gr) (T := T_Gr) (N := 15) hx hb hts in_Gr hown hK hP 0 rfl rfl 13 (by decide) (hts _ w_109) (fun _ h9 => h9) rfl d_Gr_join_10 ?_
    refine lv_aload_n hx hb d_Gr_join_13 rfl (lv_at hl 0 rfl) ?_
    refine va_get (D := (dC, dI)) (ci := 5) (v := .int fu_joins) (C := R_Gr) (T := T_Gr) (N := 15) hx hb hts in_Gr hown hK hP 0 rfl rfl 4 (by decide) (hts _ w_14) (fun _ h9 => h9) rfl d_Gr_join_14 ?_
    refine lv_iload_n hx hb d_Gr_join_17 rfl (lv_at hl 1 rfl) ?_
    have hi_2 := h.1
    have h := h.2
    refine va_iast hx hb hK hP hD hS 1 0 rfl rfl hi_2 d_Gr_join_18 (fun H locs hP hD hS => ?_)
    obtain ⟨au_joinFrom_3, eau_joinFrom_3⟩ : ∃ z : Nat → Int32, z = upd au_joinFrom fu_joins.toNatClampNeg p1 := ⟨_, rfl⟩
    have h := h au_joinFrom_3 eau_joinFrom_3
    have hP : va_P (dC, dI) cls (W_Gr_join cI cC cB qu qu_joinFrom qu_joinTo qu_segmentNames qu_sideStarts qu_placeBases qu_placeSides qu_followers qu_pathNames qu_stepCounts qu_steps fu_segments fu_links fu_paths fu_places fu_joins au_joinFrom_3 au_joinTo) H := by rw [eau_joinFrom_3]; exact hP
    have hD : va_D A (W_Gr_join cI cC cB qu qu_joinFrom qu_joinTo qu_segmentNames qu_sideStarts qu_placeBases qu_placeSides qu_followers qu_pathNames qu_stepCounts qu_steps fu_segments fu_links fu_paths fu_places fu_joins au_joinFrom_3 au_joinTo) := by rw [eau_joinFrom_3]; exact hD
    refine lv_aload_n hx hb d_Gr_join_19 rfl (lv_at hl 0 rfl) ?_
    refine va_get (D := (dC, dI)) (ci := 5) (v := .ref qu_joinTo) (C := R_Gr) (T := T_Gr) (N := 15) hx hb hts in_Gr hown hK hP 0 rfl rfl 14 (by decide) (hts _ w_110) (fun _ h9 => h9) rfl d_Gr_join_20 ?_
    refine lv_aload_n hx hb d_Gr_join_23 rfl (lv_at hl 0 rfl) ?_
    refine va_get (D := (dC, dI)) (ci := 5) (v := .int fu_joins) (C := R_Gr) (T := T_Gr) (N := 15) hx hb hts in_Gr hown hK hP 0 rfl rfl 4 (by decide) (hts _ w_14) (fun _ h9 => h9) rfl d_Gr_join_24 ?_
    refine lv_iload_n hx hb d_Gr_join_27 rfl (lv_at hl 2 rfl) ?_
    have hi_4 := h.1
    have h := h.2
    refine va_iast hx hb hK hP hD hS 2 0 rfl rfl hi_4 d_Gr_join_28 (fun H locs hP hD hS => ?_)
    obtain ⟨au_joinTo_5, eau_joinTo_5⟩ : ∃ z : Nat → Int32, z = upd au_joinTo fu_joins.toNatClampNeg p2 := ⟨_, rfl⟩
    have h := h au_joinTo_5 eau_joinTo_5
    have hP : va_P (dC, dI) cls (W_Gr_join cI cC cB qu qu_joinFrom qu_joinTo qu_segmentNames qu_sideStarts qu_placeBases qu_placeSides qu_followers qu_pathNames qu_stepCounts qu_steps fu_segments fu_links fu_paths fu_places fu_joins au_joinFrom_3 au_joinTo_5) H := by rw [eau_joinTo_5]; exact hP
    have hD : va_D A (W_Gr_join cI cC cB qu qu_joinFrom qu_joinTo qu_segmentNames qu_sideStarts qu_placeBases qu_placeSides qu_followers qu_pathNames qu_stepCounts qu_steps fu_segments fu_links fu_paths fu_places fu_joins au_joinFrom_3 au_joinTo_5) := by rw [eau_joinTo_5]; exact hD
    refine lv_aload_n hx hb d_Gr_join_29 rfl (lv_at hl 0 rfl) ?_
    refine lv_dup hx hb d_Gr_join_30 rfl ?_
    refine va_get (D := (dC, dI)) (ci := 5) (v := .int fu_joins) (C := R_Gr) (T := T_Gr) (N := 15) hx hb hts in_Gr hown hK hP 0 rfl rfl 4 (by decide) (hts _ w_14) (fun _ h9 => h9) rfl d_Gr_join_31 ?_
    refine lv_iconst (v := 1) hx hb d_Gr_join_34 (by decide) ?_
    refine lv_iadd hx hb d_Gr_join_35 ?_
    refine lv_topi (fun x_6 ex_6 => ?_)
    have h := h x_6 ex_6
    refine va_put (D := (dC, dI)) (ci := 5) (v := .int x_6) (ty := .int) (C := R_Gr) (T := T_Gr) (N := 15) hx hb hts in_Gr t_Gr t_Gr_ok n_Gr hown hK hP hD hS 0 rfl rfl 4 (by decide) (hts _ w_14) (fun _ h9 => h9) rfl (by decide +kernel) rfl rfl (Nat.le_of_ble_eq_true rfl) d_Gr_join_36 (fun H locs hP hD hS => ?_)
    have hP : va_P (dC, dI) cls (W_Gr_join cI cC cB qu qu_joinFrom qu_joinTo qu_segmentNames qu_sideStarts qu_placeBases qu_placeSides qu_followers qu_pathNames qu_stepCounts qu_steps fu_segments fu_links fu_paths fu_places x_6 au_joinFrom_3 au_joinTo_5) H := hP
    have hD : va_D A (W_Gr_join cI cC cB qu qu_joinFrom qu_joinTo qu_segmentNames qu_sideStarts qu_placeBases qu_placeSides qu_followers qu_pathNames qu_stepCounts qu_steps fu_segments fu_links fu_paths fu_places x_6 au_joinFrom_3 au_joinTo_5) := hD
    exact hret (x_6, au_joinFrom_3, au_joinTo_5) () _ _ _ _ h hP hD hS d_Gr_join_39
abbrev W_Gr_firstPlace (cI cC cB : ClassId) (qu : Nat) (qu_sideStarts : Nat) (qu_segmentNames : Nat) (qu_placeBases : Nat) (qu_placeSides : Nat) (qu_followers : Nat) (qu_pathNames : Nat) (qu_stepCounts : Nat) (qu_steps : Nat) (qu_joinFrom : Nat) (qu_joinTo : Nat) (fu_segments : Int32) (fu_links : Int32) (fu_paths : Int32) (fu_places : Int32) (fu_joins : Int32) (au_sideStarts : Nat → Int32) : va_W := [(qu, .inr (5, [.int fu_segments, .int fu_links, .int fu_paths, .int fu_places, .int fu_joins, .ref qu_segmentNames, .ref qu_sideStarts, .ref qu_placeBases, .ref qu_placeSides, .ref qu_followers, .ref qu_pathNames, .ref qu_stepCounts, .ref qu_steps, .ref qu_joinFrom, .ref qu_joinTo])), (qu_sideStarts, .inl (cI, 16, .inl au_sideStarts))]
def wp_Gr_firstPlace (Q : Int32 → Unit → Prop) (p1 : Int32) (au_sideStarts : Nat → Int32) : Prop := vp_in p1 16 ∧ (∀ y_2 : Int32, y_2 = au_sideStarts p1.toNatClampNeg → (Q y_2 ()))
abbrev rm_Gr_firstPlace : Room := { frames := 0, cells := 0, slots := 0, locals := 0 }
set_option maxHeartbeats 4000000 in
set_option maxRecDepth 100000 in
theorem k_Gr_firstPlace (l : Launch) (dC : Nat → ClassId) (dI : Nat → Nat → Nat) (cI cC cB : ClassId) (sz : Nat) (qu : Nat) (qu_sideStarts : Nat) (qu_segmentNames : Nat) (qu_placeBases : Nat) (qu_placeSides : Nat) (qu_followers : Nat) (qu_pathNames : Nat) (qu_stepCounts : Nat) (qu_steps : Nat) (qu_joinFrom : Nat) (qu_joinTo : Nat) (fu_segments : Int32) (fu_links : Int32) (fu_paths : Int32) (fu_places : Int32) (fu_joins : Int32) (au_sideStarts : Nat → Int32) (p1 : Int32) {Q : Int32 → Unit → Prop} (h : wp_Gr_firstPlace Q p1 au_sideStarts) :
    CTi l y_Gr_firstPlace (wM y_Gr_firstPlace c_Gr_firstPlace 2 (some .int)) rm_Gr_firstPlace 0 0 (dC, dI) (tysL cI cC cB) [.ref qu, .int p1] (W_Gr_firstPlace cI cC cB qu qu_sideStarts qu_segmentNames qu_placeBases qu_placeSides qu_followers qu_pathNames qu_stepCounts qu_steps qu_joinFrom qu_joinTo fu_segments fu_links fu_paths fu_places fu_joins au_sideStarts) sz Q (fun (v : Unit) (b : Unit) => (W_Gr_firstPlace cI cC cB qu qu_sideStarts qu_segmentNames qu_placeBases qu_placeSides qu_followers qu_pathNames qu_stepCounts qu_steps qu_joinFrom qu_joinTo fu_segments fu_links fu_paths fu_places fu_joins au_sideStarts)) := by
  refine CTi.std (by decide) (Nat.le_of_ble_eq_true rfl) ?_
  intro p e s m args below meth c A ls QF C0 hP hD hl hS hsz hnm hret
  obtain ⟨hx, hb, hr, hml, hown, hts, hlocks, hN, hA, hK⟩ := id C0
  have hown : s.vm.findClass R_Gr = some m.cls := hown
  have hl : lv_has ls 2 [(0, .ref qu), (1, .int p1)] := hl
  clear hsz hnm
  unfold wp_Gr_firstPlace at h
  refine lv_aload_n hx hb d_Gr_firstPlace_0 rfl (lv_at hl 0 rfl) ?_
  refine va_get (D := (dC, dI)) (ci := 5) (v := .ref qu_sideStarts) (C := R_Gr) (T := T_Gr) (N := 15) hx hb hts in_Gr hown hK hP 0 rfl rfl 6 (by decide) (hts _ w_88) (fun _ h9 => h9) rfl d_Gr_firstPlace_1 ?_
  refine lv_iload_n hx hb d_Gr_firstPlace_4 rfl (lv_at hl 1 rfl) ?_
  have hi_1 := h.1
  have h := h.2
  refine va_iald hx hb hK hP 1 0 rfl rfl hi_1 d_Gr_firstPlace_5 ?_
  refine lv_topi (fun y_2 ey_2 => ?_)
  have h := h y_2 ey_2
  exact hret () () y_2 _ _ _ _ rfl h hP hD hS d_Gr_firstPlace_6
abbrev W_Gr_joinToFollowers (cI cC cB : ClassId) (qu : Nat) (qu_sideStarts : Nat) (qu_followers : Nat) (qu_joinFrom : Nat) (qu_joinTo : Nat) (qu_segmentNames : Nat) (qu_placeBases : Nat) (qu_placeSides : Nat) (qu_pathNames : Nat) (qu_stepCounts : Nat) (qu_steps : Nat) (fu_segments : Int32) (fu_links : Int32) (fu_paths : Int32) (fu_places : Int32) (fu_joins : Int32) (au_sideStarts : Nat → Int32) (au_followers : Nat → Int32) (au_joinFrom : Nat → Int32) (au_joinTo : Nat → Int32) : va_W := [(qu, .inr (5, [.int fu_segments, .int fu_links, .int fu_paths, .int fu_places, .int fu_joins, .ref qu_segmentNames, .ref qu_sideStarts, .ref qu_placeBases, .ref qu_placeSides, .ref qu_followers, .ref qu_pathNames, .ref qu_stepCounts, .ref qu_steps, .ref qu_joinFrom, .ref qu_joinTo])), (qu_sideStarts, .inl (cI, 16, .inl au_sideStarts)), (qu_followers, .inl (cI, 16, .inl au_followers)), (qu_joinFrom, .inl (cI, 72, .inl au_joinFrom)), (qu_joinTo, .inl (cI, 72, .inl au_joinTo))]
def w_Gr_joinToFollowers_31 (Q : (Int32 × (Nat → Int32) × (Nat → Int32)) → Prop) (K_2 : Int32 → Int32 → (Nat → Int32) → (Nat → Int32) → Prop) (p1 : Int32) (p2 : Int32) (fu_segments : Int32) (au_sideStarts : Nat → Int32) (au_followers : Nat → Int32) (x3 : Int32) (fu_joins : Int32) (au_joinFrom : Nat → Int32) (au_joinTo : Nat → Int32) : Prop := ∀ x3_1 : Int32, x3_1 = x3 + 1 → (K_2 x3_1 fu_joins au_joinFrom au_joinTo)
def w_Gr_joinToFollowers_2B (Q : (Int32 × (Nat → Int32) × (Nat → Int32)) → Prop)  (K_2 : Int32 → Int32 → (Nat → Int32) → (Nat → Int32) → Prop) (p1 : Int32) (p2 : Int32) (fu_segments : Int32) (au_sideStarts : Nat → Int32) (au_followers : Nat → Int32) (x3 : Int32) (fu_joins : Int32) (au_joinFrom : Nat → Int32) (au_joinTo : Nat → Int32) : Prop := ∀ x_2 : Int32, x_2 = 2 * fu_segments → (((x_2 ≤ x3 → (Q (fu_joins, au_joinFrom, au_joinTo))) ∧ (¬ x_2 ≤ x3 → (wp_Gr_mayFollow (fun r_5 v_4 => ((r_5 = 0 → (w_Gr_joinToFollowers_31 Q K_2 p1 p2 fu_segments au_sideStarts au_followers x3 fu_joins au_joinFrom au_joinTo)) ∧ (¬ r_5 = 0 → (wp_Gr_firstPlace (fun r_8 v_7 => wp_Gr_join (fun v_9 => w_Gr_joinToFollowers_31 Q K_2 p1 p2 fu_segments au_sideStarts au_followers x3 v_9.1 v_9.2.1 v_9.2.2) p1 r_8 fu_joins au_joinFrom au_joinTo) x3 au_sideStarts)))) p2 x3 au_followers))))
def w_Gr_joinToFollowers_2 (Q : (Int32 × (Nat → Int32) × (Nat → Int32)) → Prop)  (p1 : Int32) (p2 : Int32) (fu_segments : Int32) (au_sideStarts : Nat → Int32) (au_followers : Nat → Int32) : Nat → Int32 → Int32 → (Nat → Int32) → (Nat → Int32) → Prop
  | 0 => fun _ _ _ _ => False
  | n + 1 => fun x3 fu_joins au_joinFrom au_joinTo => w_Gr_joinToFollowers_2B Q  (w_Gr_joinToFollowers_2 Q  p1 p2 fu_segments au_sideStarts au_followers n) p1 p2 fu_segments au_sideStarts au_followers x3 fu_joins au_joinFrom au_joinTo
def wp_Gr_joinToFollowers (Q : (Int32 × (Nat → Int32) × (Nat → Int32)) → Prop) (p1 : Int32) (p2 : Int32) (fu_segments : Int32) (fu_joins : Int32) (au_sideStarts : Nat → Int32) (au_followers : Nat → Int32) (au_joinFrom : Nat → Int32) (au_joinTo : Nat → Int32) : Prop := ∃ fu_2 : Nat, w_Gr_joinToFollowers_2 Q p1 p2 fu_segments au_sideStarts au_followers fu_2 0 fu_joins au_joinFrom au_joinTo
abbrev rm_Gr_joinToFollowers : Room := { frames := 1, cells := 0, slots := 0, locals := 22 }
set_option maxHeartbeats 4000000 in
set_option maxRecDepth 100000 in
theorem k_Gr_joinToFollowers (l : Launch) (dC : Nat → ClassId) (dI : Nat → Nat → Nat) (cI cC cB : ClassId) (sz : Nat) (qu : Nat) (qu_sideStarts : Nat) (qu_followers : Nat) (qu_joinFrom : Nat) (qu_joinTo : Nat) (qu_segmentNames : Nat) (qu_placeBases : Nat) (qu_placeSides : Nat) (qu_pathNames : Nat) (qu_stepCounts : Nat) (qu_steps : Nat) (fu_segments : Int32) (fu_links : Int32) (fu_paths : Int32) (fu_places : Int32) (fu_joins : Int32) (au_sideStarts : Nat → Int32) (au_followers : Nat → Int32) (au_joinFrom : Nat → Int32) (au_joinTo : Nat → Int32) (p1 : Int32) (p2 : Int32) {Q : (Int32 × (Nat → Int32) × (Nat → Int32)) → Prop} (h : wp_Gr_joinToFollowers Q p1 p2 fu_segments fu_joins au_sideStarts au_followers au_joinFrom au_joinTo) :
    CTv l y_Gr_joinToFollowers (wM y_Gr_joinToFollowers c_Gr_joinToFollowers 4 none) rm_Gr_joinToFollowers 0 0 (dC, dI) (tysL cI cC cB) [.ref qu, .int p1, .int p2] (W_Gr_joinToFollowers cI cC cB qu qu_sideStarts qu_followers qu_joinFrom qu_joinTo qu_segmentNames qu_placeBases qu_placeSides qu_pathNames qu_stepCounts qu_steps fu_segments fu_links fu_paths fu_places fu_joins au_sideStarts au_followers au_joinFrom au_joinTo) sz Q (fun (v : Int32 × (Nat → Int32) × (Nat → Int32)) (b : Unit) => (W_Gr_joinToFollowers cI cC cB qu qu_sideStarts qu_followers qu_joinFrom qu_joinTo qu_segmentNames qu_placeBases qu_placeSides qu_pathNames qu_stepCounts qu_steps fu_segments fu_links fu_paths fu_places v.1 au_sideStarts au_followers v.2.1 v.2.2)) := by
  refine CTv.std (by decide) (Nat.le_of_ble_eq_true rfl) ?_
  intro p e s m args below meth c A ls QF C0 hP hD hl hS hsz hnm hret
  obtain ⟨hx, hb, hr, hml, hown, hts, hlocks, hN, hA, hK⟩ := id C0
  have hown : s.vm.findClass R_Gr = some m.cls := hown
  have hl : lv_has ls 4 [(0, .ref qu), (1, .int p1), (2, .int p2)] := hl
  clear hsz hnm
  have blk_31 : ∀ (K_2 : Int32 → Int32 → (Nat → Int32) → (Nat → Int32) → Prop) (hK_2 : ∀ (x3 : Int32) (fu_joins : Int32) (au_joinFrom : Nat → Int32) (au_joinTo : Nat → Int32)  (H : Heap) (locs : List Loc) (ls : Array Slot), K_2 x3 fu_joins au_joinFrom au_joinTo → va_P (dC, dI) cls (W_Gr_joinToFollowers cI cC cB qu qu_sideStarts qu_followers qu_joinFrom qu_joinTo qu_segmentNames qu_placeBases qu_placeSides qu_pathNames qu_stepCounts qu_steps fu_segments fu_links fu_paths fu_places fu_joins au_sideStarts au_followers au_joinFrom au_joinTo) H → va_D A (W_Gr_joinToFollowers cI cC cB qu qu_sideStarts qu_followers qu_joinFrom qu_joinTo qu_segmentNames qu_placeBases qu_placeSides qu_pathNames qu_stepCounts qu_steps fu_segments fu_links fu_paths fu_places fu_joins au_sideStarts au_followers au_joinFrom au_joinTo) → va_S A s.heap H locs → lv_has ls 4 [(0, .ref qu), (1, .int p1), (2, .int p2), (3, .int x3)] → W p l e rm_Gr_joinToFollowers s m args below meth c H locs 0 0 QF (F0 m 2 ls [])) (x3 : Int32) (fu_joins : Int32) (au_joinFrom : Nat → Int32) (au_joinTo : Nat → Int32)  (H : Heap) (locs : List Loc) (ls : Array Slot), w_Gr_joinToFollowers_31 Q K_2 p1 p2 fu_segments au_sideStarts au_followers x3 fu_joins au_joinFrom au_joinTo → va_P (dC, dI) cls (W_Gr_joinToFollowers cI cC cB qu qu_sideStarts qu_followers qu_joinFrom qu_joinTo qu_segmentNames qu_placeBases qu_placeSides qu_pathNames qu_stepCounts qu_steps fu_segments fu_links fu_paths fu_places fu_joins au_sideStarts au_followers au_joinFrom au_joinTo) H → va_D A (W_Gr_joinToFollowers cI cC cB qu qu_sideStarts qu_followers qu_joinFrom qu_joinTo qu_segmentNames qu_placeBases qu_placeSides qu_pathNames qu_stepCounts qu_steps fu_segments fu_links fu_paths fu_places fu_joins au_sideStarts au_followers au_joinFrom au_joinTo) → va_S A s.heap H locs → lv_has ls 4 [(0, .ref qu), (1, .int p1), (2, .int p2), (3, .int x3)] → W p l e rm_Gr_joinToFollowers s m args below meth c H locs 0 0 QF (F0 m 31 ls []) := by
    intro K_2 hK_2 x3 fu_joins au_joinFrom au_joinTo  H locs ls h hP hD hS hl
    unfold w_Gr_joinToFollowers_31 at h
    obtain ⟨x3_1, ex3_1⟩ : ∃ y : Int32, y = x3 + 1 := ⟨_, rfl⟩
    have h := h x3_1 ex3_1
    refine lv_iinc (v := x3_1) (lv' := [(3, .int x3_1), (0, .ref qu), (1, .int p1), (2, .int p2)]) hx hb d_Gr_joinToFollowers_31 hl (k := 3) rfl (by rw [ex3_1]; rfl) (by decide) rfl (fun ls hl => ?_)
    refine lv_goto (tgt := 2) hx hb d_Gr_joinToFollowers_34 (by decide) ?_
    exact hK_2 _ _ _ _ _ _ _ h hP hD hS (lv_sub hl [1, 2, 3, 0] rfl)
  have blk_2 : ∀  (n : Nat) (x3 : Int32) (fu_joins : Int32) (au_joinFrom : Nat → Int32) (au_joinTo : Nat → Int32)  (H : Heap) (locs : List Loc) (ls : Array Slot), w_Gr_joinToFollowers_2 Q  p1 p2 fu_segments au_sideStarts au_followers n x3 fu_joins au_joinFrom au_joinTo → va_P (dC, dI) cls (W_Gr_joinToFollowers cI cC cB qu qu_sideStarts qu_followers qu_joinFrom qu_joinTo qu_segmentNames qu_placeBases qu_placeSides qu_pathNames qu_stepCounts qu_steps fu_segments fu_links fu_paths fu_places fu_joins au_sideStarts au_followers au_joinFrom au_joinTo) H → va_D A (W_Gr_joinToFollowers cI cC cB qu qu_sideStarts qu_followers qu_joinFrom qu_joinTo qu_segmentNames qu_placeBases qu_placeSides qu_pathNames qu_stepCounts qu_steps fu_segments fu_links fu_paths fu_places fu_joins au_sideStarts au_followers au_joinFrom au_joinTo) → va_S A s.heap H locs → lv_has ls 4 [(0, .ref qu), (1, .int p1), (2, .int p2), (3, .int x3)] → W p l e rm_Gr_joinToFollowers s m args below meth c H locs 0 0 QF (F0 m 2 ls []) := by
    intro  n
    induction n with
    | zero => intro x3 fu_joins au_joinFrom au_joinTo  H locs ls h; exact (show False from h).elim
    | succ n ih =>
      intro x3 fu_joins au_joinFrom au_joinTo  H locs ls h hP hD hS hl
      have h : w_Gr_joinToFollowers_2B Q  (w_Gr_joinToFollowers_2 Q  p1 p2 fu_segments au_sideStarts au_followers n) p1 p2 fu_segments au_sideStarts au_followers x3 fu_joins au_joinFrom au_joinTo := h
      generalize w_Gr_joinToFollowers_2 Q  p1 p2 fu_segments au_sideStarts au_followers n = K_2 at h ih
      unfold w_Gr_joinToFollowers_2B at h
      refine lv_iload_n hx hb d_Gr_joinToFollowers_2 rfl (lv_at hl 3 rfl) ?_
      refine lv_iconst (v := 2) hx hb d_Gr_joinToFollowers_3 (by decide) ?_
      refine lv_aload_n hx hb d_Gr_joinToFollowers_4 rfl (lv_at hl 0 rfl) ?_
      refine va_get (D := (dC, dI)) (ci := 5) (v := .int fu_segments) (C := R_Gr) (T := T_Gr) (N := 15) hx hb hts in_Gr hown hK hP 0 rfl rfl 0 (by decide) (hts _ w_10) (fun _ h9 => h9) rfl d_Gr_joinToFollowers_5 ?_
      refine lv_imul hx hb d_Gr_joinToFollowers_8 ?_
      refine lv_topi (fun x_2 ex_2 => ?_)
      have h := h x_2 ex_2
      refine lv_icmp_ge (tgt := 37) hx hb d_Gr_joinToFollowers_9 (by decide) (fun c_3 => ?_) (fun c_3 => ?_)
      · have h := h.1 c_3
        exact hret (fu_joins, au_joinFrom, au_joinTo) () _ _ _ _ h hP hD hS d_Gr_joinToFollowers_37
      · have h := h.2 c_3
        refine lv_aload_n hx hb d_Gr_joinToFollowers_12 rfl (lv_at hl 0 rfl) ?_
        refine lv_iload_n hx hb d_Gr_joinToFollowers_13 rfl (lv_at hl 2 rfl) ?_
        refine lv_iload_n hx hb d_Gr_joinToFollowers_14 rfl (lv_at hl 3 rfl) ?_
        refine call_V_i (As := [.int p2, .int x3]) (rest := []) C0 hP hD hS [0, 2] [1, 3, 4] [3, 0, 4, 1, 2] [(qu_sideStarts, .inl (cI, 16, .inl au_sideStarts)), (qu_joinFrom, .inl (cI, 72, .inl au_joinFrom)), (qu_joinTo, .inl (cI, 72, .inl au_joinTo))] (fun (v : Unit) (b : Unit) => (W_Gr_joinToFollowers cI cC cB qu qu_sideStarts qu_followers qu_joinFrom qu_joinTo qu_segmentNames qu_placeBases qu_placeSides qu_pathNames qu_stepCounts qu_steps fu_segments fu_links fu_paths fu_places fu_joins au_sideStarts au_followers au_joinFrom au_joinTo)) (ci := 5) rfl rfl (k_Gr_mayFollow l dC dI cI cC cB _ qu qu_followers qu_segmentNames qu_sideStarts qu_placeBases qu_placeSides qu_pathNames qu_stepCounts qu_steps qu_joinFrom qu_joinTo fu_segments fu_links fu_paths fu_places fu_joins au_followers p2 x3 h) (g_V w_52 w_53 w_54 w_40 w_51) 2 rfl (by decide +kernel) rfl rfl ⟨Nat.le_of_ble_eq_true rfl, Nat.le_of_ble_eq_true rfl⟩ rfl rfl (by decide) (by decide) (by decide) (by decide) (fun _ _ => rfl) hl.1 rfl (Nat.le_of_ble_eq_true rfl) d_Gr_joinToFollowers_15 ⟨Nat.le_of_ble_eq_true rfl, Nat.le_of_ble_eq_true rfl⟩ (fun r_5 v_4 _ H locs h hP hD hS => ?_)
        have hP : va_P (dC, dI) cls (W_Gr_joinToFollowers cI cC cB qu qu_sideStarts qu_followers qu_joinFrom qu_joinTo qu_segmentNames qu_placeBases qu_placeSides qu_pathNames qu_stepCounts qu_steps fu_segments fu_links fu_paths fu_places fu_joins au_sideStarts au_followers au_joinFrom au_joinTo) H := hP
        have hD : va_D A (W_Gr_joinToFollowers cI cC cB qu qu_sideStarts qu_followers qu_joinFrom qu_joinTo qu_segmentNames qu_placeBases qu_placeSides qu_pathNames qu_stepCounts qu_steps fu_segments fu_links fu_paths fu_places fu_joins au_sideStarts au_followers au_joinFrom au_joinTo) := hD
        refine lv_if_eq (tgt := 31) hx hb d_Gr_joinToFollowers_18 (by decide) (fun c_6 => ?_) (fun c_6 => ?_)
        · have h := h.1 c_6
          exact blk_31 _ ih _ _ _ _ _ _ _ h hP hD hS (lv_sub hl [0, 1, 2, 3] rfl)
        · have h := h.2 c_6
          refine lv_aload_n hx hb d_Gr_joinToFollowers_21 rfl (lv_at hl 0 rfl) ?_
          refine lv_iload_n hx hb d_Gr_joinToFollowers_22 rfl (lv_at hl 1 rfl) ?_
          refine lv_aload_n hx hb d_Gr_joinToFollowers_23 rfl (lv_at hl 0 rfl) ?_
          refine lv_iload_n hx hb d_Gr_joinToFollowers_24 rfl (lv_at hl 3 rfl) ?_
          refine call_V_i (As := [.int x3]) (rest := [.int p1, .ref qu]) C0 hP hD hS [0, 1] [2, 3, 4] [3, 4, 0, 1, 2] [(qu_followers, .inl (cI, 16, .inl au_followers)), (qu_joinFrom, .inl (cI, 72, .inl au_joinFrom)), (qu_joinTo, .inl (cI, 72, .inl au_joinTo))] (fun (v : Unit) (b : Unit) => (W_Gr_joinToFollowers cI cC cB qu qu_sideStarts qu_followers qu_joinFrom qu_joinTo qu_segmentNames qu_placeBases qu_placeSides qu_pathNames qu_stepCounts qu_steps fu_segments fu_links fu_paths fu_places fu_joins au_sideStarts au_followers au_joinFrom au_joinTo)) (ci := 5) rfl rfl (k_Gr_firstPlace l dC dI cI cC cB _ qu qu_sideStarts qu_segmentNames qu_placeBases qu_placeSides qu_followers qu_pathNames qu_stepCounts qu_steps qu_joinFrom qu_joinTo fu_segments fu_links fu_paths fu_places fu_joins au_sideStarts x3 h) (g_V w_116 w_117 w_118 w_40 w_115) 1 rfl (by decide +kernel) rfl rfl ⟨Nat.le_of_ble_eq_true rfl, Nat.le_of_ble_eq_true rfl⟩ rfl rfl (by decide) (by decide) (by decide) (by decide) (fun _ _ => rfl) hl.1 rfl (Nat.le_of_ble_eq_true rfl) d_Gr_joinToFollowers_25 ⟨Nat.le_of_ble_eq_true rfl, Nat.le_of_ble_eq_true rfl⟩ (fun r_8 v_7 _ H locs h hP hD hS => ?_)
          have hP : va_P (dC, dI) cls (W_Gr_joinToFollowers cI cC cB qu qu_sideStarts qu_followers qu_joinFrom qu_joinTo qu_segmentNames qu_placeBases qu_placeSides qu_pathNames qu_stepCounts qu_steps fu_segments fu_links fu_paths fu_places fu_joins au_sideStarts au_followers au_joinFrom au_joinTo) H := hP
          have hD : va_D A (W_Gr_joinToFollowers cI cC cB qu qu_sideStarts qu_followers qu_joinFrom qu_joinTo qu_segmentNames qu_placeBases qu_placeSides qu_pathNames qu_stepCounts qu_steps fu_segments fu_links fu_paths fu_places fu_joins au_sideStarts au_followers au_joinFrom au_joinTo) := hD
          refine call_V_v (As := [.int p1, .int r_8]) (rest := []) C0 hP hD hS [0, 3, 4] [1, 2] [2, 0, 1, 3, 4] [(qu_sideStarts, .inl (cI, 16, .inl au_sideStarts)), (qu_followers, .inl (cI, 16, .inl au_followers))] (fun (v : Int32 × (Nat → Int32) × (Nat → Int32)) (b : Unit) => (W_Gr_joinToFollowers cI cC cB qu qu_sideStarts qu_followers qu_joinFrom qu_joinTo qu_segmentNames qu_placeBases qu_placeSides qu_pathNames qu_stepCounts qu_steps fu_segments fu_links fu_paths fu_places v.1 au_sideStarts au_followers v.2.1 v.2.2)) (ci := 5) rfl rfl (k_Gr_join l dC dI cI cC cB _ qu qu_joinFrom qu_joinTo qu_segmentNames qu_sideStarts qu_placeBases qu_placeSides qu_followers qu_pathNames qu_stepCounts qu_steps fu_segments fu_links fu_paths fu_places fu_joins au_joinFrom au_joinTo p1 r_8 h) (g_V w_112 w_113 w_114 w_40 w_111) 2 rfl (by decide +kernel) rfl rfl ⟨Nat.le_of_ble_eq_true rfl, Nat.le_of_ble_eq_true rfl⟩ rfl rfl (by decide) (by decide) (by decide) (by decide) (fun _ _ => rfl) hl.1 rfl (Nat.le_of_ble_eq_true rfl) d_Gr_joinToFollowers_28 ⟨Nat.le_of_ble_eq_true rfl, Nat.le_of_ble_eq_true rfl⟩ (fun v_9 _ H locs h hP hD hS => ?_)
          have hP : va_P (dC, dI) cls (W_Gr_joinToFollowers cI cC cB qu qu_sideStarts qu_followers qu_joinFrom qu_joinTo qu_segmentNames qu_placeBases qu_placeSides qu_pathNames qu_stepCounts qu_steps fu_segments fu_links fu_paths fu_places v_9.1 au_sideStarts au_followers v_9.2.1 v_9.2.2) H := hP
          have hD : va_D A (W_Gr_joinToFollowers cI cC cB qu qu_sideStarts qu_followers qu_joinFrom qu_joinTo qu_segmentNames qu_placeBases qu_placeSides qu_pathNames qu_stepCounts qu_steps fu_segments fu_links fu_paths fu_places v_9.1 au_sideStarts au_followers v_9.2.1 v_9.2.2) := hD
          exact blk_31 _ ih _ _ _ _ _ _ _ h hP hD hS (lv_sub hl [0, 1, 2, 3] rfl)
  unfold wp_Gr_joinToFollowers at h
  refine lv_iconst (v := 0) hx hb d_Gr_joinToFollowers_0 (by decide) ?_
  refine lv_istore_n (lv' := [(3, .int 0), (0, .ref qu), (1, .int p1), (2, .int p2)]) hx hb d_Gr_joinToFollowers_1 rfl hl (by decide) rfl (fun ls hl => ?_)
  obtain ⟨fu_2, h⟩ := h
  exact blk_2  _ _ _ _ _ _ _ _ h hP hD hS (lv_sub hl [1, 2, 3, 0] rfl)
abbrev W_Gr_joinPlaces (cI cC cB : ClassId) (qu : Nat) (qu_sideStarts : Nat) (qu_placeSides : Nat) (qu_followers : Nat) (qu_joinFrom : Nat) (qu_joinTo : Nat) (qu_segmentNames : Nat) (qu_placeBases : Nat) (qu_pathNames : Nat) (qu_stepCounts : Nat) (qu_steps : Nat) (fu_segments : Int32) (fu_links : Int32) (fu_paths : Int32) (fu_places : Int32) (fu_joins : Int32) (au_sideStarts : Nat → Int32) (au_placeSides : Nat → Int32) (au_followers : Nat → Int32) (au_joinFrom : Nat → Int32) (au_joinTo : Nat → Int32) : va_W := [(qu, .inr (5, [.int fu_segments, .int fu_links, .int fu_paths, .int fu_places, .int fu_joins, .ref qu_segmentNames, .ref qu_sideStarts, .ref qu_placeBases, .ref qu_placeSides, .ref qu_followers, .ref qu_pathNames, .ref qu_stepCounts, .ref qu_steps, .ref qu_joinFrom, .ref qu_joinTo])), (qu_sideStarts, .inl (cI, 16, .inl au_sideStarts)), (qu_placeSides, .inl (cI, 64, .inl au_placeSides)), (qu_followers, .inl (cI, 16, .inl au_followers)), (qu_joinFrom, .inl (cI, 72, .inl au_joinFrom)), (qu_joinTo, .inl (cI, 72, .inl au_joinTo))]
def w_Gr_joinPlaces_43 (Q : (Int32 × (Nat → Int32) × (Nat → Int32)) → Prop) (K_2 : Int32 → Int32 → (Nat → Int32) → (Nat → Int32) → Prop) (fu_segments : Int32) (fu_places : Int32) (au_sideStarts : Nat → Int32) (au_placeSides : Nat → Int32) (au_followers : Nat → Int32) (x1 : Int32) (fu_joins : Int32) (au_joinFrom : Nat → Int32) (au_joinTo : Nat → Int32) : Prop := ∀ x1_1 : Int32, x1_1 = x1 + 1 → (K_2 x1_1 fu_joins au_joinFrom au_joinTo)
def w_Gr_joinPlaces_2B (Q : (Int32 × (Nat → Int32) × (Nat → Int32)) → Prop)  (K_2 : Int32 → Int32 → (Nat → Int32) → (Nat → Int32) → Prop) (fu_segments : Int32) (fu_places : Int32) (au_sideStarts : Nat → Int32) (au_placeSides : Nat → Int32) (au_followers : Nat → Int32) (x1 : Int32) (fu_joins : Int32) (au_joinFrom : Nat → Int32) (au_joinTo : Nat → Int32) : Prop := ((fu_places ≤ x1 → (Q (fu_joins, au_joinFrom, au_joinTo))) ∧ (¬ fu_places ≤ x1 → (vp_in x1 64 ∧ (∀ y_4 : Int32, y_4 = au_placeSides x1.toNatClampNeg → (wp_Gr_lastPlace (fun r_6 v_5 => ((r_6 ≤ x1 → (wp_Gr_joinToFollowers (fun v_8 => w_Gr_joinPlaces_43 Q K_2 fu_segments fu_places au_sideStarts au_placeSides au_followers x1 v_8.1 v_8.2.1 v_8.2.2) x1 y_4 fu_segments fu_joins au_sideStarts au_followers au_joinFrom au_joinTo)) ∧ (¬ r_6 ≤ x1 → (∀ x_10 : Int32, x_10 = x1 + 1 → (wp_Gr_join (fun v_11 => w_Gr_joinPlaces_43 Q K_2 fu_segments fu_places au_sideStarts au_placeSides au_followers x1 v_11.1 v_11.2.1 v_11.2.2) x1 x_10 fu_joins au_joinFrom au_joinTo))))) y_4 fu_segments fu_places au_sideStarts)))))
def w_Gr_joinPlaces_2 (Q : (Int32 × (Nat → Int32) × (Nat → Int32)) → Prop)  (fu_segments : Int32) (fu_places : Int32) (au_sideStarts : Nat → Int32) (au_placeSides : Nat → Int32) (au_followers : Nat → Int32) : Nat → Int32 → Int32 → (Nat → Int32) → (Nat → Int32) → Prop
  | 0 => fun _ _ _ _ => False
  | n + 1 => fun x1 fu_joins au_joinFrom au_joinTo => w_Gr_joinPlaces_2B Q  (w_Gr_joinPlaces_2 Q  fu_segments fu_places au_sideStarts au_placeSides au_followers n) fu_segments fu_places au_sideStarts au_placeSides au_followers x1 fu_joins au_joinFrom au_joinTo
def wp_Gr_joinPlaces (Q : (Int32 × (Nat → Int32) × (Nat → Int32)) → Prop)  (fu_segments : Int32) (fu_places : Int32) (fu_joins : Int32) (au_sideStarts : Nat → Int32) (au_placeSides : Nat → Int32) (au_followers : Nat → Int32) (au_joinFrom : Nat → Int32) (au_joinTo : Nat → Int32) : Prop := ∃ fu_2 : Nat, w_Gr_joinPlaces_2 Q fu_segments fu_places au_sideStarts au_placeSides au_followers fu_2 0 fu_joins au_joinFrom au_joinTo
abbrev rm_Gr_joinPlaces : Room := { frames := 2, cells := 0, slots := 0, locals := 45 }
set_option maxHeartbeats 4000000 in
set_option maxRecDepth 100000 in
theorem k_Gr_joinPlaces (l : Launch) (dC : Nat → ClassId) (dI : Nat → Nat → Nat) (cI cC cB : ClassId) (sz : Nat) (qu : Nat) (qu_sideStarts : Nat) (qu_placeSides : Nat) (qu_followers : Nat) (qu_joinFrom : Nat) (qu_joinTo : Nat) (qu_segmentNames : Nat) (qu_placeBases : Nat) (qu_pathNames : Nat) (qu_stepCounts : Nat) (qu_steps : Nat) (fu_segments : Int32) (fu_links : Int32) (fu_paths : Int32) (fu_places : Int32) (fu_joins : Int32) (au_sideStarts : Nat → Int32) (au_placeSides : Nat → Int32) (au_followers : Nat → Int32) (au_joinFrom : Nat → Int32) (au_joinTo : Nat → Int32)  {Q : (Int32 × (Nat → Int32) × (Nat → Int32)) → Prop} (h : wp_Gr_joinPlaces Q  fu_segments fu_places fu_joins au_sideStarts au_placeSides au_followers au_joinFrom au_joinTo) :
    CTv l y_Gr_joinPlaces (wM y_Gr_joinPlaces c_Gr_joinPlaces 3 none) rm_Gr_joinPlaces 0 0 (dC, dI) (tysL cI cC cB) [.ref qu] (W_Gr_joinPlaces cI cC cB qu qu_sideStarts qu_placeSides qu_followers qu_joinFrom qu_joinTo qu_segmentNames qu_placeBases qu_pathNames qu_stepCounts qu_steps fu_segments fu_links fu_paths fu_places fu_joins au_sideStarts au_placeSides au_followers au_joinFrom au_joinTo) sz Q (fun (v : Int32 × (Nat → Int32) × (Nat → Int32)) (b : Unit) => (W_Gr_joinPlaces cI cC cB qu qu_sideStarts qu_placeSides qu_followers qu_joinFrom qu_joinTo qu_segmentNames qu_placeBases qu_pathNames qu_stepCounts qu_steps fu_segments fu_links fu_paths fu_places v.1 au_sideStarts au_placeSides au_followers v.2.1 v.2.2)) := by
  refine CTv.std (by decide) (Nat.le_of_ble_eq_true rfl) ?_
  intro p e s m args below meth c A ls QF C0 hP hD hl hS hsz hnm hret
  obtain ⟨hx, hb, hr, hml, hown, hts, hlocks, hN, hA, hK⟩ := id C0
  have hown : s.vm.findClass R_Gr = some m.cls := hown
  have hl : lv_has ls 3 [(0, .ref qu)] := hl
  clear hsz hnm
  have blk_43 : ∀ (K_2 : Int32 → Int32 → (Nat → Int32) → (Nat → Int32) → Prop) (hK_2 : ∀ (x1 : Int32) (fu_joins : Int32) (au_joinFrom : Nat → Int32) (au_joinTo : Nat → Int32)  (H : Heap) (locs : List Loc) (ls : Array Slot), K_2 x1 fu_joins au_joinFrom au_joinTo → va_P (dC, dI) cls (W_Gr_joinPlaces cI cC cB qu qu_sideStarts qu_placeSides qu_followers qu_joinFrom qu_joinTo qu_segmentNames qu_placeBases qu_pathNames qu_stepCounts qu_steps fu_segments fu_links fu_paths fu_places fu_joins au_sideStarts au_placeSides au_followers au_joinFrom au_joinTo) H → va_D A (W_Gr_joinPlaces cI cC cB qu qu_sideStarts qu_placeSides qu_followers qu_joinFrom qu_joinTo qu_segmentNames qu_placeBases qu_pathNames qu_stepCounts qu_steps fu_segments fu_links fu_paths fu_places fu_joins au_sideStarts au_placeSides au_followers au_joinFrom au_joinTo) → va_S A s.heap H locs → lv_has ls 3 [(0, .ref qu), (1, .int x1)] → W p l e rm_Gr_joinPlaces s m args below meth c H locs 0 0 QF (F0 m 2 ls [])) (x1 : Int32) (fu_joins : Int32) (au_joinFrom : Nat → Int32) (au_joinTo : Nat → Int32)  (H : Heap) (locs : List Loc) (ls : Array Slot), w_Gr_joinPlaces_43 Q K_2 fu_segments fu_places au_sideStarts au_placeSides au_followers x1 fu_joins au_joinFrom au_joinTo → va_P (dC, dI) cls (W_Gr_joinPlaces cI cC cB qu qu_sideStarts qu_placeSides qu_followers qu_joinFrom qu_joinTo qu_segmentNames qu_placeBases qu_pathNames qu_stepCounts qu_steps fu_segments fu_links fu_paths fu_places fu_joins au_sideStarts au_placeSides au_followers au_joinFrom au_joinTo) H → va_D A (W_Gr_joinPlaces cI cC cB qu qu_sideStarts qu_placeSides qu_followers qu_joinFrom qu_joinTo qu_segmentNames qu_placeBases qu_pathNames qu_stepCounts qu_steps fu_segments fu_links fu_paths fu_places fu_joins au_sideStarts au_placeSides au_followers au_joinFrom au_joinTo) → va_S A s.heap H locs → lv_has ls 3 [(0, .ref qu), (1, .int x1)] → W p l e rm_Gr_joinPlaces s m args below meth c H locs 0 0 QF (F0 m 43 ls []) := by
    intro K_2 hK_2 x1 fu_joins au_joinFrom au_joinTo  H locs ls h hP hD hS hl
    unfold w_Gr_joinPlaces_43 at h
    obtain ⟨x1_1, ex1_1⟩ : ∃ y : Int32, y = x1 + 1 := ⟨_, rfl⟩
    have h := h x1_1 ex1_1
    refine lv_iinc (v := x1_1) (lv' := [(1, .int x1_1), (0, .ref qu)]) hx hb d_Gr_joinPlaces_43 hl (k := 1) rfl (by rw [ex1_1]; rfl) (by decide) rfl (fun ls hl => ?_)
    refine lv_goto (tgt := 2) hx hb d_Gr_joinPlaces_46 (by decide) ?_
    exact hK_2 _ _ _ _ _ _ _ h hP hD hS (lv_sub hl [1, 0] rfl)
  have blk_2 : ∀  (n : Nat) (x1 : Int32) (fu_joins : Int32) (au_joinFrom : Nat → Int32) (au_joinTo : Nat → Int32)  (H : Heap) (locs : List Loc) (ls : Array Slot), w_Gr_joinPlaces_2 Q  fu_segments fu_places au_sideStarts au_placeSides au_followers n x1 fu_joins au_joinFrom au_joinTo → va_P (dC, dI) cls (W_Gr_joinPlaces cI cC cB qu qu_sideStarts qu_placeSides qu_followers qu_joinFrom qu_joinTo qu_segmentNames qu_placeBases qu_pathNames qu_stepCounts qu_steps fu_segments fu_links fu_paths fu_places fu_joins au_sideStarts au_placeSides au_followers au_joinFrom au_joinTo) H → va_D A (W_Gr_joinPlaces cI cC cB qu qu_sideStarts qu_placeSides qu_followers qu_joinFrom qu_joinTo qu_segmentNames qu_placeBases qu_pathNames qu_stepCounts qu_steps fu_segments fu_links fu_paths fu_places fu_joins au_sideStarts au_placeSides au_followers au_joinFrom au_joinTo) → va_S A s.heap H locs → lv_has ls 3 [(0, .ref qu), (1, .int x1)] → W p l e rm_Gr_joinPlaces s m args below meth c H locs 0 0 QF (F0 m 2 ls []) := by
    intro  n
    induction n with
    | zero => intro x1 fu_joins au_joinFrom au_joinTo  H locs ls h; exact (show False from h).elim
    | succ n ih =>
      intro x1 fu_joins au_joinFrom au_joinTo  H locs ls h hP hD hS hl
      have h : w_Gr_joinPlaces_2B Q  (w_Gr_joinPlaces_2 Q  fu_segments fu_places au_sideStarts au_placeSides au_followers n) fu_segments fu_places au_sideStarts au_placeSides au_followers x1 fu_joins au_joinFrom au_joinTo := h
      generalize w_Gr_joinPlaces_2 Q  fu_segments fu_places au_sideStarts au_placeSides au_followers n = K_2 at h ih
      unfold w_Gr_joinPlaces_2B at h
      refine lv_iload_n hx hb d_Gr_joinPlaces_2 rfl (lv_at hl 1 rfl) ?_
      refine lv_aload_n hx hb d_Gr_joinPlaces_3 rfl (lv_at hl 0 rfl) ?_
      refine va_get (D := (dC, dI)) (ci := 5) (v := .int fu_places) (C := R_Gr) (T := T_Gr) (N := 15) hx hb hts in_Gr hown hK hP 0 rfl rfl 3 (by decide) (hts _ w_13) (fun _ h9 => h9) rfl d_Gr_joinPlaces_4 ?_
      refine lv_icmp_ge (tgt := 49) hx hb d_Gr_joinPlaces_7 (by decide) (fun c_2 => ?_) (fun c_2 => ?_)
      · have h := h.1 c_2
        exact hret (fu_joins, au_joinFrom, au_joinTo) () _ _ _ _ h hP hD hS d_Gr_joinPlaces_49
      · have h := h.2 c_2
        refine lv_aload_n hx hb d_Gr_joinPlaces_10 rfl (lv_at hl 0 rfl) ?_
        refine va_get (D := (dC, dI)) (ci := 5) (v := .ref qu_placeSides) (C := R_Gr) (T := T_Gr) (N := 15) hx hb hts in_Gr hown hK hP 0 rfl rfl 8 (by decide) (hts _ w_81) (fun _ h9 => h9) rfl d_Gr_joinPlaces_11 ?_
        refine lv_iload_n hx hb d_Gr_joinPlaces_14 rfl (lv_at hl 1 rfl) ?_
        have hi_3 := h.1
        have h := h.2
        refine va_iald hx hb hK hP 2 0 rfl rfl hi_3 d_Gr_joinPlaces_15 ?_
        refine lv_topi (fun y_4 ey_4 => ?_)
        have h := h y_4 ey_4
        refine lv_istore_n (lv' := [(2, .int y_4), (0, .ref qu), (1, .int x1)]) hx hb d_Gr_joinPlaces_16 rfl hl (by decide) rfl (fun ls hl => ?_)
        refine lv_iload_n hx hb d_Gr_joinPlaces_17 rfl (lv_at hl 2 rfl) ?_
        refine lv_aload_n hx hb d_Gr_joinPlaces_18 rfl (lv_at hl 1 rfl) ?_
        refine lv_iload_n hx hb d_Gr_joinPlaces_19 rfl (lv_at hl 0 rfl) ?_
        refine call_V_i (As := [.int y_4]) (rest := [.int x1]) C0 hP hD hS [0, 1] [2, 3, 4, 5] [4, 5, 0, 1, 2, 3] [(qu_placeSides, .inl (cI, 64, .inl au_placeSides)), (qu_followers, .inl (cI, 16, .inl au_followers)), (qu_joinFrom, .inl (cI, 72, .inl au_joinFrom)), (qu_joinTo, .inl (cI, 72, .inl au_joinTo))] (fun (v : Unit) (b : Unit) => (W_Gr_joinPlaces cI cC cB qu qu_sideStarts qu_placeSides qu_followers qu_joinFrom qu_joinTo qu_segmentNames qu_placeBases qu_pathNames qu_stepCounts qu_steps fu_segments fu_links fu_paths fu_places fu_joins au_sideStarts au_placeSides au_followers au_joinFrom au_joinTo)) (ci := 5) rfl rfl (k_Gr_lastPlace l dC dI cI cC cB _ qu qu_sideStarts qu_segmentNames qu_placeBases qu_placeSides qu_followers qu_pathNames qu_stepCounts qu_steps qu_joinFrom qu_joinTo fu_segments fu_links fu_paths fu_places fu_joins au_sideStarts y_4 h) (g_V w_124 w_125 w_126 w_40 w_123) 1 rfl (by decide +kernel) rfl rfl ⟨Nat.le_of_ble_eq_true rfl, Nat.le_of_ble_eq_true rfl⟩ rfl rfl (by decide) (by decide) (by decide) (by decide) (fun _ _ => rfl) hl.1 rfl (Nat.le_of_ble_eq_true rfl) d_Gr_joinPlaces_20 ⟨Nat.le_of_ble_eq_true rfl, Nat.le_of_ble_eq_true rfl⟩ (fun r_6 v_5 _ H locs h hP hD hS => ?_)
        have hP : va_P (dC, dI) cls (W_Gr_joinPlaces cI cC cB qu qu_sideStarts qu_placeSides qu_followers qu_joinFrom qu_joinTo qu_segmentNames qu_placeBases qu_pathNames qu_stepCounts qu_steps fu_segments fu_links fu_paths fu_places fu_joins au_sideStarts au_placeSides au_followers au_joinFrom au_joinTo) H := hP
        have hD : va_D A (W_Gr_joinPlaces cI cC cB qu qu_sideStarts qu_placeSides qu_followers qu_joinFrom qu_joinTo qu_segmentNames qu_placeBases qu_pathNames qu_stepCounts qu_steps fu_segments fu_links fu_paths fu_places fu_joins au_sideStarts au_placeSides au_followers au_joinFrom au_joinTo) := hD
        refine lv_icmp_ge (tgt := 37) hx hb d_Gr_joinPlaces_23 (by decide) (fun c_7 => ?_) (fun c_7 => ?_)
        · have h := h.1 c_7
          refine lv_aload_n hx hb d_Gr_joinPlaces_37 rfl (lv_at hl 1 rfl) ?_
          refine lv_iload_n hx hb d_Gr_joinPlaces_38 rfl (lv_at hl 2 rfl) ?_
          refine lv_iload_n hx hb d_Gr_joinPlaces_39 rfl (lv_at hl 0 rfl) ?_
          refine call_V_v (As := [.int x1, .int y_4]) (rest := []) C0 hP hD hS [0, 1, 3, 4, 5] [2] [1, 2, 0, 3, 4, 5] [(qu_placeSides, .inl (cI, 64, .inl au_placeSides))] (fun (v : Int32 × (Nat → Int32) × (Nat → Int32)) (b : Unit) => (W_Gr_joinPlaces cI cC cB qu qu_sideStarts qu_placeSides qu_followers qu_joinFrom qu_joinTo qu_segmentNames qu_placeBases qu_pathNames qu_stepCounts qu_steps fu_segments fu_links fu_paths fu_places v.1 au_sideStarts au_placeSides au_followers v.2.1 v.2.2)) (ci := 5) rfl rfl (k_Gr_joinToFollowers l dC dI cI cC cB _ qu qu_sideStarts qu_followers qu_joinFrom qu_joinTo qu_segmentNames qu_placeBases qu_placeSides qu_pathNames qu_stepCounts qu_steps fu_segments fu_links fu_paths fu_places fu_joins au_sideStarts au_followers au_joinFrom au_joinTo x1 y_4 h) (g_V w_120 w_121 w_122 w_40 w_119) 2 rfl (by decide +kernel) rfl rfl ⟨Nat.le_of_ble_eq_true rfl, Nat.le_of_ble_eq_true rfl⟩ rfl rfl (by decide) (by decide) (by decide) (by decide) (fun _ _ => rfl) hl.1 rfl (Nat.le_of_ble_eq_true rfl) d_Gr_joinPlaces_40 ⟨Nat.le_of_ble_eq_true rfl, Nat.le_of_ble_eq_true rfl⟩ (fun v_8 _ H locs h hP hD hS => ?_)
          have hP : va_P (dC, dI) cls (W_Gr_joinPlaces cI cC cB qu qu_sideStarts qu_placeSides qu_followers qu_joinFrom qu_joinTo qu_segmentNames qu_placeBases qu_pathNames qu_stepCounts qu_steps fu_segments fu_links fu_paths fu_places v_8.1 au_sideStarts au_placeSides au_followers v_8.2.1 v_8.2.2) H := hP
          have hD : va_D A (W_Gr_joinPlaces cI cC cB qu qu_sideStarts qu_placeSides qu_followers qu_joinFrom qu_joinTo qu_segmentNames qu_placeBases qu_pathNames qu_stepCounts qu_steps fu_segments fu_links fu_paths fu_places v_8.1 au_sideStarts au_placeSides au_followers v_8.2.1 v_8.2.2) := hD
          exact blk_43 _ ih _ _ _ _ _ _ _ h hP hD hS (lv_sub hl [1, 2] rfl)
        · have h := h.2 c_7
          refine lv_aload_n hx hb d_Gr_joinPlaces_26 rfl (lv_at hl 1 rfl) ?_
          refine lv_iload_n hx hb d_Gr_joinPlaces_27 rfl (lv_at hl 2 rfl) ?_
          refine lv_iload_n hx hb d_Gr_joinPlaces_28 rfl (lv_at hl 2 rfl) ?_
          refine lv_iconst (v := 1) hx hb d_Gr_joinPlaces_29 (by decide) ?_
          refine lv_iadd hx hb d_Gr_joinPlaces_30 ?_
          refine lv_topi (fun x_10 ex_10 => ?_)
          have h := h x_10 ex_10
          refine call_V_v (As := [.int x1, .int x_10]) (rest := []) C0 hP hD hS [0, 4, 5] [1, 2, 3] [3, 0, 1, 2, 4, 5] [(qu_sideStarts, .inl (cI, 16, .inl au_sideStarts)), (qu_placeSides, .inl (cI, 64, .inl au_placeSides)), (qu_followers, .inl (cI, 16, .inl au_followers))] (fun (v : Int32 × (Nat → Int32) × (Nat → Int32)) (b : Unit) => (W_Gr_joinPlaces cI cC cB qu qu_sideStarts qu_placeSides qu_followers qu_joinFrom qu_joinTo qu_segmentNames qu_placeBases qu_pathNames qu_stepCounts qu_steps fu_segments fu_links fu_paths fu_places v.1 au_sideStarts au_placeSides au_followers v.2.1 v.2.2)) (ci := 5) rfl rfl (k_Gr_join l dC dI cI cC cB _ qu qu_joinFrom qu_joinTo qu_segmentNames qu_sideStarts qu_placeBases qu_placeSides qu_followers qu_pathNames qu_stepCounts qu_steps fu_segments fu_links fu_paths fu_places fu_joins au_joinFrom au_joinTo x1 x_10 h) (g_V w_112 w_113 w_114 w_40 w_111) 2 rfl (by decide +kernel) rfl rfl ⟨Nat.le_of_ble_eq_true rfl, Nat.le_of_ble_eq_true rfl⟩ rfl rfl (by decide) (by decide) (by decide) (by decide) (fun _ _ => rfl) hl.1 rfl (Nat.le_of_ble_eq_true rfl) d_Gr_joinPlaces_31 ⟨Nat.le_of_ble_eq_true rfl, Nat.le_of_ble_eq_true rfl⟩ (fun v_11 _ H locs h hP hD hS => ?_)
          have hP : va_P (dC, dI) cls (W_Gr_joinPlaces cI cC cB qu qu_sideStarts qu_placeSides qu_followers qu_joinFrom qu_joinTo qu_segmentNames qu_placeBases qu_pathNames qu_stepCounts qu_steps fu_segments fu_links fu_paths fu_places v_11.1 au_sideStarts au_placeSides au_followers v_11.2.1 v_11.2.2) H := hP
          have hD : va_D A (W_Gr_joinPlaces cI cC cB qu qu_sideStarts qu_placeSides qu_followers qu_joinFrom qu_joinTo qu_segmentNames qu_placeBases qu_pathNames qu_stepCounts qu_steps fu_segments fu_links fu_paths fu_places v_11.1 au_sideStarts au_placeSides au_followers v_11.2.1 v_11.2.2) := hD
          refine lv_goto (tgt := 43) hx hb d_Gr_joinPlaces_34 (by decide) ?_
          exact blk_43 _ ih _ _ _ _ _ _ _ h hP hD hS (lv_sub hl [1, 2] rfl)
  unfold wp_Gr_joinPlaces at h
  refine lv_iconst (v := 0) hx hb d_Gr_joinPlaces_0 (by decide) ?_
  refine lv_istore_n (lv' := [(1, .int 0), (0, .ref qu)]) hx hb d_Gr_joinPlaces_1 rfl hl (by decide) rfl (fun ls hl => ?_)
  obtain ⟨fu_2, h⟩ := h
  exact blk_2  _ _ _ _ _ _ _ _ h hP hD hS (lv_sub hl [1, 0] rfl)
abbrev W_X_load (cI cC cB : ClassId) (qu : Nat) (qu_text : Nat) (qu_text_characters : Nat) (qu_result : Nat) (qu_spare_segmentNames : Nat) (qu_spare_sideStarts : Nat) (qu_spare_placeBases : Nat) (qu_spare_placeSides : Nat) (qu_spare_followers : Nat) (qu_spare_pathNames : Nat) (qu_spare_stepCounts : Nat) (qu_spare_steps : Nat) (qu_spare_joinFrom : Nat) (qu_spare_joinTo : Nat) (qu_reading : Nat) (qu_costs : Nat) (qu_told : Nat) (qu_result_sides : Nat) (qu_result_walkBackwards : Nat) (qu_result_editsBackwards : Nat) (Qu_spare : Nat) (fu_text_length : Int32) (fu_text_at : Int32) (au_text_characters : Nat → Int32) (fu_result_found : Int32) (fu_result_cost : Int32) (fu_result_walkLength : Int32) (fu_result_editCount : Int32) (fu_result_sideCount : Int32) (fu_result_basesLeft : Int32) (fu_result_place : Int32) (fu_spare_segments : Int32) (fu_spare_links : Int32) (fu_spare_paths : Int32) (fu_spare_places : Int32) (fu_spare_joins : Int32) (au_spare_segmentNames : Nat → Int32) (au_spare_sideStarts : Nat → Int32) (au_spare_placeBases : Nat → Int32) (au_spare_placeSides : Nat → Int32) (au_spare_followers : Nat → Int32) (au_spare_pathNames : Nat → Int32) (au_spare_stepCounts : Nat → Int32) (au_spare_steps : Nat → Int32) (au_spare_joinFrom : Nat → Int32) (au_spare_joinTo : Nat → Int32) (qu_graph : Nat) (qu_spare : Nat) : va_W := [(qu, .inr (0, [.ref qu_text, .ref qu_reading, .ref qu_costs, .ref qu_result, .ref qu_told, .ref qu_graph, .ref qu_spare])), (qu_text, .inr (1, [.ref qu_text_characters, .int fu_text_length, .int fu_text_at])), (qu_text_characters, .inl (cC, 400, .inl au_text_characters)), (qu_result, .inr (4, [.int fu_result_found, .int fu_result_cost, .int fu_result_walkLength, .int fu_result_editCount, .int fu_result_sideCount, .ref qu_result_sides, .ref qu_result_walkBackwards, .ref qu_result_editsBackwards, .int fu_result_basesLeft, .int fu_result_place])), (Qu_spare, .inr (5, [.int fu_spare_segments, .int fu_spare_links, .int fu_spare_paths, .int fu_spare_places, .int fu_spare_joins, .ref qu_spare_segmentNames, .ref qu_spare_sideStarts, .ref qu_spare_placeBases, .ref qu_spare_placeSides, .ref qu_spare_followers, .ref qu_spare_pathNames, .ref qu_spare_stepCounts, .ref qu_spare_steps, .ref qu_spare_joinFrom, .ref qu_spare_joinTo])), (qu_spare_segmentNames, .inl (cI, 8, .inl au_spare_segmentNames)), (qu_spare_sideStarts, .inl (cI, 16, .inl au_spare_sideStarts)), (qu_spare_placeBases, .inl (cC, 64, .inl au_spare_placeBases)), (qu_spare_placeSides, .inl (cI, 64, .inl au_spare_placeSides)), (qu_spare_followers, .inl (cI, 16, .inl au_spare_followers)), (qu_spare_pathNames, .inl (cI, 4, .inl au_spare_pathNames)), (qu_spare_stepCounts, .inl (cI, 4, .inl au_spare_stepCounts)), (qu_spare_steps, .inl (cI, 32, .inl au_spare_steps)), (qu_spare_joinFrom, .inl (cI, 72, .inl au_spare_joinFrom)), (qu_spare_joinTo, .inl (cI, 72, .inl au_spare_joinTo))]
def wp_X_load (Q : Int32 → (Int32 × Int32 × Int32 × Int32 × Int32 × Int32 × Int32 × (Nat → Int32) × (Nat → Int32) × (Nat → Int32) × (Nat → Int32) × (Nat → Int32) × (Nat → Int32) × (Nat → Int32) × (Nat → Int32) × (Nat → Int32) × (Nat → Int32) × Nat × Nat) → Prop)  (fu_text_length : Int32) (fu_text_at : Int32) (au_text_characters : Nat → Int32) (fu_result_found : Int32) (fu_spare_segments : Int32) (fu_spare_links : Int32) (fu_spare_paths : Int32) (fu_spare_places : Int32) (fu_spare_joins : Int32) (au_spare_segmentNames : Nat → Int32) (au_spare_sideStarts : Nat → Int32) (au_spare_placeBases : Nat → Int32) (au_spare_placeSides : Nat → Int32) (au_spare_followers : Nat → Int32) (au_spare_pathNames : Nat → Int32) (au_spare_stepCounts : Nat → Int32) (au_spare_steps : Nat → Int32) (au_spare_joinFrom : Nat → Int32) (au_spare_joinTo : Nat → Int32) (qu_graph : Nat) (qu_spare : Nat) : Prop := wp_Gr_forget (fun v_1 => wp_X_firstBadLine (fun r_4 v_3 => ((r_4 ≤ 0 → (wp_Gr_joinPlaces (fun v_6 => Q 0 (v_3.1, 0, v_3.2.1, v_3.2.2.1, v_3.2.2.2.1, v_3.2.2.2.2.1, v_6.1, v_3.2.2.2.2.2.1, v_3.2.2.2.2.2.2.1, v_3.2.2.2.2.2.2.2.1, v_3.2.2.2.2.2.2.2.2.1, v_3.2.2.2.2.2.2.2.2.2.1, v_3.2.2.2.2.2.2.2.2.2.2.1, v_3.2.2.2.2.2.2.2.2.2.2.2.1, v_3.2.2.2.2.2.2.2.2.2.2.2.2, v_6.2.1, v_6.2.2, qu_spare, qu_graph)) v_3.2.1 v_3.2.2.2.2.1 v_1.2.2.2.2.1 v_3.2.2.2.2.2.2.1 v_3.2.2.2.2.2.2.2.2.1 v_3.2.2.2.2.2.2.2.2.2.1 au_spare_joinFrom au_spare_joinTo)) ∧ (¬ r_4 ≤ 0 → (∀ x_8 : Int32, x_8 = -r_4 → (Q x_8 (v_3.1, fu_result_found, v_3.2.1, v_3.2.2.1, v_3.2.2.2.1, v_3.2.2.2.2.1, v_1.2.2.2.2.1, v_3.2.2.2.2.2.1, v_3.2.2.2.2.2.2.1, v_3.2.2.2.2.2.2.2.1, v_3.2.2.2.2.2.2.2.2.1, v_3.2.2.2.2.2.2.2.2.2.1, v_3.2.2.2.2.2.2.2.2.2.2.1, v_3.2.2.2.2.2.2.2.2.2.2.2.1, v_3.2.2.2.2.2.2.2.2.2.2.2.2, au_spare_joinFrom, au_spare_joinTo, qu_graph, qu_spare)))))) fu_text_length fu_text_at au_text_characters v_1.1 v_1.2.1 v_1.2.2.1 v_1.2.2.2.1 au_spare_segmentNames au_spare_sideStarts au_spare_placeBases au_spare_placeSides v_1.2.2.2.2.2 au_spare_pathNames au_spare_stepCounts au_spare_steps) fu_spare_segments fu_spare_links fu_spare_paths fu_spare_places fu_spare_joins au_spare_followers
abbrev rm_X_load : Room := { frames := 6, cells := 0, slots := 0, locals := 138 }
set_option maxHeartbeats 4000000 in
set_option maxRecDepth 100000 in
theorem k_X_load (l : Launch) (dC : Nat → ClassId) (dI : Nat → Nat → Nat) (cI cC cB : ClassId) (sz : Nat) (qu : Nat) (qu_text : Nat) (qu_text_characters : Nat) (qu_result : Nat) (qu_spare_segmentNames : Nat) (qu_spare_sideStarts : Nat) (qu_spare_placeBases : Nat) (qu_spare_placeSides : Nat) (qu_spare_followers : Nat) (qu_spare_pathNames : Nat) (qu_spare_stepCounts : Nat) (qu_spare_steps : Nat) (qu_spare_joinFrom : Nat) (qu_spare_joinTo : Nat) (qu_reading : Nat) (qu_costs : Nat) (qu_told : Nat) (qu_result_sides : Nat) (qu_result_walkBackwards : Nat) (qu_result_editsBackwards : Nat) (fu_text_length : Int32) (fu_text_at : Int32) (au_text_characters : Nat → Int32) (fu_result_found : Int32) (fu_result_cost : Int32) (fu_result_walkLength : Int32) (fu_result_editCount : Int32) (fu_result_sideCount : Int32) (fu_result_basesLeft : Int32) (fu_result_place : Int32) (fu_spare_segments : Int32) (fu_spare_links : Int32) (fu_spare_paths : Int32) (fu_spare_places : Int32) (fu_spare_joins : Int32) (au_spare_segmentNames : Nat → Int32) (au_spare_sideStarts : Nat → Int32) (au_spare_placeBases : Nat → Int32) (au_spare_placeSides : Nat → Int32) (au_spare_followers : Nat → Int32) (au_spare_pathNames : Nat → Int32) (au_spare_stepCounts : Nat → Int32) (au_spare_steps : Nat → Int32) (au_spare_joinFrom : Nat → Int32) (au_spare_joinTo : Nat → Int32) (qu_graph : Nat) (qu_spare : Nat)  {Q : Int32 → (Int32 × Int32 × Int32 × Int32 × Int32 × Int32 × Int32 × (Nat → Int32) × (Nat → Int32) × (Nat → Int32) × (Nat → Int32) × (Nat → Int32) × (Nat → Int32) × (Nat → Int32) × (Nat → Int32) × (Nat → Int32) × (Nat → Int32) × Nat × Nat) → Prop} (h : wp_X_load Q  fu_text_length fu_text_at au_text_characters fu_result_found fu_spare_segments fu_spare_links fu_spare_paths fu_spare_places fu_spare_joins au_spare_segmentNames au_spare_sideStarts au_spare_placeBases au_spare_placeSides au_spare_followers au_spare_pathNames au_spare_stepCounts au_spare_steps au_spare_joinFrom au_spare_joinTo qu_graph qu_spare) :
    CTi l y_X_load (wM y_X_load c_X_load 3 (some .int)) rm_X_load 0 0 (dC, dI) (tysL cI cC cB) [.ref qu] (W_X_load cI cC cB qu qu_text qu_text_characters qu_result qu_spare_segmentNames qu_spare_sideStarts qu_spare_placeBases qu_spare_placeSides qu_spare_followers qu_spare_pathNames qu_spare_stepCounts qu_spare_steps qu_spare_joinFrom qu_spare_joinTo qu_reading qu_costs qu_told qu_result_sides qu_result_walkBackwards qu_result_editsBackwards qu_spare fu_text_length fu_text_at au_text_characters fu_result_found fu_result_cost fu_result_walkLength fu_result_editCount fu_result_sideCount fu_result_basesLeft fu_result_place fu_spare_segments fu_spare_links fu_spare_paths fu_spare_places fu_spare_joins au_spare_segmentNames au_spare_sideStarts au_spare_placeBases au_spare_placeSides au_spare_followers au_spare_pathNames au_spare_stepCounts au_spare_steps au_spare_joinFrom au_spare_joinTo qu_graph qu_spare) sz Q (fun (v : Int32 × Int32 × Int32 × Int32 × Int32 × Int32 × Int32 × (Nat → Int32) × (Nat → Int32) × (Nat → Int32) × (Nat → Int32) × (Nat → Int32) × (Nat → Int32) × (Nat → Int32) × (Nat → Int32) × (Nat → Int32) × (Nat → Int32) × Nat × Nat) (b : Unit) => (W_X_load cI cC cB qu qu_text qu_text_characters qu_result qu_spare_segmentNames qu_spare_sideStarts qu_spare_placeBases qu_spare_placeSides qu_spare_followers qu_spare_pathNames qu_spare_stepCounts qu_spare_steps qu_spare_joinFrom qu_spare_joinTo qu_reading qu_costs qu_told qu_result_sides qu_result_walkBackwards qu_result_editsBackwards qu_spare fu_text_length v.1 au_text_characters v.2.1 fu_result_cost fu_result_walkLength fu_result_editCount fu_result_sideCount fu_result_basesLeft fu_result_place v.2.2.1 v.2.2.2.1 v.2.2.2.2.1 v.2.2.2.2.2.1 v.2.2.2.2.2.2.1 v.2.2.2.2.2.2.2.1 v.2.2.2.2.2.2.2.2.1 v.2.2.2.2.2.2.2.2.2.1 v.2.2.2.2.2.2.2.2.2.2.1 v.2.2.2.2.2.2.2.2.2.2.2.1 v.2.2.2.2.2.2.2.2.2.2.2.2.1 v.2.2.2.2.2.2.2.2.2.2.2.2.2.1 v.2.2.2.2.2.2.2.2.2.2.2.2.2.2.1 v.2.2.2.2.2.2.2.2.2.2.2.2.2.2.2.1 v.2.2.2.2.2.2.2.2.2.2.2.2.2.2.2.2.1 v.2.2.2.2.2.2.2.2.2.2.2.2.2.2.2.2.2.1 v.2.2.2.2.2.2.2.2.2.2.2.2.2.2.2.2.2.2)) := by
  refine CTi.std (by decide) (Nat.le_of_ble_eq_true rfl) ?_
  intro p e s m args below meth c A ls QF C0 hP hD hl hS hsz hnm hret
  obtain ⟨hx, hb, hr, hml, hown, hts, hlocks, hN, hA, hK⟩ := id C0
  have hown : s.vm.findClass R_X = some m.cls := hown
  have hl : lv_has ls 3 [(0, .ref qu)] := hl
  clear hsz hnm
  unfold wp_X_load at h
  refine lv_aload_n hx hb d_X_load_0 rfl (lv_at hl 0 rfl) ?_
  refine va_get (D := (dC, dI)) (ci := 0) (v := .ref qu_spare) (C := R_X) (T := T_X) (N := 7) hx hb hts in_X hown hK hP 0 rfl rfl 6 (by decide) (hts _ w_9) (fun _ h9 => h9) rfl d_X_load_1 ?_
  refine call_V_v (As := []) (rest := []) C0 hP hD hS [4, 9] [0, 1, 2, 3, 5, 6, 7, 8, 10, 11, 12, 13, 14] [0, 1, 2, 3, 13, 4, 5, 6, 7, 14, 8, 9, 10, 11, 12] [(qu, .inr (0, [.ref qu_text, .ref qu_reading, .ref qu_costs, .ref qu_result, .ref qu_told, .ref qu_graph, .ref qu_spare])), (qu_text, .inr (1, [.ref qu_text_characters, .int fu_text_length, .int fu_text_at])), (qu_text_characters, .inl (cC, 400, .inl au_text_characters)), (qu_result, .inr (4, [.int fu_result_found, .int fu_result_cost, .int fu_result_walkLength, .int fu_result_editCount, .int fu_result_sideCount, .ref qu_result_sides, .ref qu_result_walkBackwards, .ref qu_result_editsBackwards, .int fu_result_basesLeft, .int fu_result_place])), (qu_spare_segmentNames, .inl (cI, 8, .inl au_spare_segmentNames)), (qu_spare_sideStarts, .inl (cI, 16, .inl au_spare_sideStarts)), (qu_spare_placeBases, .inl (cC, 64, .inl au_spare_placeBases)), (qu_spare_placeSides, .inl (cI, 64, .inl au_spare_placeSides)), (qu_spare_pathNames, .inl (cI, 4, .inl au_spare_pathNames)), (qu_spare_stepCounts, .inl (cI, 4, .inl au_spare_stepCounts)), (qu_spare_steps, .inl (cI, 32, .inl au_spare_steps)), (qu_spare_joinFrom, .inl (cI, 72, .inl au_spare_joinFrom)), (qu_spare_joinTo, .inl (cI, 72, .inl au_spare_joinTo))] (fun (v : Int32 × Int32 × Int32 × Int32 × Int32 × (Nat → Int32)) (b : Unit) => (W_X_load cI cC cB qu qu_text qu_text_characters qu_result qu_spare_segmentNames qu_spare_sideStarts qu_spare_placeBases qu_spare_placeSides qu_spare_followers qu_spare_pathNames qu_spare_stepCounts qu_spare_steps qu_spare_joinFrom qu_spare_joinTo qu_reading qu_costs qu_told qu_result_sides qu_result_walkBackwards qu_result_editsBackwards qu_spare fu_text_length fu_text_at au_text_characters fu_result_found fu_result_cost fu_result_walkLength fu_result_editCount fu_result_sideCount fu_result_basesLeft fu_result_place v.1 v.2.1 v.2.2.1 v.2.2.2.1 v.2.2.2.2.1 au_spare_segmentNames au_spare_sideStarts au_spare_placeBases au_spare_placeSides v.2.2.2.2.2 au_spare_pathNames au_spare_stepCounts au_spare_steps au_spare_joinFrom au_spare_joinTo qu_graph qu_spare)) (ci := 5) rfl rfl (k_Gr_forget l dC dI cI cC cB _ qu_spare qu_spare_followers qu_spare_segmentNames qu_spare_sideStarts qu_spare_placeBases qu_spare_placeSides qu_spare_pathNames qu_spare_stepCounts qu_spare_steps qu_spare_joinFrom qu_spare_joinTo fu_spare_segments fu_spare_links fu_spare_paths fu_spare_places fu_spare_joins au_spare_followers h) (g_V w_138 w_139 w_140 w_40 w_137) 0 rfl (by decide +kernel) rfl rfl ⟨Nat.le_of_ble_eq_true rfl, Nat.le_of_ble_eq_true rfl⟩ rfl rfl (by decide) (by decide) (by decide) (by decide) (fun _ _ => rfl) hl.1 rfl (Nat.le_of_ble_eq_true rfl) d_X_load_4 ⟨Nat.le_of_ble_eq_true rfl, Nat.le_of_ble_eq_true rfl⟩ (fun v_1 _ H locs h hP hD hS => ?_)
  have hP : va_P (dC, dI) cls (W_X_load cI cC cB qu qu_text qu_text_characters qu_result qu_spare_segmentNames qu_spare_sideStarts qu_spare_placeBases qu_spare_placeSides qu_spare_followers qu_spare_pathNames qu_spare_stepCounts qu_spare_steps qu_spare_joinFrom qu_spare_joinTo qu_reading qu_costs qu_told qu_result_sides qu_result_walkBackwards qu_result_editsBackwards qu_spare fu_text_length fu_text_at au_text_characters fu_result_found fu_result_cost fu_result_walkLength fu_result_editCount fu_result_sideCount fu_result_basesLeft fu_result_place v_1.1 v_1.2.1 v_1.2.2.1 v_1.2.2.2.1 v_1.2.2.2.2.1 au_spare_segmentNames au_spare_sideStarts au_spare_placeBases au_spare_placeSides v_1.2.2.2.2.2 au_spare_pathNames au_spare_stepCounts au_spare_steps au_spare_joinFrom au_spare_joinTo qu_graph qu_spare) H := hP
  have hD : va_D A (W_X_load cI cC cB qu qu_text qu_text_characters qu_result qu_spare_segmentNames qu_spare_sideStarts qu_spare_placeBases qu_spare_placeSides qu_spare_followers qu_spare_pathNames qu_spare_stepCounts qu_spare_steps qu_spare_joinFrom qu_spare_joinTo qu_reading qu_costs qu_told qu_result_sides qu_result_walkBackwards qu_result_editsBackwards qu_spare fu_text_length fu_text_at au_text_characters fu_result_found fu_result_cost fu_result_walkLength fu_result_editCount fu_result_sideCount fu_result_basesLeft fu_result_place v_1.1 v_1.2.1 v_1.2.2.1 v_1.2.2.2.1 v_1.2.2.2.2.1 au_spare_segmentNames au_spare_sideStarts au_spare_placeBases au_spare_placeSides v_1.2.2.2.2.2 au_spare_pathNames au_spare_stepCounts au_spare_steps au_spare_joinFrom au_spare_joinTo qu_graph qu_spare) := hD
  refine lv_aload_n hx hb d_X_load_7 rfl (lv_at hl 0 rfl) ?_
  refine va_get (D := (dC, dI)) (ci := 0) (v := .ref qu_text) (C := R_X) (T := T_X) (N := 7) hx hb hts in_X hown hK hP 0 rfl rfl 0 (by decide) (hts _ w_0) (fun _ h9 => h9) rfl d_X_load_8 ?_
  refine lv_aload_n hx hb d_X_load_11 rfl (lv_at hl 0 rfl) ?_
  refine va_get (D := (dC, dI)) (ci := 0) (v := .ref qu_spare) (C := R_X) (T := T_X) (N := 7) hx hb hts in_X hown hK hP 0 rfl rfl 6 (by decide) (hts _ w_9) (fun _ h9 => h9) rfl d_X_load_12 ?_
  refine call_S_i (As := [.ref qu_text, .ref qu_spare]) (rest := []) C0 hP hD hS [1, 2, 4, 5, 6, 7, 8, 9, 10, 11, 12] [0, 3, 13, 14] [0, 4, 5, 1, 6, 7, 8, 9, 10, 11, 12, 13, 14, 2, 3] [(qu, .inr (0, [.ref qu_text, .ref qu_reading, .ref qu_costs, .ref qu_result, .ref qu_told, .ref qu_graph, .ref qu_spare])), (qu_result, .inr (4, [.int fu_result_found, .int fu_result_cost, .int fu_result_walkLength, .int fu_result_editCount, .int fu_result_sideCount, .ref qu_result_sides, .ref qu_result_walkBackwards, .ref qu_result_editsBackwards, .int fu_result_basesLeft, .int fu_result_place])), (qu_spare_joinFrom, .inl (cI, 72, .inl au_spare_joinFrom)), (qu_spare_joinTo, .inl (cI, 72, .inl au_spare_joinTo))] (fun (v : Int32 × Int32 × Int32 × Int32 × Int32 × (Nat → Int32) × (Nat → Int32) × (Nat → Int32) × (Nat → Int32) × (Nat → Int32) × (Nat → Int32) × (Nat → Int32) × (Nat → Int32)) (b : Unit) => (W_X_load cI cC cB qu qu_text qu_text_characters qu_result qu_spare_segmentNames qu_spare_sideStarts qu_spare_placeBases qu_spare_placeSides qu_spare_followers qu_spare_pathNames qu_spare_stepCounts qu_spare_steps qu_spare_joinFrom qu_spare_joinTo qu_reading qu_costs qu_told qu_result_sides qu_result_walkBackwards qu_result_editsBackwards qu_spare fu_text_length v.1 au_text_characters fu_result_found fu_result_cost fu_result_walkLength fu_result_editCount fu_result_sideCount fu_result_basesLeft fu_result_place v.2.1 v.2.2.1 v.2.2.2.1 v.2.2.2.2.1 v_1.2.2.2.2.1 v.2.2.2.2.2.1 v.2.2.2.2.2.2.1 v.2.2.2.2.2.2.2.1 v.2.2.2.2.2.2.2.2.1 v.2.2.2.2.2.2.2.2.2.1 v.2.2.2.2.2.2.2.2.2.2.1 v.2.2.2.2.2.2.2.2.2.2.2.1 v.2.2.2.2.2.2.2.2.2.2.2.2 au_spare_joinFrom au_spare_joinTo qu_graph qu_spare)) (k_X_firstBadLine l dC dI cI cC cB _ qu_text qu_text_characters qu_spare qu_spare_segmentNames qu_spare_sideStarts qu_spare_placeBases qu_spare_placeSides qu_spare_followers qu_spare_pathNames qu_spare_stepCounts qu_spare_steps qu_spare_joinFrom qu_spare_joinTo fu_text_length fu_text_at au_text_characters v_1.1 v_1.2.1 v_1.2.2.1 v_1.2.2.2.1 v_1.2.2.2.2.1 au_spare_segmentNames au_spare_sideStarts au_spare_placeBases au_spare_placeSides v_1.2.2.2.2.2 au_spare_pathNames au_spare_stepCounts au_spare_steps h) (g_S w_135 w_136 w_33 w_134) 2 rfl (by decide +kernel) rfl rfl ⟨Nat.le_of_ble_eq_true rfl, Nat.le_of_ble_eq_true rfl⟩ rfl rfl (by decide) (by decide) (by decide) (by decide) (fun _ _ => rfl) hl.1 rfl (Nat.le_of_ble_eq_true rfl) d_X_load_15 ⟨Nat.le_of_ble_eq_true rfl, Nat.le_of_ble_eq_true rfl⟩ (fun r_4 v_3 _ H locs h hP hD hS => ?_)
  have hP : va_P (dC, dI) cls (W_X_load cI cC cB qu qu_text qu_text_characters qu_result qu_spare_segmentNames qu_spare_sideStarts qu_spare_placeBases qu_spare_placeSides qu_spare_followers qu_spare_pathNames qu_spare_stepCounts qu_spare_steps qu_spare_joinFrom qu_spare_joinTo qu_reading qu_costs qu_told qu_result_sides qu_result_walkBackwards qu_result_editsBackwards qu_spare fu_text_length v_3.1 au_text_characters fu_result_found fu_result_cost fu_result_walkLength fu_result_editCount fu_result_sideCount fu_result_basesLeft fu_result_place v_3.2.1 v_3.2.2.1 v_3.2.2.2.1 v_3.2.2.2.2.1 v_1.2.2.2.2.1 v_3.2.2.2.2.2.1 v_3.2.2.2.2.2.2.1 v_3.2.2.2.2.2.2.2.1 v_3.2.2.2.2.2.2.2.2.1 v_3.2.2.2.2.2.2.2.2.2.1 v_3.2.2.2.2.2.2.2.2.2.2.1 v_3.2.2.2.2.2.2.2.2.2.2.2.1 v_3.2.2.2.2.2.2.2.2.2.2.2.2 au_spare_joinFrom au_spare_joinTo qu_graph qu_spare) H := hP
  have hD : va_D A (W_X_load cI cC cB qu qu_text qu_text_characters qu_result qu_spare_segmentNames qu_spare_sideStarts qu_spare_placeBases qu_spare_placeSides qu_spare_followers qu_spare_pathNames qu_spare_stepCounts qu_spare_steps qu_spare_joinFrom qu_spare_joinTo qu_reading qu_costs qu_told qu_result_sides qu_result_walkBackwards qu_result_editsBackwards qu_spare fu_text_length v_3.1 au_text_characters fu_result_found fu_result_cost fu_result_walkLength fu_result_editCount fu_result_sideCount fu_result_basesLeft fu_result_place v_3.2.1 v_3.2.2.1 v_3.2.2.2.1 v_3.2.2.2.2.1 v_1.2.2.2.2.1 v_3.2.2.2.2.2.1 v_3.2.2.2.2.2.2.1 v_3.2.2.2.2.2.2.2.1 v_3.2.2.2.2.2.2.2.2.1 v_3.2.2.2.2.2.2.2.2.2.1 v_3.2.2.2.2.2.2.2.2.2.2.1 v_3.2.2.2.2.2.2.2.2.2.2.2.1 v_3.2.2.2.2.2.2.2.2.2.2.2.2 au_spare_joinFrom au_spare_joinTo qu_graph qu_spare) := hD
  refine lv_istore_n (lv' := [(1, .int r_4), (0, .ref qu)]) hx hb d_X_load_18 rfl hl (by decide) rfl (fun ls hl => ?_)
  refine lv_iload_n hx hb d_X_load_19 rfl (lv_at hl 0 rfl) ?_
  refine lv_if_le (tgt := 26) hx hb d_X_load_20 (by decide) (fun c_5 => ?_) (fun c_5 => ?_)
  · have h := h.1 c_5
    refine lv_aload_n hx hb d_X_load_26 rfl (lv_at hl 1 rfl) ?_
    refine va_get (D := (dC, dI)) (ci := 0) (v := .ref qu_spare) (C := R_X) (T := T_X) (N := 7) hx hb hts in_X hown hK hP 0 rfl rfl 6 (by decide) (hts _ w_9) (fun _ h9 => h9) rfl d_X_load_27 ?_
    refine call_V_v (As := []) (rest := []) C0 hP hD hS [4, 6, 8, 9, 13, 14] [0, 1, 2, 3, 5, 7, 10, 11, 12] [0, 1, 2, 3, 9, 4, 10, 5, 11, 12, 6, 7, 8, 13, 14] [(qu, .inr (0, [.ref qu_text, .ref qu_reading, .ref qu_costs, .ref qu_result, .ref qu_told, .ref qu_graph, .ref qu_spare])), (qu_text, .inr (1, [.ref qu_text_characters, .int fu_text_length, .int v_3.1])), (qu_text_characters, .inl (cC, 400, .inl au_text_characters)), (qu_result, .inr (4, [.int fu_result_found, .int fu_result_cost, .int fu_result_walkLength, .int fu_result_editCount, .int fu_result_sideCount, .ref qu_result_sides, .ref qu_result_walkBackwards, .ref qu_result_editsBackwards, .int fu_result_basesLeft, .int fu_result_place])), (qu_spare_segmentNames, .inl (cI, 8, .inl v_3.2.2.2.2.2.1)), (qu_spare_placeBases, .inl (cC, 64, .inl v_3.2.2.2.2.2.2.2.1)), (qu_spare_pathNames, .inl (cI, 4, .inl v_3.2.2.2.2.2.2.2.2.2.2.1)), (qu_spare_stepCounts, .inl (cI, 4, .inl v_3.2.2.2.2.2.2.2.2.2.2.2.1)), (qu_spare_steps, .inl (cI, 32, .inl v_3.2.2.2.2.2.2.2.2.2.2.2.2))] (fun (v : Int32 × (Nat → Int32) × (Nat → Int32)) (b : Unit) => (W_X_load cI cC cB qu qu_text qu_text_characters qu_result qu_spare_segmentNames qu_spare_sideStarts qu_spare_placeBases qu_spare_placeSides qu_spare_followers qu_spare_pathNames qu_spare_stepCounts qu_spare_steps qu_spare_joinFrom qu_spare_joinTo qu_reading qu_costs qu_told qu_result_sides qu_result_walkBackwards qu_result_editsBackwards qu_spare fu_text_length v_3.1 au_text_characters fu_result_found fu_result_cost fu_result_walkLength fu_result_editCount fu_result_sideCount fu_result_basesLeft fu_result_place v_3.2.1 v_3.2.2.1 v_3.2.2.2.1 v_3.2.2.2.2.1 v.1 v_3.2.2.2.2.2.1 v_3.2.2.2.2.2.2.1 v_3.2.2.2.2.2.2.2.1 v_3.2.2.2.2.2.2.2.2.1 v_3.2.2.2.2.2.2.2.2.2.1 v_3.2.2.2.2.2.2.2.2.2.2.1 v_3.2.2.2.2.2.2.2.2.2.2.2.1 v_3.2.2.2.2.2.2.2.2.2.2.2.2 v.2.1 v.2.2 qu_graph qu_spare)) (ci := 5) rfl rfl (k_Gr_joinPlaces l dC dI cI cC cB _ qu_spare qu_spare_sideStarts qu_spare_placeSides qu_spare_followers qu_spare_joinFrom qu_spare_joinTo qu_spare_segmentNames qu_spare_placeBases qu_spare_pathNames qu_spare_stepCounts qu_spare_steps v_3.2.1 v_3.2.2.1 v_3.2.2.2.1 v_3.2.2.2.2.1 v_1.2.2.2.2.1 v_3.2.2.2.2.2.2.1 v_3.2.2.2.2.2.2.2.2.1 v_3.2.2.2.2.2.2.2.2.2.1 au_spare_joinFrom au_spare_joinTo h) (g_V w_131 w_132 w_133 w_40 w_130) 0 rfl (by decide +kernel) rfl rfl ⟨Nat.le_of_ble_eq_true rfl, Nat.le_of_ble_eq_true rfl⟩ rfl rfl (by decide) (by decide) (by decide) (by decide) (fun _ _ => rfl) hl.1 rfl (Nat.le_of_ble_eq_true rfl) d_X_load_30 ⟨Nat.le_of_ble_eq_true rfl, Nat.le_of_ble_eq_true rfl⟩ (fun v_6 _ H locs h hP hD hS => ?_)
    have hP : va_P (dC, dI) cls (W_X_load cI cC cB qu qu_text qu_text_characters qu_result qu_spare_segmentNames qu_spare_sideStarts qu_spare_placeBases qu_spare_placeSides qu_spare_followers qu_spare_pathNames qu_spare_stepCounts qu_spare_steps qu_spare_joinFrom qu_spare_joinTo qu_reading qu_costs qu_told qu_result_sides qu_result_walkBackwards qu_result_editsBackwards qu_spare fu_text_length v_3.1 au_text_characters fu_result_found fu_result_cost fu_result_walkLength fu_result_editCount fu_result_sideCount fu_result_basesLeft fu_result_place v_3.2.1 v_3.2.2.1 v_3.2.2.2.1 v_3.2.2.2.2.1 v_6.1 v_3.2.2.2.2.2.1 v_3.2.2.2.2.2.2.1 v_3.2.2.2.2.2.2.2.1 v_3.2.2.2.2.2.2.2.2.1 v_3.2.2.2.2.2.2.2.2.2.1 v_3.2.2.2.2.2.2.2.2.2.2.1 v_3.2.2.2.2.2.2.2.2.2.2.2.1 v_3.2.2.2.2.2.2.2.2.2.2.2.2 v_6.2.1 v_6.2.2 qu_graph qu_spare) H := hP
    have hD : va_D A (W_X_load cI cC cB qu qu_text qu_text_characters qu_result qu_spare_segmentNames qu_spare_sideStarts qu_spare_placeBases qu_spare_placeSides qu_spare_followers qu_spare_pathNames qu_spare_stepCounts qu_spare_steps qu_spare_joinFrom qu_spare_joinTo qu_reading qu_costs qu_told qu_result_sides qu_result_walkBackwards qu_result_editsBackwards qu_spare fu_text_length v_3.1 au_text_characters fu_result_found fu_result_cost fu_result_walkLength fu_result_editCount fu_result_sideCount fu_result_basesLeft fu_result_place v_3.2.1 v_3.2.2.1 v_3.2.2.2.1 v_3.2.2.2.2.1 v_6.1 v_3.2.2.2.2.2.1 v_3.2.2.2.2.2.2.1 v_3.2.2.2.2.2.2.2.1 v_3.2.2.2.2.2.2.2.2.1 v_3.2.2.2.2.2.2.2.2.2.1 v_3.2.2.2.2.2.2.2.2.2.2.1 v_3.2.2.2.2.2.2.2.2.2.2.2.1 v_3.2.2.2.2.2.2.2.2.2.2.2.2 v_6.2.1 v_6.2.2 qu_graph qu_spare) := hD
    refine lv_aload_n hx hb d_X_load_33 rfl (lv_at hl 1 rfl) ?_
    refine va_get (D := (dC, dI)) (ci := 0) (v := .ref qu_graph) (C := R_X) (T := T_X) (N := 7) hx hb hts in_X hown hK hP 0 rfl rfl 5 (by decide) (hts _ w_127) (fun _ h9 => h9) rfl d_X_load_34 ?_
    refine lv_astore_n (lv' := [(2, .ref qu_graph), (1, .int r_4), (0, .ref qu)]) hx hb d_X_load_37 rfl hl (by decide) rfl (fun ls hl => ?_)
    refine lv_aload_n hx hb d_X_load_38 rfl (lv_at hl 2 rfl) ?_
    refine lv_aload_n hx hb d_X_load_39 rfl (lv_at hl 2 rfl) ?_
    refine va_get (D := (dC, dI)) (ci := 0) (v := .ref qu_spare) (C := R_X) (T := T_X) (N := 7) hx hb hts in_X hown hK hP 0 rfl rfl 6 (by decide) (hts _ w_9) (fun _ h9 => h9) rfl d_X_load_40 ?_
    refine va_put (D := (dC, dI)) (ci := 0) (v := .ref qu_spare) (ty := (.object "WalkAligner$Graph")) (C := R_X) (T := T_X) (N := 7) hx hb hts in_X t_X t_X_ok n_X hown hK hP hD hS 0 rfl rfl 5 (by decide) (hts _ w_127) (fun _ h9 => h9) rfl (by decide +kernel) rfl rfl (Nat.le_of_ble_eq_true rfl) d_X_load_43 (fun H locs hP hD hS => ?_)
    have hP : va_P (dC, dI) cls (W_X_load cI cC cB qu qu_text qu_text_characters qu_result qu_spare_segmentNames qu_spare_sideStarts qu_spare_placeBases qu_spare_placeSides qu_spare_followers qu_spare_pathNames qu_spare_stepCounts qu_spare_steps qu_spare_joinFrom qu_spare_joinTo qu_reading qu_costs qu_told qu_result_sides qu_result_walkBackwards qu_result_editsBackwards qu_spare fu_text_length v_3.1 au_text_characters fu_result_found fu_result_cost fu_result_walkLength fu_result_editCount fu_result_sideCount fu_result_basesLeft fu_result_place v_3.2.1 v_3.2.2.1 v_3.2.2.2.1 v_3.2.2.2.2.1 v_6.1 v_3.2.2.2.2.2.1 v_3.2.2.2.2.2.2.1 v_3.2.2.2.2.2.2.2.1 v_3.2.2.2.2.2.2.2.2.1 v_3.2.2.2.2.2.2.2.2.2.1 v_3.2.2.2.2.2.2.2.2.2.2.1 v_3.2.2.2.2.2.2.2.2.2.2.2.1 v_3.2.2.2.2.2.2.2.2.2.2.2.2 v_6.2.1 v_6.2.2 qu_spare qu_spare) H := hP
    have hD : va_D A (W_X_load cI cC cB qu qu_text qu_text_characters qu_result qu_spare_segmentNames qu_spare_sideStarts qu_spare_placeBases qu_spare_placeSides qu_spare_followers qu_spare_pathNames qu_spare_stepCounts qu_spare_steps qu_spare_joinFrom qu_spare_joinTo qu_reading qu_costs qu_told qu_result_sides qu_result_walkBackwards qu_result_editsBackwards qu_spare fu_text_length v_3.1 au_text_characters fu_result_found fu_result_cost fu_result_walkLength fu_result_editCount fu_result_sideCount fu_result_basesLeft fu_result_place v_3.2.1 v_3.2.2.1 v_3.2.2.2.1 v_3.2.2.2.2.1 v_6.1 v_3.2.2.2.2.2.1 v_3.2.2.2.2.2.2.1 v_3.2.2.2.2.2.2.2.1 v_3.2.2.2.2.2.2.2.2.1 v_3.2.2.2.2.2.2.2.2.2.1 v_3.2.2.2.2.2.2.2.2.2.2.1 v_3.2.2.2.2.2.2.2.2.2.2.2.1 v_3.2.2.2.2.2.2.2.2.2.2.2.2 v_6.2.1 v_6.2.2 qu_spare qu_spare) := hD
    refine lv_aload_n hx hb d_X_load_46 rfl (lv_at hl 2 rfl) ?_
    refine lv_aload_n hx hb d_X_load_47 rfl (lv_at hl 0 rfl) ?_
    refine va_put (D := (dC, dI)) (ci := 0) (v := .ref qu_graph) (ty := (.object "WalkAligner$Graph")) (C := R_X) (T := T_X) (N := 7) hx hb hts in_X t_X t_X_ok n_X hown hK hP hD hS 0 rfl rfl 6 (by decide) (hts _ w_9) (fun _ h9 => h9) rfl (by decide +kernel) rfl rfl (Nat.le_of_ble_eq_true rfl) d_X_load_48 (fun H locs hP hD hS => ?_)
    have hP : va_P (dC, dI) cls (W_X_load cI cC cB qu qu_text qu_text_characters qu_result qu_spare_segmentNames qu_spare_sideStarts qu_spare_placeBases qu_spare_placeSides qu_spare_followers qu_spare_pathNames qu_spare_stepCounts qu_spare_steps qu_spare_joinFrom qu_spare_joinTo qu_reading qu_costs qu_told qu_result_sides qu_result_walkBackwards qu_result_editsBackwards qu_spare fu_text_length v_3.1 au_text_characters fu_result_found fu_result_cost fu_result_walkLength fu_result_editCount fu_result_sideCount fu_result_basesLeft fu_result_place v_3.2.1 v_3.2.2.1 v_3.2.2.2.1 v_3.2.2.2.2.1 v_6.1 v_3.2.2.2.2.2.1 v_3.2.2.2.2.2.2.1 v_3.2.2.2.2.2.2.2.1 v_3.2.2.2.2.2.2.2.2.1 v_3.2.2.2.2.2.2.2.2.2.1 v_3.2.2.2.2.2.2.2.2.2.2.1 v_3.2.2.2.2.2.2.2.2.2.2.2.1 v_3.2.2.2.2.2.2.2.2.2.2.2.2 v_6.2.1 v_6.2.2 qu_spare qu_graph) H := hP
    have hD : va_D A (W_X_load cI cC cB qu qu_text qu_text_characters qu_result qu_spare_segmentNames qu_spare_sideStarts qu_spare_placeBases qu_spare_placeSides qu_spare_followers qu_spare_pathNames qu_spare_stepCounts qu_spare_steps qu_spare_joinFrom qu_spare_joinTo qu_reading qu_costs qu_told qu_result_sides qu_result_walkBackwards qu_result_editsBackwards qu_spare fu_text_length v_3.1 au_text_characters fu_result_found fu_result_cost fu_result_walkLength fu_result_editCount fu_result_sideCount fu_result_basesLeft fu_result_place v_3.2.1 v_3.2.2.1 v_3.2.2.2.1 v_3.2.2.2.2.1 v_6.1 v_3.2.2.2.2.2.1 v_3.2.2.2.2.2.2.1 v_3.2.2.2.2.2.2.2.1 v_3.2.2.2.2.2.2.2.2.1 v_3.2.2.2.2.2.2.2.2.2.1 v_3.2.2.2.2.2.2.2.2.2.2.1 v_3.2.2.2.2.2.2.2.2.2.2.2.1 v_3.2.2.2.2.2.2.2.2.2.2.2.2 v_6.2.1 v_6.2.2 qu_spare qu_graph) := hD
    refine lv_aload_n hx hb d_X_load_51 rfl (lv_at hl 2 rfl) ?_
    refine va_get (D := (dC, dI)) (ci := 0) (v := .ref qu_result) (C := R_X) (T := T_X) (N := 7) hx hb hts in_X hown hK hP 0 rfl rfl 3 (by decide) (hts _ w_128) (fun _ h9 => h9) rfl d_X_load_52 ?_
    refine lv_iconst (v := 0) hx hb d_X_load_55 (by decide) ?_
    refine va_put (D := (dC, dI)) (ci := 4) (v := .int 0) (ty := .boolean) (C := R_Rs) (T := T_Rs) (N := 10) hx hb hts in_Rs t_Rs t_Rs_ok n_Rs hown hK hP hD hS 3 rfl rfl 0 (by decide) (hts _ w_129) (fun _ h9 => h9) rfl (by decide +kernel) rfl rfl (Nat.le_of_ble_eq_true rfl) d_X_load_56 (fun H locs hP hD hS => ?_)
    have hP : va_P (dC, dI) cls (W_X_load cI cC cB qu qu_text qu_text_characters qu_result qu_spare_segmentNames qu_spare_sideStarts qu_spare_placeBases qu_spare_placeSides qu_spare_followers qu_spare_pathNames qu_spare_stepCounts qu_spare_steps qu_spare_joinFrom qu_spare_joinTo qu_reading qu_costs qu_told qu_result_sides qu_result_walkBackwards qu_result_editsBackwards qu_spare fu_text_length v_3.1 au_text_characters 0 fu_result_cost fu_result_walkLength fu_result_editCount fu_result_sideCount fu_result_basesLeft fu_result_place v_3.2.1 v_3.2.2.1 v_3.2.2.2.1 v_3.2.2.2.2.1 v_6.1 v_3.2.2.2.2.2.1 v_3.2.2.2.2.2.2.1 v_3.2.2.2.2.2.2.2.1 v_3.2.2.2.2.2.2.2.2.1 v_3.2.2.2.2.2.2.2.2.2.1 v_3.2.2.2.2.2.2.2.2.2.2.1 v_3.2.2.2.2.2.2.2.2.2.2.2.1 v_3.2.2.2.2.2.2.2.2.2.2.2.2 v_6.2.1 v_6.2.2 qu_spare qu_graph) H := hP
    have hD : va_D A (W_X_load cI cC cB qu qu_text qu_text_characters qu_result qu_spare_segmentNames qu_spare_sideStarts qu_spare_placeBases qu_spare_placeSides qu_spare_followers qu_spare_pathNames qu_spare_stepCounts qu_spare_steps qu_spare_joinFrom qu_spare_joinTo qu_reading qu_costs qu_told qu_result_sides qu_result_walkBackwards qu_result_editsBackwards qu_spare fu_text_length v_3.1 au_text_characters 0 fu_result_cost fu_result_walkLength fu_result_editCount fu_result_sideCount fu_result_basesLeft fu_result_place v_3.2.1 v_3.2.2.1 v_3.2.2.2.1 v_3.2.2.2.2.1 v_6.1 v_3.2.2.2.2.2.1 v_3.2.2.2.2.2.2.1 v_3.2.2.2.2.2.2.2.1 v_3.2.2.2.2.2.2.2.2.1 v_3.2.2.2.2.2.2.2.2.2.1 v_3.2.2.2.2.2.2.2.2.2.2.1 v_3.2.2.2.2.2.2.2.2.2.2.2.1 v_3.2.2.2.2.2.2.2.2.2.2.2.2 v_6.2.1 v_6.2.2 qu_spare qu_graph) := hD
    refine lv_iconst (v := 0) hx hb d_X_load_59 (by decide) ?_
    exact hret (v_3.1, 0, v_3.2.1, v_3.2.2.1, v_3.2.2.2.1, v_3.2.2.2.2.1, v_6.1, v_3.2.2.2.2.2.1, v_3.2.2.2.2.2.2.1, v_3.2.2.2.2.2.2.2.1, v_3.2.2.2.2.2.2.2.2.1, v_3.2.2.2.2.2.2.2.2.2.1, v_3.2.2.2.2.2.2.2.2.2.2.1, v_3.2.2.2.2.2.2.2.2.2.2.2.1, v_3.2.2.2.2.2.2.2.2.2.2.2.2, v_6.2.1, v_6.2.2, qu_spare, qu_graph) () 0 _ _ _ _ rfl h hP hD hS d_X_load_60
  · have h := h.2 c_5
    refine lv_iload_n hx hb d_X_load_23 rfl (lv_at hl 0 rfl) ?_
    refine lv_ineg hx hb d_X_load_24 ?_
    refine lv_topi (fun x_8 ex_8 => ?_)
    have h := h x_8 ex_8
    exact hret (v_3.1, fu_result_found, v_3.2.1, v_3.2.2.1, v_3.2.2.2.1, v_3.2.2.2.2.1, v_1.2.2.2.2.1, v_3.2.2.2.2.2.1, v_3.2.2.2.2.2.2.1, v_3.2.2.2.2.2.2.2.1, v_3.2.2.2.2.2.2.2.2.1, v_3.2.2.2.2.2.2.2.2.2.1, v_3.2.2.2.2.2.2.2.2.2.2.1, v_3.2.2.2.2.2.2.2.2.2.2.2.1, v_3.2.2.2.2.2.2.2.2.2.2.2.2, au_spare_joinFrom, au_spare_joinTo, qu_graph, qu_spare) () x_8 _ _ _ _ rfl h hP hD hS d_X_load_25
abbrev W_X_size (cI cC cB : ClassId) (qu : Nat) (qu_graph : Nat) (qu_text : Nat) (qu_reading : Nat) (qu_costs : Nat) (qu_result : Nat) (qu_told : Nat) (qu_spare : Nat) (qu_graph_segmentNames : Nat) (qu_graph_sideStarts : Nat) (qu_graph_placeBases : Nat) (qu_graph_placeSides : Nat) (qu_graph_followers : Nat) (qu_graph_pathNames : Nat) (qu_graph_stepCounts : Nat) (qu_graph_steps : Nat) (qu_graph_joinFrom : Nat) (qu_graph_joinTo : Nat) (fu_graph_segments : Int32) (fu_graph_links : Int32) (fu_graph_paths : Int32) (fu_graph_places : Int32) (fu_graph_joins : Int32) : va_W := [(qu, .inr (0, [.ref qu_text, .ref qu_reading, .ref qu_costs, .ref qu_result, .ref qu_told, .ref qu_graph, .ref qu_spare])), (qu_graph, .inr (5, [.int fu_graph_segments, .int fu_graph_links, .int fu_graph_paths, .int fu_graph_places, .int fu_graph_joins, .ref qu_graph_segmentNames, .ref qu_graph_sideStarts, .ref qu_graph_placeBases, .ref qu_graph_placeSides, .ref qu_graph_followers, .ref qu_graph_pathNames, .ref qu_graph_stepCounts, .ref qu_graph_steps, .ref qu_graph_joinFrom, .ref qu_graph_joinTo]))]
def wp_X_size (Q : Int32 → Unit → Prop) (p1 : Int32) (fu_graph_segments : Int32) (fu_graph_links : Int32) (fu_graph_paths : Int32) (fu_graph_places : Int32) : Prop := ((p1 = 0 → (Q fu_graph_segments ())) ∧ (¬ p1 = 0 → (((p1 = 1 → (Q fu_graph_links ())) ∧ (¬ p1 = 1 → (((p1 = 2 → (Q fu_graph_paths ())) ∧ (¬ p1 = 2 → (((p1 = 3 → (Q fu_graph_places ())) ∧ (¬ p1 = 3 → (Q (-1) ()))))))))))))
abbrev rm_X_size : Room := { frames := 0, cells := 0, slots := 0, locals := 0 }
set_option maxHeartbeats 4000000 in
set_option maxRecDepth 100000 in
theorem k_X_size (l : Launch) (dC : Nat → ClassId) (dI : Nat → Nat → Nat) (cI cC cB : ClassId) (sz : Nat) (qu : Nat) (qu_graph : Nat) (qu_text : Nat) (qu_reading : Nat) (qu_costs : Nat) (qu_result : Nat) (qu_told : Nat) (qu_spare : Nat) (qu_graph_segmentNames : Nat) (qu_graph_sideStarts : Nat) (qu_graph_placeBases : Nat) (qu_graph_placeSides : Nat) (qu_graph_followers : Nat) (qu_graph_pathNames : Nat) (qu_graph_stepCounts : Nat) (qu_graph_steps : Nat) (qu_graph_joinFrom : Nat) (qu_graph_joinTo : Nat) (fu_graph_segments : Int32) (fu_graph_links : Int32) (fu_graph_paths : Int32) (fu_graph_places : Int32) (fu_graph_joins : Int32) (p1 : Int32) {Q : Int32 → Unit → Prop} (h : wp_X_size Q p1 fu_graph_segments fu_graph_links fu_graph_paths fu_graph_places) :
    CTi l y_X_size (wM y_X_size c_X_size 2 (some .int)) rm_X_size 0 0 (dC, dI) (tysL cI cC cB) [.ref qu, .int p1] (W_X_size cI cC cB qu qu_graph qu_text qu_reading qu_costs qu_result qu_told qu_spare qu_graph_segmentNames qu_graph_sideStarts qu_graph_placeBases qu_graph_placeSides qu_graph_followers qu_graph_pathNames qu_graph_stepCounts qu_graph_steps qu_graph_joinFrom qu_graph_joinTo fu_graph_segments fu_graph_links fu_graph_paths fu_graph_places fu_graph_joins) sz Q (fun (v : Unit) (b : Unit) => (W_X_size cI cC cB qu qu_graph qu_text qu_reading qu_costs qu_result qu_told qu_spare qu_graph_segmentNames qu_graph_sideStarts qu_graph_placeBases qu_graph_placeSides qu_graph_followers qu_graph_pathNames qu_graph_stepCounts qu_graph_steps qu_graph_joinFrom qu_graph_joinTo fu_graph_segments fu_graph_links fu_graph_paths fu_graph_places fu_graph_joins)) := by
  refine CTi.std (by decide) (Nat.le_of_ble_eq_true rfl) ?_
  intro p e s m args below meth c A ls QF C0 hP hD hl hS hsz hnm hret
  obtain ⟨hx, hb, hr, hml, hown, hts, hlocks, hN, hA, hK⟩ := id C0
  have hown : s.vm.findClass R_X = some m.cls := hown
  have hl : lv_has ls 2 [(0, .ref qu), (1, .int p1)] := hl
  clear hsz hnm
  unfold wp_X_size at h
  refine lv_iload_n hx hb d_X_size_0 rfl (lv_at hl 1 rfl) ?_
  by_cases c_1 : p1 = 0
  · have h := h.1 c_1
    refine lv_tableIn (off := 31) (tgt := 32) hx hb d_X_size_1 (by rw [c_1]; decide) (by rw [c_1]; decide) (by rw [c_1]; decide) (by decide) ?_
    refine lv_aload_n hx hb d_X_size_32 rfl (lv_at hl 0 rfl) ?_
    refine va_get (D := (dC, dI)) (ci := 0) (v := .ref qu_graph) (C := R_X) (T := T_X) (N := 7) hx hb hts in_X hown hK hP 0 rfl rfl 5 (by decide) (hts _ w_127) (fun _ h9 => h9) rfl d_X_size_33 ?_
    refine va_get (D := (dC, dI)) (ci := 5) (v := .int fu_graph_segments) (C := R_Gr) (T := T_Gr) (N := 15) hx hb hts in_Gr hown hK hP 1 rfl rfl 0 (by decide) (hts _ w_141) (fun _ h9 => h9) rfl d_X_size_36 ?_
    exact hret () () fu_graph_segments _ _ _ _ rfl h hP hD hS d_X_size_39
  have h := h.2 c_1
  by_cases c_2 : p1 = 1
  · have h := h.1 c_2
    refine lv_tableIn (off := 39) (tgt := 40) hx hb d_X_size_1 (by rw [c_2]; decide) (by rw [c_2]; decide) (by rw [c_2]; decide) (by decide) ?_
    refine lv_aload_n hx hb d_X_size_40 rfl (lv_at hl 0 rfl) ?_
    refine va_get (D := (dC, dI)) (ci := 0) (v := .ref qu_graph) (C := R_X) (T := T_X) (N := 7) hx hb hts in_X hown hK hP 0 rfl rfl 5 (by decide) (hts _ w_127) (fun _ h9 => h9) rfl d_X_size_41 ?_
    refine va_get (D := (dC, dI)) (ci := 5) (v := .int fu_graph_links) (C := R_Gr) (T := T_Gr) (N := 15) hx hb hts in_Gr hown hK hP 1 rfl rfl 1 (by decide) (hts _ w_142) (fun _ h9 => h9) rfl d_X_size_44 ?_
    exact hret () () fu_graph_links _ _ _ _ rfl h hP hD hS d_X_size_47
  have h := h.2 c_2
  by_cases c_3 : p1 = 2
  · have h := h.1 c_3
    refine lv_tableIn (off := 47) (tgt := 48) hx hb d_X_size_1 (by rw [c_3]; decide) (by rw [c_3]; decide) (by rw [c_3]; decide) (by decide) ?_
    refine lv_aload_n hx hb d_X_size_48 rfl (lv_at hl 0 rfl) ?_
    refine va_get (D := (dC, dI)) (ci := 0) (v := .ref qu_graph) (C := R_X) (T := T_X) (N := 7) hx hb hts in_X hown hK hP 0 rfl rfl 5 (by decide) (hts _ w_127) (fun _ h9 => h9) rfl d_X_size_49 ?_
    refine va_get (D := (dC, dI)) (ci := 5) (v := .int fu_graph_paths) (C := R_Gr) (T := T_Gr) (N := 15) hx hb hts in_Gr hown hK hP 1 rfl rfl 2 (by decide) (hts _ w_143) (fun _ h9 => h9) rfl d_X_size_52 ?_
    exact hret () () fu_graph_paths _ _ _ _ rfl h hP hD hS d_X_size_55
  have h := h.2 c_3
  by_cases c_4 : p1 = 3
  · have h := h.1 c_4
    refine lv_tableIn (off := 55) (tgt := 56) hx hb d_X_size_1 (by rw [c_4]; decide) (by rw [c_4]; decide) (by rw [c_4]; decide) (by decide) ?_
    refine lv_aload_n hx hb d_X_size_56 rfl (lv_at hl 0 rfl) ?_
    refine va_get (D := (dC, dI)) (ci := 0) (v := .ref qu_graph) (C := R_X) (T := T_X) (N := 7) hx hb hts in_X hown hK hP 0 rfl rfl 5 (by decide) (hts _ w_127) (fun _ h9 => h9) rfl d_X_size_57 ?_
    refine va_get (D := (dC, dI)) (ci := 5) (v := .int fu_graph_places) (C := R_Gr) (T := T_Gr) (N := 15) hx hb hts in_Gr hown hK hP 1 rfl rfl 3 (by decide) (hts _ w_144) (fun _ h9 => h9) rfl d_X_size_60 ?_
    exact hret () () fu_graph_places _ _ _ _ rfl h hP hD hS d_X_size_63
  have h := h.2 c_4
  refine lv_tableOut (tgt := 64) hx hb d_X_size_1 (by have t0 := lv_neT (a := 0) c_1 (by decide); have t1 := lv_neT (a := 1) c_2 (by decide); have t2 := lv_neT (a := 2) c_3 (by decide); have t3 := lv_neT (a := 3) c_4 (by decide); omega) (by decide) ?_
  refine lv_iconst (v := (-1)) hx hb d_X_size_64 (by decide) ?_
  exact hret () () (-1) _ _ _ _ rfl h hP hD hS d_X_size_65
abbrev W_Gr_hasPlace (cI cC cB : ClassId) (qu : Nat) (qu_segmentNames : Nat) (qu_sideStarts : Nat) (qu_placeBases : Nat) (qu_placeSides : Nat) (qu_followers : Nat) (qu_pathNames : Nat) (qu_stepCounts : Nat) (qu_steps : Nat) (qu_joinFrom : Nat) (qu_joinTo : Nat) (fu_segments : Int32) (fu_links : Int32) (fu_paths : Int32) (fu_places : Int32) (fu_joins : Int32) : va_W := [(qu, .inr (5, [.int fu_segments, .int fu_links, .int fu_paths, .int fu_places, .int fu_joins, .ref qu_segmentNames, .ref qu_sideStarts, .ref qu_placeBases, .ref qu_placeSides, .ref qu_followers, .ref qu_pathNames, .ref qu_stepCounts, .ref qu_steps, .ref qu_joinFrom, .ref qu_joinTo]))]
def wp_Gr_hasPlace (Q : Int32 → Unit → Prop) (p1 : Int32) (fu_places : Int32) : Prop := ((p1 < 0 → (Q 0 ())) ∧ (¬ p1 < 0 → (((fu_places ≤ p1 → (Q 0 ())) ∧ (¬ fu_places ≤ p1 → (Q 1 ()))))))
abbrev rm_Gr_hasPlace : Room := { frames := 0, cells := 0, slots := 0, locals := 0 }
set_option maxHeartbeats 4000000 in
set_option maxRecDepth 100000 in
theorem k_Gr_hasPlace (l : Launch) (dC : Nat → ClassId) (dI : Nat → Nat → Nat) (cI cC cB : ClassId) (sz : Nat) (qu : Nat) (qu_segmentNames : Nat) (qu_sideStarts : Nat) (qu_placeBases : Nat) (qu_placeSides : Nat) (qu_followers : Nat) (qu_pathNames : Nat) (qu_stepCounts : Nat) (qu_steps : Nat) (qu_joinFrom : Nat) (qu_joinTo : Nat) (fu_segments : Int32) (fu_links : Int32) (fu_paths : Int32) (fu_places : Int32) (fu_joins : Int32) (p1 : Int32) {Q : Int32 → Unit → Prop} (h : wp_Gr_hasPlace Q p1 fu_places) :
    CTi l y_Gr_hasPlace (wM y_Gr_hasPlace c_Gr_hasPlace 2 (some .boolean)) rm_Gr_hasPlace 0 0 (dC, dI) (tysL cI cC cB) [.ref qu, .int p1] (W_Gr_hasPlace cI cC cB qu qu_segmentNames qu_sideStarts qu_placeBases qu_placeSides qu_followers qu_pathNames qu_stepCounts qu_steps qu_joinFrom qu_joinTo fu_segments fu_links fu_paths fu_places fu_joins) sz Q (fun (v : Unit) (b : Unit) => (W_Gr_hasPlace cI cC cB qu qu_segmentNames qu_sideStarts qu_placeBases qu_placeSides qu_followers qu_pathNames qu_stepCounts qu_steps qu_joinFrom qu_joinTo fu_segments fu_links fu_paths fu_places fu_joins)) := by
  refine CTi.std (by decide) (Nat.le_of_ble_eq_true rfl) ?_
  intro p e s m args below meth c A ls QF C0 hP hD hl hS hsz hnm hret
  obtain ⟨hx, hb, hr, hml, hown, hts, hlocks, hN, hA, hK⟩ := id C0
  have hown : s.vm.findClass R_Gr = some m.cls := hown
  have hl : lv_has ls 2 [(0, .ref qu), (1, .int p1)] := hl
  clear hsz hnm
  unfold wp_Gr_hasPlace at h
  refine lv_iload_n hx hb d_Gr_hasPlace_0 rfl (lv_at hl 1 rfl) ?_
  refine lv_if_lt (tgt := 16) hx hb d_Gr_hasPlace_1 (by decide) (fun c_1 => ?_) (fun c_1 => ?_)
  · have h := h.1 c_1
    refine lv_iconst (v := 0) hx hb d_Gr_hasPlace_16 (by decide) ?_
    exact hret () () 0 _ _ _ _ rfl h hP hD hS d_Gr_hasPlace_17
  · have h := h.2 c_1
    refine lv_iload_n hx hb d_Gr_hasPlace_4 rfl (lv_at hl 1 rfl) ?_
    refine lv_aload_n hx hb d_Gr_hasPlace_5 rfl (lv_at hl 0 rfl) ?_
    refine va_get (D := (dC, dI)) (ci := 5) (v := .int fu_places) (C := R_Gr) (T := T_Gr) (N := 15) hx hb hts in_Gr hown hK hP 0 rfl rfl 3 (by decide) (hts _ w_13) (fun _ h9 => h9) rfl d_Gr_hasPlace_6 ?_
    refine lv_icmp_ge (tgt := 16) hx hb d_Gr_hasPlace_9 (by decide) (fun c_2 => ?_) (fun c_2 => ?_)
    · have h := h.1 c_2
      refine lv_iconst (v := 0) hx hb d_Gr_hasPlace_16 (by decide) ?_
      exact hret () () 0 _ _ _ _ rfl h hP hD hS d_Gr_hasPlace_17
    · have h := h.2 c_2
      refine lv_iconst (v := 1) hx hb d_Gr_hasPlace_12 (by decide) ?_
      refine lv_goto (tgt := 17) hx hb d_Gr_hasPlace_13 (by decide) ?_
      exact hret () () 1 _ _ _ _ rfl h hP hD hS d_Gr_hasPlace_17
abbrev W_X_base (cI cC cB : ClassId) (qu : Nat) (qu_graph : Nat) (qu_graph_placeBases : Nat) (qu_text : Nat) (qu_reading : Nat) (qu_costs : Nat) (qu_result : Nat) (qu_told : Nat) (qu_spare : Nat) (qu_graph_segmentNames : Nat) (qu_graph_sideStarts : Nat) (qu_graph_placeSides : Nat) (qu_graph_followers : Nat) (qu_graph_pathNames : Nat) (qu_graph_stepCounts : Nat) (qu_graph_steps : Nat) (qu_graph_joinFrom : Nat) (qu_graph_joinTo : Nat) (fu_graph_segments : Int32) (fu_graph_links : Int32) (fu_graph_paths : Int32) (fu_graph_places : Int32) (fu_graph_joins : Int32) (au_graph_placeBases : Nat → Int32) : va_W := [(qu, .inr (0, [.ref qu_text, .ref qu_reading, .ref qu_costs, .ref qu_result, .ref qu_told, .ref qu_graph, .ref qu_spare])), (qu_graph, .inr (5, [.int fu_graph_segments, .int fu_graph_links, .int fu_graph_paths, .int fu_graph_places, .int fu_graph_joins, .ref qu_graph_segmentNames, .ref qu_graph_sideStarts, .ref qu_graph_placeBases, .ref qu_graph_placeSides, .ref qu_graph_followers, .ref qu_graph_pathNames, .ref qu_graph_stepCounts, .ref qu_graph_steps, .ref qu_graph_joinFrom, .ref qu_graph_joinTo])), (qu_graph_placeBases, .inl (cC, 64, .inl au_graph_placeBases))]
def wp_X_base (Q : Int32 → Unit → Prop) (p1 : Int32) (fu_graph_places : Int32) (au_graph_placeBases : Nat → Int32) : Prop := wp_Gr_hasPlace (fun r_2 v_1 => ((r_2 = 0 → (Q (-1) ())) ∧ (¬ r_2 = 0 → (vp_in p1 64 ∧ (∀ y_5 : Int32, y_5 = au_graph_placeBases p1.toNatClampNeg → (Q y_5 ())))))) p1 fu_graph_places
abbrev rm_X_base : Room := { frames := 1, cells := 0, slots := 0, locals := 21 }
set_option maxHeartbeats 4000000 in
set_option maxRecDepth 100000 in
theorem k_X_base (l : Launch) (dC : Nat → ClassId) (dI : Nat → Nat → Nat) (cI cC cB : ClassId) (sz : Nat) (qu : Nat) (qu_graph : Nat) (qu_graph_placeBases : Nat) (qu_text : Nat) (qu_reading : Nat) (qu_costs : Nat) (qu_result : Nat) (qu_told : Nat) (qu_spare : Nat) (qu_graph_segmentNames : Nat) (qu_graph_sideStarts : Nat) (qu_graph_placeSides : Nat) (qu_graph_followers : Nat) (qu_graph_pathNames : Nat) (qu_graph_stepCounts : Nat) (qu_graph_steps : Nat) (qu_graph_joinFrom : Nat) (qu_graph_joinTo : Nat) (fu_graph_segments : Int32) (fu_graph_links : Int32) (fu_graph_paths : Int32) (fu_graph_places : Int32) (fu_graph_joins : Int32) (au_graph_placeBases : Nat → Int32) (p1 : Int32) {Q : Int32 → Unit → Prop} (h : wp_X_base Q p1 fu_graph_places au_graph_placeBases) :
    CTi l y_X_base (wM y_X_base c_X_base 2 (some .int)) rm_X_base 0 0 (dC, dI) (tysL cI cC cB) [.ref qu, .int p1] (W_X_base cI cC cB qu qu_graph qu_graph_placeBases qu_text qu_reading qu_costs qu_result qu_told qu_spare qu_graph_segmentNames qu_graph_sideStarts qu_graph_placeSides qu_graph_followers qu_graph_pathNames qu_graph_stepCounts qu_graph_steps qu_graph_joinFrom qu_graph_joinTo fu_graph_segments fu_graph_links fu_graph_paths fu_graph_places fu_graph_joins au_graph_placeBases) sz Q (fun (v : Unit) (b : Unit) => (W_X_base cI cC cB qu qu_graph qu_graph_placeBases qu_text qu_reading qu_costs qu_result qu_told qu_spare qu_graph_segmentNames qu_graph_sideStarts qu_graph_placeSides qu_graph_followers qu_graph_pathNames qu_graph_stepCounts qu_graph_steps qu_graph_joinFrom qu_graph_joinTo fu_graph_segments fu_graph_links fu_graph_paths fu_graph_places fu_graph_joins au_graph_placeBases)) := by
  refine CTi.std (by decide) (Nat.le_of_ble_eq_true rfl) ?_
  intro p e s m args below meth c A ls QF C0 hP hD hl hS hsz hnm hret
  obtain ⟨hx, hb, hr, hml, hown, hts, hlocks, hN, hA, hK⟩ := id C0
  have hown : s.vm.findClass R_X = some m.cls := hown
  have hl : lv_has ls 2 [(0, .ref qu), (1, .int p1)] := hl
  clear hsz hnm
  unfold wp_X_base at h
  refine lv_aload_n hx hb d_X_base_0 rfl (lv_at hl 0 rfl) ?_
  refine va_get (D := (dC, dI)) (ci := 0) (v := .ref qu_graph) (C := R_X) (T := T_X) (N := 7) hx hb hts in_X hown hK hP 0 rfl rfl 5 (by decide) (hts _ w_127) (fun _ h9 => h9) rfl d_X_base_1 ?_
  refine lv_iload_n hx hb d_X_base_4 rfl (lv_at hl 1 rfl) ?_
  refine call_V_i (As := [.int p1]) (rest := []) C0 hP hD hS [1] [0, 2] [0, 2, 1] [(qu, .inr (0, [.ref qu_text, .ref qu_reading, .ref qu_costs, .ref qu_result, .ref qu_told, .ref qu_graph, .ref qu_spare])), (qu_graph_placeBases, .inl (cC, 64, .inl au_graph_placeBases))] (fun (v : Unit) (b : Unit) => (W_X_base cI cC cB qu qu_graph qu_graph_placeBases qu_text qu_reading qu_costs qu_result qu_told qu_spare qu_graph_segmentNames qu_graph_sideStarts qu_graph_placeSides qu_graph_followers qu_graph_pathNames qu_graph_stepCounts qu_graph_steps qu_graph_joinFrom qu_graph_joinTo fu_graph_segments fu_graph_links fu_graph_paths fu_graph_places fu_graph_joins au_graph_placeBases)) (ci := 5) rfl rfl (k_Gr_hasPlace l dC dI cI cC cB _ qu_graph qu_graph_segmentNames qu_graph_sideStarts qu_graph_placeBases qu_graph_placeSides qu_graph_followers qu_graph_pathNames qu_graph_stepCounts qu_graph_steps qu_graph_joinFrom qu_graph_joinTo fu_graph_segments fu_graph_links fu_graph_paths fu_graph_places fu_graph_joins p1 h) (g_V w_147 w_148 w_149 w_40 w_146) 1 rfl (by decide +kernel) rfl rfl ⟨Nat.le_of_ble_eq_true rfl, Nat.le_of_ble_eq_true rfl⟩ rfl rfl (by decide) (by decide) (by decide) (by decide) (fun _ _ => rfl) hl.1 rfl (Nat.le_of_ble_eq_true rfl) d_X_base_5 ⟨Nat.le_of_ble_eq_true rfl, Nat.le_of_ble_eq_true rfl⟩ (fun r_2 v_1 _ H locs h hP hD hS => ?_)
  have hP : va_P (dC, dI) cls (W_X_base cI cC cB qu qu_graph qu_graph_placeBases qu_text qu_reading qu_costs qu_result qu_told qu_spare qu_graph_segmentNames qu_graph_sideStarts qu_graph_placeSides qu_graph_followers qu_graph_pathNames qu_graph_stepCounts qu_graph_steps qu_graph_joinFrom qu_graph_joinTo fu_graph_segments fu_graph_links fu_graph_paths fu_graph_places fu_graph_joins au_graph_placeBases) H := hP
  have hD : va_D A (W_X_base cI cC cB qu qu_graph qu_graph_placeBases qu_text qu_reading qu_costs qu_result qu_told qu_spare qu_graph_segmentNames qu_graph_sideStarts qu_graph_placeSides qu_graph_followers qu_graph_pathNames qu_graph_stepCounts qu_graph_steps qu_graph_joinFrom qu_graph_joinTo fu_graph_segments fu_graph_links fu_graph_paths fu_graph_places fu_graph_joins au_graph_placeBases) := hD
  refine lv_if_eq (tgt := 23) hx hb d_X_base_8 (by decide) (fun c_3 => ?_) (fun c_3 => ?_)
  · have h := h.1 c_3
    refine lv_iconst (v := (-1)) hx hb d_X_base_23 (by decide) ?_
    exact hret () () (-1) _ _ _ _ rfl h hP hD hS d_X_base_24
  · have h := h.2 c_3
    refine lv_aload_n hx hb d_X_base_11 rfl (lv_at hl 0 rfl) ?_
    refine va_get (D := (dC, dI)) (ci := 0) (v := .ref qu_graph) (C := R_X) (T := T_X) (N := 7) hx hb hts in_X hown hK hP 0 rfl rfl 5 (by decide) (hts _ w_127) (fun _ h9 => h9) rfl d_X_base_12 ?_
    refine va_get (D := (dC, dI)) (ci := 5) (v := .ref qu_graph_placeBases) (C := R_Gr) (T := T_Gr) (N := 15) hx hb hts in_Gr hown hK hP 1 rfl rfl 7 (by decide) (hts _ w_145) (fun _ h9 => h9) rfl d_X_base_15 ?_
    refine lv_iload_n hx hb d_X_base_18 rfl (lv_at hl 1 rfl) ?_
    have hi_4 := h.1
    have h := h.2
    refine va_cald hx hb hK hP 2 1 rfl rfl hi_4 d_X_base_19 ?_
    refine lv_topi (fun y_5 ey_5 => ?_)
    have h := h y_5 ey_5
    refine lv_goto (tgt := 24) hx hb d_X_base_20 (by decide) ?_
    exact hret () () y_5 _ _ _ _ rfl h hP hD hS d_X_base_24
abbrev W_Gr_areJoined (cI cC cB : ClassId) (qu : Nat) (qu_joinFrom : Nat) (qu_joinTo : Nat) (qu_segmentNames : Nat) (qu_sideStarts : Nat) (qu_placeBases : Nat) (qu_placeSides : Nat) (qu_followers : Nat) (qu_pathNames : Nat) (qu_stepCounts : Nat) (qu_steps : Nat) (fu_segments : Int32) (fu_links : Int32) (fu_paths : Int32) (fu_places : Int32) (fu_joins : Int32) (au_joinFrom : Nat → Int32) (au_joinTo : Nat → Int32) : va_W := [(qu, .inr (5, [.int fu_segments, .int fu_links, .int fu_paths, .int fu_places, .int fu_joins, .ref qu_segmentNames, .ref qu_sideStarts, .ref qu_placeBases, .ref qu_placeSides, .ref qu_followers, .ref qu_pathNames, .ref qu_stepCounts, .ref qu_steps, .ref qu_joinFrom, .ref qu_joinTo])), (qu_joinFrom, .inl (cI, 72, .inl au_joinFrom)), (qu_joinTo, .inl (cI, 72, .inl au_joinTo))]
def w_Gr_areJoined_32 (Q : Int32 → Unit → Prop) (K_2 : Int32 → Prop) (p1 : Int32) (p2 : Int32) (fu_joins : Int32) (au_joinFrom : Nat → Int32) (au_joinTo : Nat → Int32) (x3 : Int32) : Prop := ∀ x3_1 : Int32, x3_1 = x3 + 1 → (K_2 x3_1)
def w_Gr_areJoined_2B (Q : Int32 → Unit → Prop)  (K_2 : Int32 → Prop) (p1 : Int32) (p2 : Int32) (fu_joins : Int32) (au_joinFrom : Nat → Int32) (au_joinTo : Nat → Int32) (x3 : Int32) : Prop := ((fu_joins ≤ x3 → (Q 0 ())) ∧ (¬ fu_joins ≤ x3 → (vp_in x3 72 ∧ (∀ y_4 : Int32, y_4 = au_joinFrom x3.toNatClampNeg → (((y_4 = p1 → (vp_in x3 72 ∧ (∀ y_7 : Int32, y_7 = au_joinTo x3.toNatClampNeg → (((y_7 = p2 → (Q 1 ())) ∧ (¬ y_7 = p2 → (w_Gr_areJoined_32 Q K_2 p1 p2 fu_joins au_joinFrom au_joinTo x3))))))) ∧ (¬ y_4 = p1 → (w_Gr_areJoined_32 Q K_2 p1 p2 fu_joins au_joinFrom au_joinTo x3))))))))
def w_Gr_areJoined_2 (Q : Int32 → Unit → Prop)  (p1 : Int32) (p2 : Int32) (fu_joins : Int32) (au_joinFrom : Nat → Int32) (au_joinTo : Nat → Int32) : Nat → Int32 → Prop
  | 0 => fun _ => False
  | n + 1 => fun x3 => w_Gr_areJoined_2B Q  (w_Gr_areJoined_2 Q  p1 p2 fu_joins au_joinFrom au_joinTo n) p1 p2 fu_joins au_joinFrom au_joinTo x3
def wp_Gr_areJoined (Q : Int32 → Unit → Prop) (p1 : Int32) (p2 : Int32) (fu_joins : Int32) (au_joinFrom : Nat → Int32) (au_joinTo : Nat → Int32) : Prop := ∃ fu_2 : Nat, w_Gr_areJoined_2 Q p1 p2 fu_joins au_joinFrom au_joinTo fu_2 0
abbrev rm_Gr_areJoined : Room := { frames := 0, cells := 0, slots := 0, locals := 0 }
set_option maxHeartbeats 4000000 in
set_option maxRecDepth 100000 in
theorem k_Gr_areJoined (l : Launch) (dC : Nat → ClassId) (dI : Nat → Nat → Nat) (cI cC cB : ClassId) (sz : Nat) (qu : Nat) (qu_joinFrom : Nat) (qu_joinTo : Nat) (qu_segmentNames : Nat) (qu_sideStarts : Nat) (qu_placeBases : Nat) (qu_placeSides : Nat) (qu_followers : Nat) (qu_pathNames : Nat) (qu_stepCounts : Nat) (qu_steps : Nat) (fu_segments : Int32) (fu_links : Int32) (fu_paths : Int32) (fu_places : Int32) (fu_joins : Int32) (au_joinFrom : Nat → Int32) (au_joinTo : Nat → Int32) (p1 : Int32) (p2 : Int32) {Q : Int32 → Unit → Prop} (h : wp_Gr_areJoined Q p1 p2 fu_joins au_joinFrom au_joinTo) :
    CTi l y_Gr_areJoined (wM y_Gr_areJoined c_Gr_areJoined 4 (some .boolean)) rm_Gr_areJoined 0 0 (dC, dI) (tysL cI cC cB) [.ref qu, .int p1, .int p2] (W_Gr_areJoined cI cC cB qu qu_joinFrom qu_joinTo qu_segmentNames qu_sideStarts qu_placeBases qu_placeSides qu_followers qu_pathNames qu_stepCounts qu_steps fu_segments fu_links fu_paths fu_places fu_joins au_joinFrom au_joinTo) sz Q (fun (v : Unit) (b : Unit) => (W_Gr_areJoined cI cC cB qu qu_joinFrom qu_joinTo qu_segmentNames qu_sideStarts qu_placeBases qu_placeSides qu_followers qu_pathNames qu_stepCounts qu_steps fu_segments fu_links fu_paths fu_places fu_joins au_joinFrom au_joinTo)) := by
  refine CTi.std (by decide) (Nat.le_of_ble_eq_true rfl) ?_
  intro p e s m args below meth c A ls QF C0 hP hD hl hS hsz hnm hret
  obtain ⟨hx, hb, hr, hml, hown, hts, hlocks, hN, hA, hK⟩ := id C0
  have hown : s.vm.findClass R_Gr = some m.cls := hown
  have hl : lv_has ls 4 [(0, .ref qu), (1, .int p1), (2, .int p2)] := hl
  clear hsz hnm
  have blk_32 : ∀ (K_2 : Int32 → Prop) (hK_2 : ∀ (x3 : Int32)  (H : Heap) (locs : List Loc) (ls : Array Slot), K_2 x3 → va_P (dC, dI) cls (W_Gr_areJoined cI cC cB qu qu_joinFrom qu_joinTo qu_segmentNames qu_sideStarts qu_placeBases qu_placeSides qu_followers qu_pathNames qu_stepCounts qu_steps fu_segments fu_links fu_paths fu_places fu_joins au_joinFrom au_joinTo) H → va_D A (W_Gr_areJoined cI cC cB qu qu_joinFrom qu_joinTo qu_segmentNames qu_sideStarts qu_placeBases qu_placeSides qu_followers qu_pathNames qu_stepCounts qu_steps fu_segments fu_links fu_paths fu_places fu_joins au_joinFrom au_joinTo) → va_S A s.heap H locs → lv_has ls 4 [(0, .ref qu), (1, .int p1), (2, .int p2), (3, .int x3)] → W p l e rm_Gr_areJoined s m args below meth c H locs 0 0 QF (F0 m 2 ls [])) (x3 : Int32)  (H : Heap) (locs : List Loc) (ls : Array Slot), w_Gr_areJoined_32 Q K_2 p1 p2 fu_joins au_joinFrom au_joinTo x3 → va_P (dC, dI) cls (W_Gr_areJoined cI cC cB qu qu_joinFrom qu_joinTo qu_segmentNames qu_sideStarts qu_placeBases qu_placeSides qu_followers qu_pathNames qu_stepCounts qu_steps fu_segments fu_links fu_paths fu_places fu_joins au_joinFrom au_joinTo) H → va_D A (W_Gr_areJoined cI cC cB qu qu_joinFrom qu_joinTo qu_segmentNames qu_sideStarts qu_placeBases qu_placeSides qu_followers qu_pathNames qu_stepCounts qu_steps fu_segments fu_links fu_paths fu_places fu_joins au_joinFrom au_joinTo) → va_S A s.heap H locs → lv_has ls 4 [(0, .ref qu), (1, .int p1), (2, .int p2), (3, .int x3)] → W p l e rm_Gr_areJoined s m args below meth c H locs 0 0 QF (F0 m 32 ls []) := by
    intro K_2 hK_2 x3  H locs ls h hP hD hS hl
    unfold w_Gr_areJoined_32 at h
    obtain ⟨x3_1, ex3_1⟩ : ∃ y : Int32, y = x3 + 1 := ⟨_, rfl⟩
    have h := h x3_1 ex3_1
    refine lv_iinc (v := x3_1) (lv' := [(3, .int x3_1), (0, .ref qu), (1, .int p1), (2, .int p2)]) hx hb d_Gr_areJoined_32 hl (k := 3) rfl (by rw [ex3_1]; rfl) (by decide) rfl (fun ls hl => ?_)
    refine lv_goto (tgt := 2) hx hb d_Gr_areJoined_35 (by decide) ?_
    exact hK_2 _ _ _ _ h hP hD hS (lv_sub hl [1, 2, 3, 0] rfl)
  have blk_2 : ∀  (n : Nat) (x3 : Int32)  (H : Heap) (locs : List Loc) (ls : Array Slot), w_Gr_areJoined_2 Q  p1 p2 fu_joins au_joinFrom au_joinTo n x3 → va_P (dC, dI) cls (W_Gr_areJoined cI cC cB qu qu_joinFrom qu_joinTo qu_segmentNames qu_sideStarts qu_placeBases qu_placeSides qu_followers qu_pathNames qu_stepCounts qu_steps fu_segments fu_links fu_paths fu_places fu_joins au_joinFrom au_joinTo) H → va_D A (W_Gr_areJoined cI cC cB qu qu_joinFrom qu_joinTo qu_segmentNames qu_sideStarts qu_placeBases qu_placeSides qu_followers qu_pathNames qu_stepCounts qu_steps fu_segments fu_links fu_paths fu_places fu_joins au_joinFrom au_joinTo) → va_S A s.heap H locs → lv_has ls 4 [(0, .ref qu), (1, .int p1), (2, .int p2), (3, .int x3)] → W p l e rm_Gr_areJoined s m args below meth c H locs 0 0 QF (F0 m 2 ls []) := by
    intro  n
    induction n with
    | zero => intro x3  H locs ls h; exact (show False from h).elim
    | succ n ih =>
      intro x3  H locs ls h hP hD hS hl
      have h : w_Gr_areJoined_2B Q  (w_Gr_areJoined_2 Q  p1 p2 fu_joins au_joinFrom au_joinTo n) p1 p2 fu_joins au_joinFrom au_joinTo x3 := h
      generalize w_Gr_areJoined_2 Q  p1 p2 fu_joins au_joinFrom au_joinTo n = K_2 at h ih
      unfold w_Gr_areJoined_2B at h
      refine lv_iload_n hx hb d_Gr_areJoined_2 rfl (lv_at hl 3 rfl) ?_
      refine lv_aload_n hx hb d_Gr_areJoined_3 rfl (lv_at hl 0 rfl) ?_
      refine va_get (D := (dC, dI)) (ci := 5) (v := .int fu_joins) (C := R_Gr) (T := T_Gr) (N := 15) hx hb hts in_Gr hown hK hP 0 rfl rfl 4 (by decide) (hts _ w_14) (fun _ h9 => h9) rfl d_Gr_areJoined_4 ?_
      refine lv_icmp_ge (tgt := 38) hx hb d_Gr_areJoined_7 (by decide) (fun c_2 => ?_) (fun c_2 => ?_)
      · have h := h.1 c_2
        refine lv_iconst (v := 0) hx hb d_Gr_areJoined_38 (by decide) ?_
        exact hret () () 0 _ _ _ _ rfl h hP hD hS d_Gr_areJoined_39
      · have h := h.2 c_2
        refine lv_aload_n hx hb d_Gr_areJoined_10 rfl (lv_at hl 0 rfl) ?_
        refine va_get (D := (dC, dI)) (ci := 5) (v := .ref qu_joinFrom) (C := R_Gr) (T := T_Gr) (N := 15) hx hb hts in_Gr hown hK hP 0 rfl rfl 13 (by decide) (hts _ w_109) (fun _ h9 => h9) rfl d_Gr_areJoined_11 ?_
        refine lv_iload_n hx hb d_Gr_areJoined_14 rfl (lv_at hl 3 rfl) ?_
        have hi_3 := h.1
        have h := h.2
        refine va_iald hx hb hK hP 1 0 rfl rfl hi_3 d_Gr_areJoined_15 ?_
        refine lv_topi (fun y_4 ey_4 => ?_)
        have h := h y_4 ey_4
        refine lv_iload_n hx hb d_Gr_areJoined_16 rfl (lv_at hl 1 rfl) ?_
        refine lv_icmp_ne (tgt := 32) hx hb d_Gr_areJoined_17 (by decide) (fun c_5 => ?_) (fun c_5 => ?_)
        · have h := h.2 c_5
          exact blk_32 _ ih _ _ _ _ h hP hD hS (lv_sub hl [0, 1, 2, 3] rfl)
        · have h := h.1 c_5
          refine lv_aload_n hx hb d_Gr_areJoined_20 rfl (lv_at hl 0 rfl) ?_
          refine va_get (D := (dC, dI)) (ci := 5) (v := .ref qu_joinTo) (C := R_Gr) (T := T_Gr) (N := 15) hx hb hts in_Gr hown hK hP 0 rfl rfl 14 (by decide) (hts _ w_110) (fun _ h9 => h9) rfl d_Gr_areJoined_21 ?_
          refine lv_iload_n hx hb d_Gr_areJoined_24 rfl (lv_at hl 3 rfl) ?_
          have hi_6 := h.1
          have h := h.2
          refine va_iald hx hb hK hP 2 0 rfl rfl hi_6 d_Gr_areJoined_25 ?_
          refine lv_topi (fun y_7 ey_7 => ?_)
          have h := h y_7 ey_7
          refine lv_iload_n hx hb d_Gr_areJoined_26 rfl (lv_at hl 2 rfl) ?_
          refine lv_icmp_ne (tgt := 32) hx hb d_Gr_areJoined_27 (by decide) (fun c_8 => ?_) (fun c_8 => ?_)
          · have h := h.2 c_8
            exact blk_32 _ ih _ _ _ _ h hP hD hS (lv_sub hl [0, 1, 2, 3] rfl)
          · have h := h.1 c_8
            refine lv_iconst (v := 1) hx hb d_Gr_areJoined_30 (by decide) ?_
            exact hret () () 1 _ _ _ _ rfl h hP hD hS d_Gr_areJoined_31
  unfold wp_Gr_areJoined at h
  refine lv_iconst (v := 0) hx hb d_Gr_areJoined_0 (by decide) ?_
  refine lv_istore_n (lv' := [(3, .int 0), (0, .ref qu), (1, .int p1), (2, .int p2)]) hx hb d_Gr_areJoined_1 rfl hl (by decide) rfl (fun ls hl => ?_)
  obtain ⟨fu_2, h⟩ := h
  exact blk_2  _ _ _ _ _ h hP hD hS (lv_sub hl [1, 2, 3, 0] rfl)
abbrev W_X_follows (cI cC cB : ClassId) (qu : Nat) (qu_graph : Nat) (qu_graph_joinFrom : Nat) (qu_graph_joinTo : Nat) (qu_text : Nat) (qu_reading : Nat) (qu_costs : Nat) (qu_result : Nat) (qu_told : Nat) (qu_spare : Nat) (qu_graph_segmentNames : Nat) (qu_graph_sideStarts : Nat) (qu_graph_placeBases : Nat) (qu_graph_placeSides : Nat) (qu_graph_followers : Nat) (qu_graph_pathNames : Nat) (qu_graph_stepCounts : Nat) (qu_graph_steps : Nat) (fu_graph_segments : Int32) (fu_graph_links : Int32) (fu_graph_paths : Int32) (fu_graph_places : Int32) (fu_graph_joins : Int32) (au_graph_joinFrom : Nat → Int32) (au_graph_joinTo : Nat → Int32) : va_W := [(qu, .inr (0, [.ref qu_text, .ref qu_reading, .ref qu_costs, .ref qu_result, .ref qu_told, .ref qu_graph, .ref qu_spare])), (qu_graph, .inr (5, [.int fu_graph_segments, .int fu_graph_links, .int fu_graph_paths, .int fu_graph_places, .int fu_graph_joins, .ref qu_graph_segmentNames, .ref qu_graph_sideStarts, .ref qu_graph_placeBases, .ref qu_graph_placeSides, .ref qu_graph_followers, .ref qu_graph_pathNames, .ref qu_graph_stepCounts, .ref qu_graph_steps, .ref qu_graph_joinFrom, .ref qu_graph_joinTo])), (qu_graph_joinFrom, .inl (cI, 72, .inl au_graph_joinFrom)), (qu_graph_joinTo, .inl (cI, 72, .inl au_graph_joinTo))]
def wp_X_follows (Q : Int32 → Unit → Prop) (p1 : Int32) (p2 : Int32) (fu_graph_joins : Int32) (au_graph_joinFrom : Nat → Int32) (au_graph_joinTo : Nat → Int32) : Prop := wp_Gr_areJoined (fun r_2 v_1 => (narrow .boolean (.int r_2) = .int r_2 ∧ Q r_2 ())) p1 p2 fu_graph_joins au_graph_joinFrom au_graph_joinTo
abbrev rm_X_follows : Room := { frames := 1, cells := 0, slots := 0, locals := 23 }
set_option maxHeartbeats 4000000 in
set_option maxRecDepth 100000 in
theorem k_X_follows (l : Launch) (dC : Nat → ClassId) (dI : Nat → Nat → Nat) (cI cC cB : ClassId) (sz : Nat) (qu : Nat) (qu_graph : Nat) (qu_graph_joinFrom : Nat) (qu_graph_joinTo : Nat) (qu_text : Nat) (qu_reading : Nat) (qu_costs : Nat) (qu_result : Nat) (qu_told : Nat) (qu_spare : Nat) (qu_graph_segmentNames : Nat) (qu_graph_sideStarts : Nat) (qu_graph_placeBases : Nat) (qu_graph_placeSides : Nat) (qu_graph_followers : Nat) (qu_graph_pathNames : Nat) (qu_graph_stepCounts : Nat) (qu_graph_steps : Nat) (fu_graph_segments : Int32) (fu_graph_links : Int32) (fu_graph_paths : Int32) (fu_graph_places : Int32) (fu_graph_joins : Int32) (au_graph_joinFrom : Nat → Int32) (au_graph_joinTo : Nat → Int32) (p1 : Int32) (p2 : Int32) {Q : Int32 → Unit → Prop} (h : wp_X_follows Q p1 p2 fu_graph_joins au_graph_joinFrom au_graph_joinTo) :
    CTi l y_X_follows (wM y_X_follows c_X_follows 3 (some .boolean)) rm_X_follows 0 0 (dC, dI) (tysL cI cC cB) [.ref qu, .int p1, .int p2] (W_X_follows cI cC cB qu qu_graph qu_graph_joinFrom qu_graph_joinTo qu_text qu_reading qu_costs qu_result qu_told qu_spare qu_graph_segmentNames qu_graph_sideStarts qu_graph_placeBases qu_graph_placeSides qu_graph_followers qu_graph_pathNames qu_graph_stepCounts qu_graph_steps fu_graph_segments fu_graph_links fu_graph_paths fu_graph_places fu_graph_joins au_graph_joinFrom au_graph_joinTo) sz Q (fun (v : Unit) (b : Unit) => (W_X_follows cI cC cB qu qu_graph qu_graph_joinFrom qu_graph_joinTo qu_text qu_reading qu_costs qu_result qu_told qu_spare qu_graph_segmentNames qu_graph_sideStarts qu_graph_placeBases qu_graph_placeSides qu_graph_followers qu_graph_pathNames qu_graph_stepCounts qu_graph_steps fu_graph_segments fu_graph_links fu_graph_paths fu_graph_places fu_graph_joins au_graph_joinFrom au_graph_joinTo)) := by
  refine CTi.std (by decide) (Nat.le_of_ble_eq_true rfl) ?_
  intro p e s m args below meth c A ls QF C0 hP hD hl hS hsz hnm hret
  obtain ⟨hx, hb, hr, hml, hown, hts, hlocks, hN, hA, hK⟩ := id C0
  have hown : s.vm.findClass R_X = some m.cls := hown
  have hl : lv_has ls 3 [(0, .ref qu), (1, .int p1), (2, .int p2)] := hl
  clear hsz hnm
  unfold wp_X_follows at h
  refine lv_aload_n hx hb d_X_follows_0 rfl (lv_at hl 0 rfl) ?_
  refine va_get (D := (dC, dI)) (ci := 0) (v := .ref qu_graph) (C := R_X) (T := T_X) (N := 7) hx hb hts in_X hown hK hP 0 rfl rfl 5 (by decide) (hts _ w_127) (fun _ h9 => h9) rfl d_X_follows_1 ?_
  refine lv_iload_n hx hb d_X_follows_4 rfl (lv_at hl 1 rfl) ?_
  refine lv_iload_n hx hb d_X_follows_5 rfl (lv_at hl 2 rfl) ?_
  refine call_V_i (As := [.int p1, .int p2]) (rest := []) C0 hP hD hS [1, 2, 3] [0] [0, 1, 2, 3] [(qu, .inr (0, [.ref qu_text, .ref qu_reading, .ref qu_costs, .ref qu_result, .ref qu_told, .ref qu_graph, .ref qu_spare]))] (fun (v : Unit) (b : Unit) => (W_X_follows cI cC cB qu qu_graph qu_graph_joinFrom qu_graph_joinTo qu_text qu_reading qu_costs qu_result qu_told qu_spare qu_graph_segmentNames qu_graph_sideStarts qu_graph_placeBases qu_graph_placeSides qu_graph_followers qu_graph_pathNames qu_graph_stepCounts qu_graph_steps fu_graph_segments fu_graph_links fu_graph_paths fu_graph_places fu_graph_joins au_graph_joinFrom au_graph_joinTo)) (ci := 5) rfl rfl (k_Gr_areJoined l dC dI cI cC cB _ qu_graph qu_graph_joinFrom qu_graph_joinTo qu_graph_segmentNames qu_graph_sideStarts qu_graph_placeBases qu_graph_placeSides qu_graph_followers qu_graph_pathNames qu_graph_stepCounts qu_graph_steps fu_graph_segments fu_graph_links fu_graph_paths fu_graph_places fu_graph_joins au_graph_joinFrom au_graph_joinTo p1 p2 h) (g_V w_151 w_152 w_153 w_40 w_150) 2 rfl (by decide +kernel) rfl rfl ⟨Nat.le_of_ble_eq_true rfl, Nat.le_of_ble_eq_true rfl⟩ rfl rfl (by decide) (by decide) (by decide) (by decide) (fun _ _ => rfl) hl.1 rfl (Nat.le_of_ble_eq_true rfl) d_X_follows_6 ⟨Nat.le_of_ble_eq_true rfl, Nat.le_of_ble_eq_true rfl⟩ (fun r_2 v_1 _ H locs h hP hD hS => ?_)
  have hP : va_P (dC, dI) cls (W_X_follows cI cC cB qu qu_graph qu_graph_joinFrom qu_graph_joinTo qu_text qu_reading qu_costs qu_result qu_told qu_spare qu_graph_segmentNames qu_graph_sideStarts qu_graph_placeBases qu_graph_placeSides qu_graph_followers qu_graph_pathNames qu_graph_stepCounts qu_graph_steps fu_graph_segments fu_graph_links fu_graph_paths fu_graph_places fu_graph_joins au_graph_joinFrom au_graph_joinTo) H := hP
  have hD : va_D A (W_X_follows cI cC cB qu qu_graph qu_graph_joinFrom qu_graph_joinTo qu_text qu_reading qu_costs qu_result qu_told qu_spare qu_graph_segmentNames qu_graph_sideStarts qu_graph_placeBases qu_graph_placeSides qu_graph_followers qu_graph_pathNames qu_graph_stepCounts qu_graph_steps fu_graph_segments fu_graph_links fu_graph_paths fu_graph_places fu_graph_joins au_graph_joinFrom au_graph_joinTo) := hD
  exact hret () () r_2 _ _ _ _ h.1 h.2 hP hD hS d_X_follows_9
abbrev W_Re_put (cI cC cB : ClassId) (qu : Nat) (qu_bases : Nat) (fu_length : Int32) (au_bases : Nat → Int32) : va_W := [(qu, .inr (2, [.ref qu_bases, .int fu_length])), (qu_bases, .inl (cC, 12, .inl au_bases))]
def wp_Re_put (Q : Int32 → (Int32 × (Nat → Int32)) → Prop) (p1 : Int32) (fu_length : Int32) (au_bases : Nat → Int32) : Prop := wp_X_isBase (fun r_2 v_1 => ((r_2 = 0 → (Q 0 (fu_length, au_bases))) ∧ (¬ r_2 = 0 → (((fu_length < 12 → (vp_in fu_length 12 ∧ (∀ au_bases_6 : Nat → Int32, au_bases_6 = upd au_bases fu_length.toNatClampNeg (vp_nar .char p1) → (∀ x_7 : Int32, x_7 = fu_length + 1 → (Q 1 (x_7, au_bases_6)))))) ∧ (¬ fu_length < 12 → (Q 0 (fu_length, au_bases)))))))) p1
abbrev rm_Re_put : Room := { frames := 1, cells := 0, slots := 0, locals := 20 }
set_option maxHeartbeats 4000000 in
set_option maxRecDepth 100000 in
theorem k_Re_put (l : Launch) (dC : Nat → ClassId) (dI : Nat → Nat → Nat) (cI cC cB : ClassId) (sz : Nat) (qu : Nat) (qu_bases : Nat) (fu_length : Int32) (au_bases : Nat → Int32) (p1 : Int32) {Q : Int32 → (Int32 × (Nat → Int32)) → Prop} (h : wp_Re_put Q p1 fu_length au_bases) :
    CTi l y_Re_put (wM y_Re_put c_Re_put 2 (some .boolean)) rm_Re_put 0 0 (dC, dI) (tysL cI cC cB) [.ref qu, .int p1] (W_Re_put cI cC cB qu qu_bases fu_length au_bases) sz Q (fun (v : Int32 × (Nat → Int32)) (b : Unit) => (W_Re_put cI cC cB qu qu_bases v.1 v.2)) := by
  refine CTi.std (by decide) (Nat.le_of_ble_eq_true rfl) ?_
  intro p e s m args below meth c A ls QF C0 hP hD hl hS hsz hnm hret
  obtain ⟨hx, hb, hr, hml, hown, hts, hlocks, hN, hA, hK⟩ := id C0
  have hown : s.vm.findClass R_Re = some m.cls := hown
  have hl : lv_has ls 2 [(0, .ref qu), (1, .int p1)] := hl
  clear hsz hnm
  unfold wp_Re_put at h
  refine lv_iload_n hx hb d_Re_put_0 rfl (lv_at hl 1 rfl) ?_
  refine call_SN_i (As := [.int p1]) (rest := []) C0 hP hD hS [] [0, 1] [0, 1] [(qu, .inr (2, [.ref qu_bases, .int fu_length])), (qu_bases, .inl (cC, 12, .inl au_bases))] (fun (v : Unit) (b : Unit) => (W_Re_put cI cC cB qu qu_bases fu_length au_bases)) (k_X_isBase l dC dI cI cC cB _ p1 h) (host := R_X) (List.mem_of_getElem? (i := 9) rfl) w_78 w_33 w_77 1 rfl (by decide +kernel) rfl rfl ⟨Nat.le_of_ble_eq_true rfl, Nat.le_of_ble_eq_true rfl⟩ rfl rfl (by decide) (by decide) (by decide) (by decide) (fun _ _ => rfl) hl.1 rfl (Nat.le_of_ble_eq_true rfl) d_Re_put_1 ⟨Nat.le_of_ble_eq_true rfl, Nat.le_of_ble_eq_true rfl⟩ (fun r_2 v_1 _ H locs h hP hD hS => ?_)
  have hP : va_P (dC, dI) cls (W_Re_put cI cC cB qu qu_bases fu_length au_bases) H := hP
  have hD : va_D A (W_Re_put cI cC cB qu qu_bases fu_length au_bases) := hD
  refine lv_if_eq (tgt := 16) hx hb d_Re_put_4 (by decide) (fun c_3 => ?_) (fun c_3 => ?_)
  · have h := h.1 c_3
    refine lv_iconst (v := 0) hx hb d_Re_put_16 (by decide) ?_
    exact hret (fu_length, au_bases) () 0 _ _ _ _ rfl h hP hD hS d_Re_put_17
  · have h := h.2 c_3
    refine lv_aload_n hx hb d_Re_put_7 rfl (lv_at hl 0 rfl) ?_
    refine va_get (D := (dC, dI)) (ci := 2) (v := .int fu_length) (C := R_Re) (T := T_Re) (N := 2) hx hb hts in_Re hown hK hP 0 rfl rfl 1 (by decide) (hts _ w_155) (fun _ h9 => h9) rfl d_Re_put_8 ?_
    refine lv_bipush (v := 12) hx hb d_Re_put_11 (by decide) ?_
    refine lv_icmp_lt (tgt := 18) hx hb d_Re_put_13 (by decide) (fun c_4 => ?_) (fun c_4 => ?_)
    · have h := h.1 c_4
      refine lv_aload_n hx hb d_Re_put_18 rfl (lv_at hl 0 rfl) ?_
      refine va_get (D := (dC, dI)) (ci := 2) (v := .ref qu_bases) (C := R_Re) (T := T_Re) (N := 2) hx hb hts in_Re hown hK hP 0 rfl rfl 0 (by decide) (hts _ w_156) (fun _ h9 => h9) rfl d_Re_put_19 ?_
      refine lv_aload_n hx hb d_Re_put_22 rfl (lv_at hl 0 rfl) ?_
      refine va_get (D := (dC, dI)) (ci := 2) (v := .int fu_length) (C := R_Re) (T := T_Re) (N := 2) hx hb hts in_Re hown hK hP 0 rfl rfl 1 (by decide) (hts _ w_155) (fun _ h9 => h9) rfl d_Re_put_23 ?_
      refine lv_iload_n hx hb d_Re_put_26 rfl (lv_at hl 1 rfl) ?_
      have hi_5 := h.1
      have h := h.2
      refine va_cast hx hb hK hP hD hS 1 1 rfl rfl hi_5 d_Re_put_27 (fun H locs hP hD hS => ?_)
      obtain ⟨au_bases_6, eau_bases_6⟩ : ∃ z : Nat → Int32, z = upd au_bases fu_length.toNatClampNeg (vp_nar .char p1) := ⟨_, rfl⟩
      have h := h au_bases_6 eau_bases_6
      have hP : va_P (dC, dI) cls (W_Re_put cI cC cB qu qu_bases fu_length au_bases_6) H := by rw [eau_bases_6]; exact hP
      have hD : va_D A (W_Re_put cI cC cB qu qu_bases fu_length au_bases_6) := by rw [eau_bases_6]; exact hD
      refine lv_aload_n hx hb d_Re_put_28 rfl (lv_at hl 0 rfl) ?_
      refine lv_dup hx hb d_Re_put_29 rfl ?_
      refine va_get (D := (dC, dI)) (ci := 2) (v := .int fu_length) (C := R_Re) (T := T_Re) (N := 2) hx hb hts in_Re hown hK hP 0 rfl rfl 1 (by decide) (hts _ w_155) (fun _ h9 => h9) rfl d_Re_put_30 ?_
      refine lv_iconst (v := 1) hx hb d_Re_put_33 (by decide) ?_
      refine lv_iadd hx hb d_Re_put_34 ?_
      refine lv_topi (fun x_7 ex_7 => ?_)
      have h := h x_7 ex_7
      refine va_put (D := (dC, dI)) (ci := 2) (v := .int x_7) (ty := .int) (C := R_Re) (T := T_Re) (N := 2) hx hb hts in_Re t_Re t_Re_ok n_Re hown hK hP hD hS 0 rfl rfl 1 (by decide) (hts _ w_155) (fun _ h9 => h9) rfl (by decide +kernel) rfl rfl (Nat.le_of_ble_eq_true rfl) d_Re_put_35 (fun H locs hP hD hS => ?_)
      have hP : va_P (dC, dI) cls (W_Re_put cI cC cB qu qu_bases x_7 au_bases_6) H := hP
      have hD : va_D A (W_Re_put cI cC cB qu qu_bases x_7 au_bases_6) := hD
      refine lv_iconst (v := 1) hx hb d_Re_put_38 (by decide) ?_
      exact hret (x_7, au_bases_6) () 1 _ _ _ _ rfl h hP hD hS d_Re_put_39
    · have h := h.2 c_4
      refine lv_iconst (v := 0) hx hb d_Re_put_16 (by decide) ?_
      exact hret (fu_length, au_bases) () 0 _ _ _ _ rfl h hP hD hS d_Re_put_17
abbrev W_X_read (cI cC cB : ClassId) (qu : Nat) (qu_reading : Nat) (qu_reading_bases : Nat) (qu_text : Nat) (qu_costs : Nat) (qu_result : Nat) (qu_told : Nat) (qu_graph : Nat) (qu_spare : Nat) (fu_reading_length : Int32) (au_reading_bases : Nat → Int32) : va_W := [(qu, .inr (0, [.ref qu_text, .ref qu_reading, .ref qu_costs, .ref qu_result, .ref qu_told, .ref qu_graph, .ref qu_spare])), (qu_reading, .inr (2, [.ref qu_reading_bases, .int fu_reading_length])), (qu_reading_bases, .inl (cC, 12, .inl au_reading_bases))]
def wp_X_read (Q : Int32 → (Int32 × (Nat → Int32)) → Prop) (p1 : Int32) (fu_reading_length : Int32) (au_reading_bases : Nat → Int32) : Prop := wp_Re_put (fun r_2 v_1 => (narrow .boolean (.int r_2) = .int r_2 ∧ Q r_2 (v_1.1, v_1.2))) p1 fu_reading_length au_reading_bases
abbrev rm_X_read : Room := { frames := 2, cells := 0, slots := 0, locals := 41 }
set_option maxHeartbeats 4000000 in
set_option maxRecDepth 100000 in
theorem k_X_read (l : Launch) (dC : Nat → ClassId) (dI : Nat → Nat → Nat) (cI cC cB : ClassId) (sz : Nat) (qu : Nat) (qu_reading : Nat) (qu_reading_bases : Nat) (qu_text : Nat) (qu_costs : Nat) (qu_result : Nat) (qu_told : Nat) (qu_graph : Nat) (qu_spare : Nat) (fu_reading_length : Int32) (au_reading_bases : Nat → Int32) (p1 : Int32) {Q : Int32 → (Int32 × (Nat → Int32)) → Prop} (h : wp_X_read Q p1 fu_reading_length au_reading_bases) :
    CTi l y_X_read (wM y_X_read c_X_read 2 (some .boolean)) rm_X_read 0 0 (dC, dI) (tysL cI cC cB) [.ref qu, .int p1] (W_X_read cI cC cB qu qu_reading qu_reading_bases qu_text qu_costs qu_result qu_told qu_graph qu_spare fu_reading_length au_reading_bases) sz Q (fun (v : Int32 × (Nat → Int32)) (b : Unit) => (W_X_read cI cC cB qu qu_reading qu_reading_bases qu_text qu_costs qu_result qu_told qu_graph qu_spare v.1 v.2)) := by
  refine CTi.std (by decide) (Nat.le_of_ble_eq_true rfl) ?_
  intro p e s m args below meth c A ls QF C0 hP hD hl hS hsz hnm hret
  obtain ⟨hx, hb, hr, hml, hown, hts, hlocks, hN, hA, hK⟩ := id C0
  have hown : s.vm.findClass R_X = some m.cls := hown
  have hl : lv_has ls 2 [(0, .ref qu), (1, .int p1)] := hl
  clear hsz hnm
  unfold wp_X_read at h
  refine lv_aload_n hx hb d_X_read_0 rfl (lv_at hl 0 rfl) ?_
  refine va_get (D := (dC, dI)) (ci := 0) (v := .ref qu_reading) (C := R_X) (T := T_X) (N := 7) hx hb hts in_X hown hK hP 0 rfl rfl 1 (by decide) (hts _ w_154) (fun _ h9 => h9) rfl d_X_read_1 ?_
  refine lv_iload_n hx hb d_X_read_4 rfl (lv_at hl 1 rfl) ?_
  refine call_V_i (As := [.int p1]) (rest := []) C0 hP hD hS [1, 2] [0] [0, 1, 2] [(qu, .inr (0, [.ref qu_text, .ref qu_reading, .ref qu_costs, .ref qu_result, .ref qu_told, .ref qu_graph, .ref qu_spare]))] (fun (v : Int32 × (Nat → Int32)) (b : Unit) => (W_X_read cI cC cB qu qu_reading qu_reading_bases qu_text qu_costs qu_result qu_told qu_graph qu_spare v.1 v.2)) (ci := 2) rfl rfl (k_Re_put l dC dI cI cC cB _ qu_reading qu_reading_bases fu_reading_length au_reading_bases p1 h) (g_V w_158 w_159 w_160 w_161 w_157) 1 rfl (by decide +kernel) rfl rfl ⟨Nat.le_of_ble_eq_true rfl, Nat.le_of_ble_eq_true rfl⟩ rfl rfl (by decide) (by decide) (by decide) (by decide) (fun _ _ => rfl) hl.1 rfl (Nat.le_of_ble_eq_true rfl) d_X_read_5 ⟨Nat.le_of_ble_eq_true rfl, Nat.le_of_ble_eq_true rfl⟩ (fun r_2 v_1 _ H locs h hP hD hS => ?_)
  have hP : va_P (dC, dI) cls (W_X_read cI cC cB qu qu_reading qu_reading_bases qu_text qu_costs qu_result qu_told qu_graph qu_spare v_1.1 v_1.2) H := hP
  have hD : va_D A (W_X_read cI cC cB qu qu_reading qu_reading_bases qu_text qu_costs qu_result qu_told qu_graph qu_spare v_1.1 v_1.2) := hD
  exact hret (v_1.1, v_1.2) () r_2 _ _ _ _ h.1 h.2 hP hD hS d_X_read_8
abbrev W_X_drop (cI cC cB : ClassId) (qu : Nat) (qu_reading : Nat) (qu_text : Nat) (qu_costs : Nat) (qu_result : Nat) (qu_told : Nat) (qu_graph : Nat) (qu_spare : Nat) (qu_reading_bases : Nat) (fu_reading_length : Int32) : va_W := [(qu, .inr (0, [.ref qu_text, .ref qu_reading, .ref qu_costs, .ref qu_result, .ref qu_told, .ref qu_graph, .ref qu_spare])), (qu_reading, .inr (2, [.ref qu_reading_bases, .int fu_reading_length]))]
def wp_X_drop (Q : Int32 → Prop)  (fu_reading_length : Int32) : Prop := Q 0
abbrev rm_X_drop : Room := { frames := 0, cells := 0, slots := 0, locals := 0 }
set_option maxHeartbeats 4000000 in
set_option maxRecDepth 100000 in
theorem k_X_drop (l : Launch) (dC : Nat → ClassId) (dI : Nat → Nat → Nat) (cI cC cB : ClassId) (sz : Nat) (qu : Nat) (qu_reading : Nat) (qu_text : Nat) (qu_costs : Nat) (qu_result : Nat) (qu_told : Nat) (qu_graph : Nat) (qu_spare : Nat) (qu_reading_bases : Nat) (fu_reading_length : Int32)  {Q : Int32 → Prop} (h : wp_X_drop Q  fu_reading_length) :
    CTv l y_X_drop (wM y_X_drop c_X_drop 1 none) rm_X_drop 0 0 (dC, dI) (tysL cI cC cB) [.ref qu] (W_X_drop cI cC cB qu qu_reading qu_text qu_costs qu_result qu_told qu_graph qu_spare qu_reading_bases fu_reading_length) sz Q (fun (v : Int32) (b : Unit) => (W_X_drop cI cC cB qu qu_reading qu_text qu_costs qu_result qu_told qu_graph qu_spare qu_reading_bases v)) := by
  refine CTv.std (by decide) (Nat.le_of_ble_eq_true rfl) ?_
  intro p e s m args below meth c A ls QF C0 hP hD hl hS hsz hnm hret
  obtain ⟨hx, hb, hr, hml, hown, hts, hlocks, hN, hA, hK⟩ := id C0
  have hown : s.vm.findClass R_X = some m.cls := hown
  have hl : lv_has ls 1 [(0, .ref qu)] := hl
  clear hsz hnm
  unfold wp_X_drop at h
  refine lv_aload_n hx hb d_X_drop_0 rfl (lv_at hl 0 rfl) ?_
  refine va_get (D := (dC, dI)) (ci := 0) (v := .ref qu_reading) (C := R_X) (T := T_X) (N := 7) hx hb hts in_X hown hK hP 0 rfl rfl 1 (by decide) (hts _ w_154) (fun _ h9 => h9) rfl d_X_drop_1 ?_
  refine lv_iconst (v := 0) hx hb d_X_drop_4 (by decide) ?_
  refine va_put (D := (dC, dI)) (ci := 2) (v := .int 0) (ty := .int) (C := R_Re) (T := T_Re) (N := 2) hx hb hts in_Re t_Re t_Re_ok n_Re hown hK hP hD hS 1 rfl rfl 1 (by decide) (hts _ w_162) (fun _ h9 => h9) rfl (by decide +kernel) rfl rfl (Nat.le_of_ble_eq_true rfl) d_X_drop_5 (fun H locs hP hD hS => ?_)
  have hP : va_P (dC, dI) cls (W_X_drop cI cC cB qu qu_reading qu_text qu_costs qu_result qu_told qu_graph qu_spare qu_reading_bases 0) H := hP
  have hD : va_D A (W_X_drop cI cC cB qu qu_reading qu_text qu_costs qu_result qu_told qu_graph qu_spare qu_reading_bases 0) := hD
  exact hret 0 () _ _ _ _ h hP hD hS d_X_drop_8
abbrev W_Re_costOn (cI cC cB : ClassId) (qu : Nat) (qu_bases : Nat) (fu_length : Int32) (au_bases : Nat → Int32) : va_W := [(qu, .inr (2, [.ref qu_bases, .int fu_length])), (qu_bases, .inl (cC, 12, .inl au_bases))]
def wp_Re_costOn (Q : Int32 → Unit → Prop) (p1 : Int32) (p2 : Int32) (au_bases : Nat → Int32) : Prop := ∀ x_1 : Int32, x_1 = p1 - 1 → (vp_in x_1 12 ∧ (∀ y_3 : Int32, y_3 = au_bases x_1.toNatClampNeg → (((y_3 = p2 → (Q 0 ())) ∧ (¬ y_3 = p2 → (Q 1 ()))))))
abbrev rm_Re_costOn : Room := { frames := 0, cells := 0, slots := 0, locals := 0 }
set_option maxHeartbeats 4000000 in
set_option maxRecDepth 100000 in
theorem k_Re_costOn (l : Launch) (dC : Nat → ClassId) (dI : Nat → Nat → Nat) (cI cC cB : ClassId) (sz : Nat) (qu : Nat) (qu_bases : Nat) (fu_length : Int32) (au_bases : Nat → Int32) (p1 : Int32) (p2 : Int32) {Q : Int32 → Unit → Prop} (h : wp_Re_costOn Q p1 p2 au_bases) :
    CTi l y_Re_costOn (wM y_Re_costOn c_Re_costOn 3 (some .int)) rm_Re_costOn 0 0 (dC, dI) (tysL cI cC cB) [.ref qu, .int p1, .int p2] (W_Re_costOn cI cC cB qu qu_bases fu_length au_bases) sz Q (fun (v : Unit) (b : Unit) => (W_Re_costOn cI cC cB qu qu_bases fu_length au_bases)) := by
  refine CTi.std (by decide) (Nat.le_of_ble_eq_true rfl) ?_
  intro p e s m args below meth c A ls QF C0 hP hD hl hS hsz hnm hret
  obtain ⟨hx, hb, hr, hml, hown, hts, hlocks, hN, hA, hK⟩ := id C0
  have hown : s.vm.findClass R_Re = some m.cls := hown
  have hl : lv_has ls 3 [(0, .ref qu), (1, .int p1), (2, .int p2)] := hl
  clear hsz hnm
  unfold wp_Re_costOn at h
  refine lv_aload_n hx hb d_Re_costOn_0 rfl (lv_at hl 0 rfl) ?_
  refine va_get (D := (dC, dI)) (ci := 2) (v := .ref qu_bases) (C := R_Re) (T := T_Re) (N := 2) hx hb hts in_Re hown hK hP 0 rfl rfl 0 (by decide) (hts _ w_156) (fun _ h9 => h9) rfl d_Re_costOn_1 ?_
  refine lv_iload_n hx hb d_Re_costOn_4 rfl (lv_at hl 1 rfl) ?_
  refine lv_iconst (v := 1) hx hb d_Re_costOn_5 (by decide) ?_
  refine lv_isub hx hb d_Re_costOn_6 ?_
  refine lv_topi (fun x_1 ex_1 => ?_)
  have h := h x_1 ex_1
  have hi_2 := h.1
  have h := h.2
  refine va_cald hx hb hK hP 1 1 rfl rfl hi_2 d_Re_costOn_7 ?_
  refine lv_topi (fun y_3 ey_3 => ?_)
  have h := h y_3 ey_3
  refine lv_iload_n hx hb d_Re_costOn_8 rfl (lv_at hl 2 rfl) ?_
  refine lv_icmp_ne (tgt := 16) hx hb d_Re_costOn_9 (by decide) (fun c_4 => ?_) (fun c_4 => ?_)
  · have h := h.2 c_4
    refine lv_iconst (v := 1) hx hb d_Re_costOn_16 (by decide) ?_
    exact hret () () 1 _ _ _ _ rfl h hP hD hS d_Re_costOn_17
  · have h := h.1 c_4
    refine lv_iconst (v := 0) hx hb d_Re_costOn_12 (by decide) ?_
    refine lv_goto (tgt := 17) hx hb d_Re_costOn_13 (by decide) ?_
    exact hret () () 0 _ _ _ _ rfl h hP hD hS d_Re_costOn_17
abbrev W_Co_at (cI cC cB : ClassId) (qu : Nat) (qu_table : Nat) (au_table : Nat → Int32) : va_W := [(qu, .inr (3, [.ref qu_table])), (qu_table, .inl (cI, 832, .inl au_table))]
def wp_Co_at (Q : Int32 → Unit → Prop) (p1 : Int32) (p2 : Int32) (au_table : Nat → Int32) : Prop := ∀ x_1 : Int32, x_1 = (p1 * 64) + p2 → (vp_in x_1 832 ∧ (∀ y_3 : Int32, y_3 = au_table x_1.toNatClampNeg → (Q y_3 ())))
abbrev rm_Co_at : Room := { frames := 0, cells := 0, slots := 0, locals := 0 }
set_option maxHeartbeats 4000000 in
set_option maxRecDepth 100000 in
theorem k_Co_at (l : Launch) (dC : Nat → ClassId) (dI : Nat → Nat → Nat) (cI cC cB : ClassId) (sz : Nat) (qu : Nat) (qu_table : Nat) (au_table : Nat → Int32) (p1 : Int32) (p2 : Int32) {Q : Int32 → Unit → Prop} (h : wp_Co_at Q p1 p2 au_table) :
    CTi l y_Co_at (wM y_Co_at c_Co_at 3 (some .int)) rm_Co_at 0 0 (dC, dI) (tysL cI cC cB) [.ref qu, .int p1, .int p2] (W_Co_at cI cC cB qu qu_table au_table) sz Q (fun (v : Unit) (b : Unit) => (W_Co_at cI cC cB qu qu_table au_table)) := by
  refine CTi.std (by decide) (Nat.le_of_ble_eq_true rfl) ?_
  intro p e s m args below meth c A ls QF C0 hP hD hl hS hsz hnm hret
  obtain ⟨hx, hb, hr, hml, hown, hts, hlocks, hN, hA, hK⟩ := id C0
  have hown : s.vm.findClass R_Co = some m.cls := hown
  have hl : lv_has ls 3 [(0, .ref qu), (1, .int p1), (2, .int p2)] := hl
  clear hsz hnm
  unfold wp_Co_at at h
  refine lv_aload_n hx hb d_Co_at_0 rfl (lv_at hl 0 rfl) ?_
  refine va_get (D := (dC, dI)) (ci := 3) (v := .ref qu_table) (C := R_Co) (T := T_Co) (N := 1) hx hb hts in_Co hown hK hP 0 rfl rfl 0 (by decide) (hts _ w_167) (fun _ h9 => h9) rfl d_Co_at_1 ?_
  refine lv_iload_n hx hb d_Co_at_4 rfl (lv_at hl 1 rfl) ?_
  refine lv_bipush (v := 64) hx hb d_Co_at_5 (by decide) ?_
  refine lv_imul hx hb d_Co_at_7 ?_
  refine lv_iload_n hx hb d_Co_at_8 rfl (lv_at hl 2 rfl) ?_
  refine lv_iadd hx hb d_Co_at_9 ?_
  refine lv_topi (fun x_1 ex_1 => ?_)
  have h := h x_1 ex_1
  have hi_2 := h.1
  have h := h.2
  refine va_iald hx hb hK hP 1 0 rfl rfl hi_2 d_Co_at_10 ?_
  refine lv_topi (fun y_3 ey_3 => ?_)
  have h := h y_3 ey_3
  exact hret () () y_3 _ _ _ _ rfl h hP hD hS d_Co_at_11
