abbrev W_SB_setLength (cI cC cB : ClassId) (qu : Nat) (qu_value : Nat) (fu_coder : Int32) (fu_maybeLatin1 : Int32) (fu_count : Int32) (nu_value : Nat) (au_value : Nat → Int32) : va_W := [(qu, .inr (7, [.ref qu_value, .int fu_coder, .int fu_maybeLatin1, .int fu_count])), (qu_value, .inl (cB, nu_value, .inl au_value))]
def wp_SB_setLength (Q : (Int32 × Int32 × Nat × (Nat → Int32)) → Prop) (mc ms : Nat) (p1 : Int32) (fu_coder : Int32) (fu_maybeLatin1 : Int32) (fu_count : Int32) (nu_value : Nat) (au_value : Nat → Int32) : Prop := ∃ mc_4 ms_5 : Nat, 0 + mc_4 ≤ mc ∧ 0 + ms_5 ≤ ms ∧ (wp_AB_setLength (fun v_1 => Q (v_1.1, v_1.2.1, v_1.2.2.1, v_1.2.2.2)) mc_4 ms_5 p1 fu_coder fu_maybeLatin1 fu_count nu_value au_value)
abbrev rm_SB_setLength (mc ms : Nat) : Room := { frames := 5, cells := mc, slots := ms, locals := 116 }
set_option maxHeartbeats 4000000 in
set_option maxRecDepth 100000 in
theorem k_SB_setLength (l : Launch) (dC : Nat → ClassId) (dI : Nat → Nat → Nat) (cI cC cB : ClassId) (sz : Nat) (qu : Nat) (qu_value : Nat) (fu_coder : Int32) (fu_maybeLatin1 : Int32) (fu_count : Int32) (nu_value : Nat) (au_value : Nat → Int32) (p1 : Int32) (mc ms : Nat) {Q : (Int32 × Int32 × Nat × (Nat → Int32)) → Prop} (h : wp_SB_setLength Q mc ms p1 fu_coder fu_maybeLatin1 fu_count nu_value au_value) :
    CTv l y_SB_setLength (wM y_SB_setLength c_SB_setLength 2 none) (rm_SB_setLength mc ms) mc ms (dC, dI) (tysL cI cC cB) [.ref qu, .int p1] (W_SB_setLength cI cC cB qu qu_value fu_coder fu_maybeLatin1 fu_count nu_value au_value) sz Q (fun (v : Int32 × Int32 × Nat × (Nat → Int32)) (b : Nat) => (W_SB_setLength cI cC cB qu b fu_coder v.1 v.2.1 v.2.2.1 v.2.2.2)) := by
  refine CTv.std (by decide) (Nat.le_of_ble_eq_true rfl) ?_
  intro p e s m args below meth c A ls QF C0 hP hD hl hS hsz hnm hret
  obtain ⟨hx, hb, hr, hml, hown, hts, hlocks, hN, hA, hK⟩ := id C0
  have hown : s.vm.findClass R_SB = some m.cls := hown
  have hl : lv_has ls 2 [(0, .ref qu), (1, .int p1)] := hl
  clear hsz hnm
  unfold wp_SB_setLength at h
  refine lv_aload_n hx hb d_SB_setLength_0 rfl (lv_at hl 0 rfl) ?_
  refine lv_iload_n hx hb d_SB_setLength_1 rfl (lv_at hl 1 rfl) ?_
  obtain ⟨mc_4, ms_5, hmc_4, hms_5, h⟩ := h
  refine call_SU_v (As := [.int p1]) (rest := []) C0 hP hD hS [0, 1] [] [0, 1] [] (fun (v : Int32 × Int32 × Nat × (Nat → Int32)) (b : Nat) => (W_SB_setLength cI cC cB qu b fu_coder v.1 v.2.1 v.2.2.1 v.2.2.2)) (ci := 7) rfl rfl (k_AB_setLength l dC dI cI cC cB _ qu qu_value fu_coder fu_maybeLatin1 fu_count nu_value au_value p1 mc_4 ms_5 h) w_319 w_320 w_321 w_322 w_305 w_318 (by decide +kernel) 1 rfl (by decide +kernel) rfl rfl ⟨Nat.le_of_ble_eq_true rfl, Nat.le_of_ble_eq_true rfl⟩ rfl rfl (by decide) (by decide) (by decide) (by decide) (fun _ _ => rfl) hl.1 rfl (Nat.le_of_ble_eq_true rfl) d_SB_setLength_2 ⟨hmc_4, hms_5⟩ (fun v_1 b_3 H locs h hP hD hS => ?_)
  have hP : va_P (dC, dI) cls (W_SB_setLength cI cC cB qu b_3 fu_coder v_1.1 v_1.2.1 v_1.2.2.1 v_1.2.2.2) H := hP
  have hD : va_D A (W_SB_setLength cI cC cB qu b_3 fu_coder v_1.1 v_1.2.1 v_1.2.2.1 v_1.2.2.2) := hD
  refine W.widen (k := mc) (n := ms) hmc_4 hms_5 ?_
  exact hret (v_1.1, v_1.2.1, v_1.2.2.1, v_1.2.2.2) b_3 _ _ _ _ h hP hD hS d_SB_setLength_5
abbrev W_AB_isLatin1 (cI cC cB : ClassId) (qu : Nat) (qu_value : Nat) (fu_coder : Int32) (fu_maybeLatin1 : Int32) (fu_count : Int32) : va_W := [(qu, .inr (7, [.ref qu_value, .int fu_coder, .int fu_maybeLatin1, .int fu_count]))]
def wp_AB_isLatin1 (Q : Int32 → Unit → Prop)  (fu_coder : Int32) : Prop := (((1 : Int32) = 0 → (Q 0 ())) ∧ (¬ (1 : Int32) = 0 → (((fu_coder = 0 → (Q 1 ())) ∧ (¬ fu_coder = 0 → (Q 0 ()))))))
abbrev rm_AB_isLatin1 : Room := { frames := 0, cells := 0, slots := 0, locals := 0 }
set_option maxHeartbeats 4000000 in
set_option maxRecDepth 100000 in
theorem k_AB_isLatin1 (l : Launch) (dC : Nat → ClassId) (dI : Nat → Nat → Nat) (cI cC cB : ClassId) (sz : Nat) (qu : Nat) (qu_value : Nat) (fu_coder : Int32) (fu_maybeLatin1 : Int32) (fu_count : Int32)  {Q : Int32 → Unit → Prop} (h : wp_AB_isLatin1 Q  fu_coder) :
    CTi l y_AB_isLatin1 (wM y_AB_isLatin1 c_AB_isLatin1 1 (some .boolean)) rm_AB_isLatin1 0 0 (dC, dI) (tysL cI cC cB) [.ref qu] (W_AB_isLatin1 cI cC cB qu qu_value fu_coder fu_maybeLatin1 fu_count) sz Q (fun (v : Unit) (b : Unit) => (W_AB_isLatin1 cI cC cB qu qu_value fu_coder fu_maybeLatin1 fu_count)) := by
  refine CTi.std (by decide) (Nat.le_of_ble_eq_true rfl) ?_
  intro p e s m args below meth c A ls QF C0 hP hD hl hS hsz hnm hret
  obtain ⟨hx, hb, hr, hml, hown, hts, hlocks, hN, hA, hK⟩ := id C0
  have hown : s.vm.findClass R_AB = some m.cls := hown
  have hl : lv_has ls 1 [(0, .ref qu)] := hl
  clear hsz hnm
  unfold wp_AB_isLatin1 at h
  refine va_gets hx hb hN.2.1 hS hown (hts _ w_323) (fun _ h9 => h9) d_AB_isLatin1_0 ?_
  refine lv_if_eq (tgt := 17) hx hb d_AB_isLatin1_3 (by decide) (fun c_1 => ?_) (fun c_1 => ?_)
  · have h := h.1 c_1
    refine lv_iconst (v := 0) hx hb d_AB_isLatin1_17 (by decide) ?_
    exact hret () () 0 _ _ _ _ rfl h hP hD hS d_AB_isLatin1_18
  · have h := h.2 c_1
    refine lv_aload_n hx hb d_AB_isLatin1_6 rfl (lv_at hl 0 rfl) ?_
    refine va_get (D := (dC, dI)) (ci := 7) (v := .int fu_coder) (C := R_SB) (T := T_SB) (N := 4) hx hb hts in_SB hown hK hP 0 rfl rfl 1 (by decide) (hts _ w_285) (fun _ h9 => h9) rfl d_AB_isLatin1_7 ?_
    refine lv_if_ne (tgt := 17) hx hb d_AB_isLatin1_10 (by decide) (fun c_2 => ?_) (fun c_2 => ?_)
    · have h := h.2 c_2
      refine lv_iconst (v := 0) hx hb d_AB_isLatin1_17 (by decide) ?_
      exact hret () () 0 _ _ _ _ rfl h hP hD hS d_AB_isLatin1_18
    · have h := h.1 c_2
      refine lv_iconst (v := 1) hx hb d_AB_isLatin1_13 (by decide) ?_
      refine lv_goto (tgt := 18) hx hb d_AB_isLatin1_14 (by decide) ?_
      exact hret () () 1 _ _ _ _ rfl h hP hD hS d_AB_isLatin1_18
def wp_SL_canEncode (Q : Int32 → Unit → Prop) (p0 : Int32)  : Prop := ((255 < p0 → (Q 0 ())) ∧ (¬ 255 < p0 → (Q 1 ())))
abbrev rm_SL_canEncode : Room := { frames := 0, cells := 0, slots := 0, locals := 0 }
set_option maxHeartbeats 4000000 in
set_option maxRecDepth 100000 in
theorem k_SL_canEncode (l : Launch) (dC : Nat → ClassId) (dI : Nat → Nat → Nat) (cI cC cB : ClassId) (sz : Nat)   (p0 : Int32) {Q : Int32 → Unit → Prop} (h : wp_SL_canEncode Q p0 ) :
    CTi l y_SL_canEncode (wM y_SL_canEncode c_SL_canEncode 1 (some .boolean)) rm_SL_canEncode 0 0 (dC, dI) (tysL cI cC cB) [.int p0] [] sz Q (fun (v : Unit) (b : Unit) => []) := by
  refine CTi.std (by decide) (Nat.le_of_ble_eq_true rfl) ?_
  intro p e s m args below meth c A ls QF C0 hP hD hl hS hsz hnm hret
  obtain ⟨hx, hb, hr, hml, hown, hts, hlocks, hN, hA, hK⟩ := id C0
  have hown : s.vm.findClass R_SL = some m.cls := hown
  have hl : lv_has ls 1 [(0, .int p0)] := hl
  clear hsz hnm
  unfold wp_SL_canEncode at h
  refine lv_iload_n hx hb d_SL_canEncode_0 rfl (lv_at hl 0 rfl) ?_
  refine lv_sipush (v := 255) hx hb d_SL_canEncode_1 (by decide) ?_
  refine lv_icmp_gt (tgt := 11) hx hb d_SL_canEncode_4 (by decide) (fun c_1 => ?_) (fun c_1 => ?_)
  · have h := h.1 c_1
    refine lv_iconst (v := 0) hx hb d_SL_canEncode_11 (by decide) ?_
    exact hret () () 0 _ _ _ _ rfl h hP hD hS d_SL_canEncode_12
  · have h := h.2 c_1
    refine lv_iconst (v := 1) hx hb d_SL_canEncode_7 (by decide) ?_
    refine lv_goto (tgt := 12) hx hb d_SL_canEncode_8 (by decide) ?_
    exact hret () () 1 _ _ _ _ rfl h hP hD hS d_SL_canEncode_12
abbrev W_AB_append_C (cI cC cB : ClassId) (qu : Nat) (qu_value : Nat) (fu_coder : Int32) (fu_maybeLatin1 : Int32) (fu_count : Int32) (nu_value : Nat) (au_value : Nat → Int32) : va_W := [(qu, .inr (7, [.ref qu_value, .int fu_coder, .int fu_maybeLatin1, .int fu_count])), (qu_value, .inl (cB, nu_value, .inl au_value))]
def w_AB_append_C_45 (Q : (Int32 × Nat × (Nat → Int32)) → Prop) (mc ms : Nat)  (fu_coder : Int32) (fu_count : Int32) (nu_value : Nat) (au_value : Nat → Int32) (kc : Nat) (ks : Nat) : Prop := False
def wp_AB_append_C (Q : (Int32 × Nat × (Nat → Int32)) → Prop) (mc ms : Nat) (p1 : Int32) (fu_coder : Int32) (fu_count : Int32) (nu_value : Nat) (au_value : Nat → Int32) : Prop := ∀ x_1 : Int32, x_1 = fu_count + 1 → (∃ mc_5 ms_6 : Nat, 0 + mc_5 ≤ mc ∧ 0 + ms_6 ≤ ms ∧ (wp_AB_ensureCapacityInternal (fun v_2 => wp_AB_isLatin1 (fun r_8 v_7 => ((r_8 = 0 → (w_AB_append_C_45 Q mc ms fu_coder fu_count v_2.1 v_2.2 (0 + mc_5) (0 + ms_6))) ∧ (¬ r_8 = 0 → (wp_SL_canEncode (fun r_11 v_10 => ((r_11 = 0 → (w_AB_append_C_45 Q mc ms fu_coder fu_count v_2.1 v_2.2 (0 + mc_5) (0 + ms_6))) ∧ (¬ r_11 = 0 → (∀ x_13 : Int32, x_13 = fu_count + 1 → (vp_in fu_count v_2.1 ∧ (∀ au_value_15 : Nat → Int32, au_value_15 = upd v_2.2 fu_count.toNatClampNeg (vp_nar .byte p1.toInt8.toInt32) → (Q (x_13, v_2.1, au_value_15)))))))) p1)))) fu_coder) mc_5 ms_6 x_1 fu_coder nu_value au_value))
abbrev rm_AB_append_C (mc ms : Nat) : Room := { frames := 4, cells := mc, slots := ms, locals := 95 }
set_option maxHeartbeats 4000000 in
set_option maxRecDepth 100000 in
theorem k_AB_append_C (l : Launch) (dC : Nat → ClassId) (dI : Nat → Nat → Nat) (cI cC cB : ClassId) (sz : Nat) (qu : Nat) (qu_value : Nat) (fu_coder : Int32) (fu_maybeLatin1 : Int32) (fu_count : Int32) (nu_value : Nat) (au_value : Nat → Int32) (p1 : Int32) (mc ms : Nat) {Q : (Int32 × Nat × (Nat → Int32)) → Prop} (h : wp_AB_append_C Q mc ms p1 fu_coder fu_count nu_value au_value) :
    CTr l y_AB_append_C (wM y_AB_append_C c_AB_append_C 2 (some (.object "java/lang/AbstractStringBuilder"))) (rm_AB_append_C mc ms) mc ms (dC, dI) (tysL cI cC cB) [.ref qu, .int p1] (W_AB_append_C cI cC cB qu qu_value fu_coder fu_maybeLatin1 fu_count nu_value au_value) sz Q (fun (v : Int32 × Nat × (Nat → Int32)) (b : Nat) => (W_AB_append_C cI cC cB qu b fu_coder fu_maybeLatin1 v.1 v.2.1 v.2.2)) (fun _ _ => qu) := by
  refine CTr.std (Or.inl ⟨_, rfl⟩) (by decide) (Nat.le_of_ble_eq_true rfl) ?_
  intro p e s m args below meth c A ls QF C0 hP hD hl hS hsz hnm hret
  obtain ⟨hx, hb, hr, hml, hown, hts, hlocks, hN, hA, hK⟩ := id C0
  have hown : s.vm.findClass R_AB = some m.cls := hown
  have hl : lv_has ls 2 [(0, .ref qu), (1, .int p1)] := hl
  clear hsz hnm
  have blk_45 : ∀  (fu_count : Int32) (nu_value : Nat) (au_value : Nat → Int32) (kc : Nat) (ks : Nat) (qu_value : Nat) (H : Heap) (locs : List Loc) (ls : Array Slot), w_AB_append_C_45 Q mc ms  fu_coder fu_count nu_value au_value kc ks → kc ≤ mc → ks ≤ ms → va_P (dC, dI) cls (W_AB_append_C cI cC cB qu qu_value fu_coder fu_maybeLatin1 fu_count nu_value au_value) H → va_D A (W_AB_append_C cI cC cB qu qu_value fu_coder fu_maybeLatin1 fu_count nu_value au_value) → va_S A s.heap H locs → lv_has ls 2 [(0, .ref qu)] → W p l e (rm_AB_append_C mc ms) s m args below meth c H locs kc ks QF (F0 m 45 ls []) := by
    intro  fu_count nu_value au_value kc ks qu_value H locs ls h hkc hks hP hD hS hl
    unfold w_AB_append_C_45 at h
    exact h.elim
  unfold wp_AB_append_C at h
  refine lv_aload_n hx hb d_AB_append_C_0 rfl (lv_at hl 0 rfl) ?_
  refine lv_aload_n hx hb d_AB_append_C_1 rfl (lv_at hl 0 rfl) ?_
  refine va_get (D := (dC, dI)) (ci := 7) (v := .int fu_count) (C := R_SB) (T := T_SB) (N := 4) hx hb hts in_SB hown hK hP 0 rfl rfl 3 (by decide) (hts _ w_311) (fun _ h9 => h9) rfl d_AB_append_C_2 ?_
  refine lv_iconst (v := 1) hx hb d_AB_append_C_5 (by decide) ?_
  refine lv_iadd hx hb d_AB_append_C_6 ?_
  refine lv_topi (fun x_1 ex_1 => ?_)
  have h := h x_1 ex_1
  obtain ⟨mc_5, ms_6, hmc_5, hms_6, h⟩ := h
  refine call_U_v (As := [.int x_1]) (rest := []) C0 hP hD hS [0, 1] [] [0, 1] [] (fun (v : Nat × (Nat → Int32)) (b : Nat) => (W_AB_append_C cI cC cB qu b fu_coder fu_maybeLatin1 fu_count v.1 v.2)) (ci := 7) rfl rfl (k_AB_ensureCapacityInternal l dC dI cI cC cB _ qu qu_value fu_coder fu_maybeLatin1 fu_count nu_value au_value x_1 mc_5 ms_6 h) w_315 w_316 (hts _ w_314) w_317 w_305 w_313 1 rfl (by decide +kernel) rfl rfl ⟨Nat.le_of_ble_eq_true rfl, Nat.le_of_ble_eq_true rfl⟩ rfl rfl (by decide) (by decide) (by decide) (by decide) (fun _ _ => rfl) hl.1 rfl (Nat.le_of_ble_eq_true rfl) d_AB_append_C_7 ⟨hmc_5, hms_6⟩ (fun v_2 b_4 H locs h hP hD hS => ?_)
  have hP : va_P (dC, dI) cls (W_AB_append_C cI cC cB qu b_4 fu_coder fu_maybeLatin1 fu_count v_2.1 v_2.2) H := hP
  have hD : va_D A (W_AB_append_C cI cC cB qu b_4 fu_coder fu_maybeLatin1 fu_count v_2.1 v_2.2) := hD
  refine lv_aload_n hx hb d_AB_append_C_10 rfl (lv_at hl 0 rfl) ?_
  refine call_U_i (As := []) (rest := []) C0 hP hD hS [0] [1] [1, 0] [(b_4, .inl (cB, v_2.1, .inl v_2.2))] (fun (v : Unit) (b : Unit) => (W_AB_append_C cI cC cB qu b_4 fu_coder fu_maybeLatin1 fu_count v_2.1 v_2.2)) (ci := 7) rfl rfl (k_AB_isLatin1 l dC dI cI cC cB _ qu b_4 fu_coder fu_maybeLatin1 fu_count h) w_330 w_331 (hts _ w_329) w_332 w_305 w_328 0 rfl (by decide +kernel) rfl rfl ⟨Nat.le_of_ble_eq_true rfl, Nat.le_of_ble_eq_true rfl⟩ rfl rfl (by decide) (by decide) (by decide) (by decide) (fun _ _ => rfl) hl.1 rfl (Nat.le_of_ble_eq_true rfl) d_AB_append_C_11 ⟨hmc_5, hms_6⟩ (fun r_8 v_7 _ H locs h hP hD hS => ?_)
  have hP : va_P (dC, dI) cls (W_AB_append_C cI cC cB qu b_4 fu_coder fu_maybeLatin1 fu_count v_2.1 v_2.2) H := hP
  have hD : va_D A (W_AB_append_C cI cC cB qu b_4 fu_coder fu_maybeLatin1 fu_count v_2.1 v_2.2) := hD
  refine lv_if_eq (tgt := 45) hx hb d_AB_append_C_14 (by decide) (fun c_9 => ?_) (fun c_9 => ?_)
  · have h := h.1 c_9
    exact blk_45  _ _ _ _ _ _ _ _ _ h hmc_5 hms_6 hP hD hS (lv_sub hl [0] rfl)
  · have h := h.2 c_9
    refine lv_iload_n hx hb d_AB_append_C_17 rfl (lv_at hl 1 rfl) ?_
    refine call_S_i (As := [.int p1]) (rest := []) C0 hP hD hS [] [0, 1] [0, 1] [(qu, .inr (7, [.ref b_4, .int fu_coder, .int fu_maybeLatin1, .int fu_count])), (b_4, .inl (cB, v_2.1, .inl v_2.2))] (fun (v : Unit) (b : Unit) => (W_AB_append_C cI cC cB qu b_4 fu_coder fu_maybeLatin1 fu_count v_2.1 v_2.2)) (k_SL_canEncode l dC dI cI cC cB _ p1 h) (g_S w_325 w_326 w_327 w_324) 1 rfl (by decide +kernel) rfl rfl ⟨Nat.le_of_ble_eq_true rfl, Nat.le_of_ble_eq_true rfl⟩ rfl rfl (by decide) (by decide) (by decide) (by decide) (fun _ _ => rfl) hl.1 rfl (Nat.le_of_ble_eq_true rfl) d_AB_append_C_18 ⟨hmc_5, hms_6⟩ (fun r_11 v_10 _ H locs h hP hD hS => ?_)
    have hP : va_P (dC, dI) cls (W_AB_append_C cI cC cB qu b_4 fu_coder fu_maybeLatin1 fu_count v_2.1 v_2.2) H := hP
    have hD : va_D A (W_AB_append_C cI cC cB qu b_4 fu_coder fu_maybeLatin1 fu_count v_2.1 v_2.2) := hD
    refine lv_if_eq (tgt := 45) hx hb d_AB_append_C_21 (by decide) (fun c_12 => ?_) (fun c_12 => ?_)
    · have h := h.1 c_12
      exact blk_45  _ _ _ _ _ _ _ _ _ h hmc_5 hms_6 hP hD hS (lv_sub hl [0] rfl)
    · have h := h.2 c_12
      refine lv_aload_n hx hb d_AB_append_C_24 rfl (lv_at hl 0 rfl) ?_
      refine va_get (D := (dC, dI)) (ci := 7) (v := .ref b_4) (C := R_SB) (T := T_SB) (N := 4) hx hb hts in_SB hown hK hP 0 rfl rfl 0 (by decide) (hts _ w_284) (fun _ h9 => h9) rfl d_AB_append_C_25 ?_
      refine lv_aload_n hx hb d_AB_append_C_28 rfl (lv_at hl 0 rfl) ?_
      refine lv_dup hx hb d_AB_append_C_29 rfl ?_
      refine va_get (D := (dC, dI)) (ci := 7) (v := .int fu_count) (C := R_SB) (T := T_SB) (N := 4) hx hb hts in_SB hown hK hP 0 rfl rfl 3 (by decide) (hts _ w_311) (fun _ h9 => h9) rfl d_AB_append_C_30 ?_
      refine lv_dup_x1 hx hb d_AB_append_C_33 rfl rfl ?_
      refine lv_iconst (v := 1) hx hb d_AB_append_C_34 (by decide) ?_
      refine lv_iadd hx hb d_AB_append_C_35 ?_
      refine lv_topi (fun x_13 ex_13 => ?_)
      have h := h x_13 ex_13
      refine va_put (D := (dC, dI)) (ci := 7) (v := .int x_13) (ty := .int) (C := R_SB) (T := T_SB) (N := 4) hx hb hts in_SB t_SB t_SB_ok n_SB hown hK hP hD hS 0 rfl rfl 3 (by decide) (hts _ w_311) (fun _ h9 => h9) rfl (by decide +kernel) rfl rfl (Nat.le_of_ble_eq_true rfl) d_AB_append_C_36 (fun H locs hP hD hS => ?_)
      have hP : va_P (dC, dI) cls (W_AB_append_C cI cC cB qu b_4 fu_coder fu_maybeLatin1 x_13 v_2.1 v_2.2) H := hP
      have hD : va_D A (W_AB_append_C cI cC cB qu b_4 fu_coder fu_maybeLatin1 x_13 v_2.1 v_2.2) := hD
      refine lv_iload_n hx hb d_AB_append_C_39 rfl (lv_at hl 1 rfl) ?_
      refine lv_i2b hx hb d_AB_append_C_40 rfl ?_
      have hi_14 := h.1
      have h := h.2
      refine va_bast hx hb hK hP hD hS 1 2 rfl rfl hi_14 d_AB_append_C_41 (fun H locs hP hD hS => ?_)
      obtain ⟨au_value_15, eau_value_15⟩ : ∃ z : Nat → Int32, z = upd v_2.2 fu_count.toNatClampNeg (vp_nar .byte p1.toInt8.toInt32) := ⟨_, rfl⟩
      have h := h au_value_15 eau_value_15
      have hP : va_P (dC, dI) cls (W_AB_append_C cI cC cB qu b_4 fu_coder fu_maybeLatin1 x_13 v_2.1 au_value_15) H := by rw [eau_value_15]; exact hP
      have hD : va_D A (W_AB_append_C cI cC cB qu b_4 fu_coder fu_maybeLatin1 x_13 v_2.1 au_value_15) := by rw [eau_value_15]; exact hD
      refine lv_goto (tgt := 75) hx hb d_AB_append_C_42 (by decide) ?_
      refine lv_aload_n hx hb d_AB_append_C_75 rfl (lv_at hl 0 rfl) ?_
      refine W.widen (k := mc) (n := ms) hmc_5 hms_6 ?_
      exact hret (x_13, v_2.1, au_value_15) b_4 _ _ _ _ h hP hD hS d_AB_append_C_76
abbrev W_SB_append_C (cI cC cB : ClassId) (qu : Nat) (qu_value : Nat) (fu_coder : Int32) (fu_maybeLatin1 : Int32) (fu_count : Int32) (nu_value : Nat) (au_value : Nat → Int32) : va_W := [(qu, .inr (7, [.ref qu_value, .int fu_coder, .int fu_maybeLatin1, .int fu_count])), (qu_value, .inl (cB, nu_value, .inl au_value))]
def wp_SB_append_C (Q : (Int32 × Nat × (Nat → Int32)) → Prop) (mc ms : Nat) (p1 : Int32) (fu_coder : Int32) (fu_count : Int32) (nu_value : Nat) (au_value : Nat → Int32) : Prop := ∃ mc_4 ms_5 : Nat, 0 + mc_4 ≤ mc ∧ 0 + ms_5 ≤ ms ∧ (wp_AB_append_C (fun v_1 => Q (v_1.1, v_1.2.1, v_1.2.2)) mc_4 ms_5 p1 fu_coder fu_count nu_value au_value)
abbrev rm_SB_append_C (mc ms : Nat) : Room := { frames := 5, cells := mc, slots := ms, locals := 116 }
set_option maxHeartbeats 4000000 in
set_option maxRecDepth 100000 in
theorem k_SB_append_C (l : Launch) (dC : Nat → ClassId) (dI : Nat → Nat → Nat) (cI cC cB : ClassId) (sz : Nat) (qu : Nat) (qu_value : Nat) (fu_coder : Int32) (fu_maybeLatin1 : Int32) (fu_count : Int32) (nu_value : Nat) (au_value : Nat → Int32) (p1 : Int32) (mc ms : Nat) {Q : (Int32 × Nat × (Nat → Int32)) → Prop} (h : wp_SB_append_C Q mc ms p1 fu_coder fu_count nu_value au_value) :
    CTr l y_SB_append_C (wM y_SB_append_C c_SB_append_C 2 (some (.object "java/lang/StringBuilder"))) (rm_SB_append_C mc ms) mc ms (dC, dI) (tysL cI cC cB) [.ref qu, .int p1] (W_SB_append_C cI cC cB qu qu_value fu_coder fu_maybeLatin1 fu_count nu_value au_value) sz Q (fun (v : Int32 × Nat × (Nat → Int32)) (b : Nat) => (W_SB_append_C cI cC cB qu b fu_coder fu_maybeLatin1 v.1 v.2.1 v.2.2)) (fun _ _ => qu) := by
  refine CTr.std (Or.inl ⟨_, rfl⟩) (by decide) (Nat.le_of_ble_eq_true rfl) ?_
  intro p e s m args below meth c A ls QF C0 hP hD hl hS hsz hnm hret
  obtain ⟨hx, hb, hr, hml, hown, hts, hlocks, hN, hA, hK⟩ := id C0
  have hown : s.vm.findClass R_SB = some m.cls := hown
  have hl : lv_has ls 2 [(0, .ref qu), (1, .int p1)] := hl
  clear hsz hnm
  unfold wp_SB_append_C at h
  refine lv_aload_n hx hb d_SB_append_C_0 rfl (lv_at hl 0 rfl) ?_
  refine lv_iload_n hx hb d_SB_append_C_1 rfl (lv_at hl 1 rfl) ?_
  obtain ⟨mc_4, ms_5, hmc_4, hms_5, h⟩ := h
  refine call_SU_r (As := [.int p1]) (rest := []) C0 hP hD hS [0, 1] [] [0, 1] [] (fun (v : Int32 × Nat × (Nat → Int32)) (b : Nat) => (W_SB_append_C cI cC cB qu b fu_coder fu_maybeLatin1 v.1 v.2.1 v.2.2)) (ci := 7) rfl rfl (k_AB_append_C l dC dI cI cC cB _ qu qu_value fu_coder fu_maybeLatin1 fu_count nu_value au_value p1 mc_4 ms_5 h) w_334 w_335 w_321 w_336 w_305 w_333 (by decide +kernel) 1 rfl (by decide +kernel) rfl rfl ⟨Nat.le_of_ble_eq_true rfl, Nat.le_of_ble_eq_true rfl⟩ rfl rfl (by decide) (by decide) (by decide) (by decide) (fun _ _ => rfl) hl.1 rfl (Nat.le_of_ble_eq_true rfl) d_SB_append_C_2 ⟨hmc_4, hms_5⟩ (fun v_1 b_3 H locs h hP hD hS => ?_)
  have hP : va_P (dC, dI) cls (W_SB_append_C cI cC cB qu b_3 fu_coder fu_maybeLatin1 v_1.1 v_1.2.1 v_1.2.2) H := hP
  have hD : va_D A (W_SB_append_C cI cC cB qu b_3 fu_coder fu_maybeLatin1 v_1.1 v_1.2.1 v_1.2.2) := hD
  refine lv_pop hx hb d_SB_append_C_5 rfl ?_
  refine lv_aload_n hx hb d_SB_append_C_6 rfl (lv_at hl 0 rfl) ?_
  refine W.widen (k := mc) (n := ms) hmc_4 hms_5 ?_
  exact hret (v_1.1, v_1.2.1, v_1.2.2) b_3 _ _ _ _ h hP hD hS d_SB_append_C_7
abbrev W_X_writeName (cI cC cB : ClassId) (qu : Nat) (qu_told : Nat) (qu_told_value : Nat) (qu_text : Nat) (qu_reading : Nat) (qu_costs : Nat) (qu_result : Nat) (qu_graph : Nat) (qu_spare : Nat) (fu_told_coder : Int32) (fu_told_maybeLatin1 : Int32) (fu_told_count : Int32) (nu_told_value : Nat) (au_told_value : Nat → Int32) : va_W := [(qu, .inr (0, [.ref qu_text, .ref qu_reading, .ref qu_costs, .ref qu_result, .ref qu_told, .ref qu_graph, .ref qu_spare])), (qu_told, .inr (7, [.ref qu_told_value, .int fu_told_coder, .int fu_told_maybeLatin1, .int fu_told_count])), (qu_told_value, .inl (cB, nu_told_value, .inl au_told_value))]
def w_X_writeName_50 (Q : (Int32 × Nat × (Nat → Int32)) → Prop) (mc ms : Nat)  (p1 : Int32) (fu_told_coder : Int32) (fu_told_count : Int32) (nu_told_value : Nat) (au_told_value : Nat → Int32) (kc : Nat) (ks : Nat) : Prop := ∀ x_1 : Int32, x_1 = ((p1 - p1 / 128 * 128).toUInt32 % 65536).toInt32 → (∃ mc_5 ms_6 : Nat, kc + mc_5 ≤ mc ∧ ks + ms_6 ≤ ms ∧ (wp_SB_append_C (fun v_2 => Q (v_2.1, v_2.2.1, v_2.2.2)) mc_5 ms_6 x_1 fu_told_coder fu_told_count nu_told_value au_told_value))
def w_X_writeName_25 (Q : (Int32 × Nat × (Nat → Int32)) → Prop) (mc ms : Nat)  (p1 : Int32) (fu_told_coder : Int32) (fu_told_count : Int32) (nu_told_value : Nat) (au_told_value : Nat → Int32) (kc : Nat) (ks : Nat) : Prop := ((p1 < 128 → (w_X_writeName_50 Q mc ms p1 fu_told_coder fu_told_count nu_told_value au_told_value kc ks)) ∧ (¬ p1 < 128 → (∀ x_8 : Int32, x_8 = (((p1 / 128) - (p1 / 128) / 128 * 128).toUInt32 % 65536).toInt32 → (∃ mc_12 ms_13 : Nat, kc + mc_12 ≤ mc ∧ ks + ms_13 ≤ ms ∧ (wp_SB_append_C (fun v_9 => w_X_writeName_50 Q mc ms p1 fu_told_coder v_9.1 v_9.2.1 v_9.2.2 (kc + mc_12) (ks + ms_13)) mc_12 ms_13 x_8 fu_told_coder fu_told_count nu_told_value au_told_value)))))
def wp_X_writeName (Q : (Int32 × Nat × (Nat → Int32)) → Prop) (mc ms : Nat) (p1 : Int32) (fu_told_coder : Int32) (fu_told_count : Int32) (nu_told_value : Nat) (au_told_value : Nat → Int32) : Prop := ((p1 < 16384 → (w_X_writeName_25 Q mc ms p1 fu_told_coder fu_told_count nu_told_value au_told_value 0 0)) ∧ (¬ p1 < 16384 → (∀ x_15 : Int32, x_15 = (((p1 / 128) / 128).toUInt32 % 65536).toInt32 → (∃ mc_19 ms_20 : Nat, 0 + mc_19 ≤ mc ∧ 0 + ms_20 ≤ ms ∧ (wp_SB_append_C (fun v_16 => w_X_writeName_25 Q mc ms p1 fu_told_coder v_16.1 v_16.2.1 v_16.2.2 (0 + mc_19) (0 + ms_20)) mc_19 ms_20 x_15 fu_told_coder fu_told_count nu_told_value au_told_value)))))
abbrev rm_X_writeName (mc ms : Nat) : Room := { frames := 6, cells := mc, slots := ms, locals := 137 }
set_option maxHeartbeats 4000000 in
set_option maxRecDepth 100000 in
theorem k_X_writeName (l : Launch) (dC : Nat → ClassId) (dI : Nat → Nat → Nat) (cI cC cB : ClassId) (sz : Nat) (qu : Nat) (qu_told : Nat) (qu_told_value : Nat) (qu_text : Nat) (qu_reading : Nat) (qu_costs : Nat) (qu_result : Nat) (qu_graph : Nat) (qu_spare : Nat) (fu_told_coder : Int32) (fu_told_maybeLatin1 : Int32) (fu_told_count : Int32) (nu_told_value : Nat) (au_told_value : Nat → Int32) (p1 : Int32) (mc ms : Nat) {Q : (Int32 × Nat × (Nat → Int32)) → Prop} (h : wp_X_writeName Q mc ms p1 fu_told_coder fu_told_count nu_told_value au_told_value) :
    CTv l y_X_writeName (wM y_X_writeName c_X_writeName 2 none) (rm_X_writeName mc ms) mc ms (dC, dI) (tysL cI cC cB) [.ref qu, .int p1] (W_X_writeName cI cC cB qu qu_told qu_told_value qu_text qu_reading qu_costs qu_result qu_graph qu_spare fu_told_coder fu_told_maybeLatin1 fu_told_count nu_told_value au_told_value) sz Q (fun (v : Int32 × Nat × (Nat → Int32)) (b : Nat) => (W_X_writeName cI cC cB qu qu_told b qu_text qu_reading qu_costs qu_result qu_graph qu_spare fu_told_coder fu_told_maybeLatin1 v.1 v.2.1 v.2.2)) := by
  refine CTv.std (by decide) (Nat.le_of_ble_eq_true rfl) ?_
  intro p e s m args below meth c A ls QF C0 hP hD hl hS hsz hnm hret
  obtain ⟨hx, hb, hr, hml, hown, hts, hlocks, hN, hA, hK⟩ := id C0
  have hown : s.vm.findClass R_X = some m.cls := hown
  have hl : lv_has ls 2 [(0, .ref qu), (1, .int p1)] := hl
  clear hsz hnm
  have blk_50 : ∀  (fu_told_count : Int32) (nu_told_value : Nat) (au_told_value : Nat → Int32) (kc : Nat) (ks : Nat) (qu_told_value : Nat) (H : Heap) (locs : List Loc) (ls : Array Slot), w_X_writeName_50 Q mc ms  p1 fu_told_coder fu_told_count nu_told_value au_told_value kc ks → kc ≤ mc → ks ≤ ms → va_P (dC, dI) cls (W_X_writeName cI cC cB qu qu_told qu_told_value qu_text qu_reading qu_costs qu_result qu_graph qu_spare fu_told_coder fu_told_maybeLatin1 fu_told_count nu_told_value au_told_value) H → va_D A (W_X_writeName cI cC cB qu qu_told qu_told_value qu_text qu_reading qu_costs qu_result qu_graph qu_spare fu_told_coder fu_told_maybeLatin1 fu_told_count nu_told_value au_told_value) → va_S A s.heap H locs → lv_has ls 2 [(0, .ref qu), (1, .int p1)] → W p l e (rm_X_writeName mc ms) s m args below meth c H locs kc ks QF (F0 m 50 ls []) := by
    intro  fu_told_count nu_told_value au_told_value kc ks qu_told_value H locs ls h hkc hks hP hD hS hl
    unfold w_X_writeName_50 at h
    refine lv_aload_n hx hb d_X_writeName_50 rfl (lv_at hl 0 rfl) ?_
    refine va_get (D := (dC, dI)) (ci := 0) (v := .ref qu_told) (C := R_X) (T := T_X) (N := 7) hx hb hts in_X hown hK hP 0 rfl rfl 4 (by decide) (hts _ w_310) (fun _ h9 => h9) rfl d_X_writeName_51 ?_
    refine lv_iload_n hx hb d_X_writeName_54 rfl (lv_at hl 1 rfl) ?_
    refine lv_sipush (v := 128) hx hb d_X_writeName_55 (by decide) ?_
    refine lv_irem hx hb d_X_writeName_58 (by decide) ?_
    refine lv_i2c hx hb d_X_writeName_59 rfl ?_
    refine lv_topi (fun x_1 ex_1 => ?_)
    have h := h x_1 ex_1
    obtain ⟨mc_5, ms_6, hmc_5, hms_6, h⟩ := h
    refine call_V_r (As := [.int x_1]) (rest := []) C0 hP hD hS [1, 2] [0] [0, 1, 2] [(qu, .inr (0, [.ref qu_text, .ref qu_reading, .ref qu_costs, .ref qu_result, .ref qu_told, .ref qu_graph, .ref qu_spare]))] (fun (v : Int32 × Nat × (Nat → Int32)) (b : Nat) => (W_X_writeName cI cC cB qu qu_told b qu_text qu_reading qu_costs qu_result qu_graph qu_spare fu_told_coder fu_told_maybeLatin1 v.1 v.2.1 v.2.2)) (ci := 7) rfl rfl (k_SB_append_C l dC dI cI cC cB _ qu_told qu_told_value fu_told_coder fu_told_maybeLatin1 fu_told_count nu_told_value au_told_value x_1 mc_5 ms_6 h) (g_V w_339 w_340 w_341 w_342 w_338) 1 rfl (by decide +kernel) rfl rfl ⟨Nat.le_of_ble_eq_true rfl, Nat.le_of_ble_eq_true rfl⟩ rfl rfl (by decide) (by decide) (by decide) (by decide) (fun _ _ => rfl) hl.1 rfl (Nat.le_of_ble_eq_true rfl) d_X_writeName_60 ⟨hmc_5, hms_6⟩ (fun v_2 b_4 H locs h hP hD hS => ?_)
    have hP : va_P (dC, dI) cls (W_X_writeName cI cC cB qu qu_told b_4 qu_text qu_reading qu_costs qu_result qu_graph qu_spare fu_told_coder fu_told_maybeLatin1 v_2.1 v_2.2.1 v_2.2.2) H := hP
    have hD : va_D A (W_X_writeName cI cC cB qu qu_told b_4 qu_text qu_reading qu_costs qu_result qu_graph qu_spare fu_told_coder fu_told_maybeLatin1 v_2.1 v_2.2.1 v_2.2.2) := hD
    refine lv_pop hx hb d_X_writeName_63 rfl ?_
    refine W.widen (k := mc) (n := ms) hmc_5 hms_6 ?_
    exact hret (v_2.1, v_2.2.1, v_2.2.2) b_4 _ _ _ _ h hP hD hS d_X_writeName_64
  have blk_25 : ∀  (fu_told_count : Int32) (nu_told_value : Nat) (au_told_value : Nat → Int32) (kc : Nat) (ks : Nat) (qu_told_value : Nat) (H : Heap) (locs : List Loc) (ls : Array Slot), w_X_writeName_25 Q mc ms  p1 fu_told_coder fu_told_count nu_told_value au_told_value kc ks → kc ≤ mc → ks ≤ ms → va_P (dC, dI) cls (W_X_writeName cI cC cB qu qu_told qu_told_value qu_text qu_reading qu_costs qu_result qu_graph qu_spare fu_told_coder fu_told_maybeLatin1 fu_told_count nu_told_value au_told_value) H → va_D A (W_X_writeName cI cC cB qu qu_told qu_told_value qu_text qu_reading qu_costs qu_result qu_graph qu_spare fu_told_coder fu_told_maybeLatin1 fu_told_count nu_told_value au_told_value) → va_S A s.heap H locs → lv_has ls 2 [(0, .ref qu), (1, .int p1)] → W p l e (rm_X_writeName mc ms) s m args below meth c H locs kc ks QF (F0 m 25 ls []) := by
    intro  fu_told_count nu_told_value au_told_value kc ks qu_told_value H locs ls h hkc hks hP hD hS hl
    unfold w_X_writeName_25 at h
    refine lv_iload_n hx hb d_X_writeName_25 rfl (lv_at hl 1 rfl) ?_
    refine lv_sipush (v := 128) hx hb d_X_writeName_26 (by decide) ?_
    refine lv_icmp_lt (tgt := 50) hx hb d_X_writeName_29 (by decide) (fun c_7 => ?_) (fun c_7 => ?_)
    · have h := h.1 c_7
      exact blk_50  _ _ _ _ _ _ _ _ _ h hkc hks hP hD hS (lv_sub hl [0, 1] rfl)
    · have h := h.2 c_7
      refine lv_aload_n hx hb d_X_writeName_32 rfl (lv_at hl 0 rfl) ?_
      refine va_get (D := (dC, dI)) (ci := 0) (v := .ref qu_told) (C := R_X) (T := T_X) (N := 7) hx hb hts in_X hown hK hP 0 rfl rfl 4 (by decide) (hts _ w_310) (fun _ h9 => h9) rfl d_X_writeName_33 ?_
      refine lv_iload_n hx hb d_X_writeName_36 rfl (lv_at hl 1 rfl) ?_
      refine lv_sipush (v := 128) hx hb d_X_writeName_37 (by decide) ?_
      refine lv_idiv hx hb d_X_writeName_40 (by decide) ?_
      refine lv_sipush (v := 128) hx hb d_X_writeName_41 (by decide) ?_
      refine lv_irem hx hb d_X_writeName_44 (by decide) ?_
      refine lv_i2c hx hb d_X_writeName_45 rfl ?_
      refine lv_topi (fun x_8 ex_8 => ?_)
      have h := h x_8 ex_8
      obtain ⟨mc_12, ms_13, hmc_12, hms_13, h⟩ := h
      refine call_V_r (As := [.int x_8]) (rest := []) C0 hP hD hS [1, 2] [0] [0, 1, 2] [(qu, .inr (0, [.ref qu_text, .ref qu_reading, .ref qu_costs, .ref qu_result, .ref qu_told, .ref qu_graph, .ref qu_spare]))] (fun (v : Int32 × Nat × (Nat → Int32)) (b : Nat) => (W_X_writeName cI cC cB qu qu_told b qu_text qu_reading qu_costs qu_result qu_graph qu_spare fu_told_coder fu_told_maybeLatin1 v.1 v.2.1 v.2.2)) (ci := 7) rfl rfl (k_SB_append_C l dC dI cI cC cB _ qu_told qu_told_value fu_told_coder fu_told_maybeLatin1 fu_told_count nu_told_value au_told_value x_8 mc_12 ms_13 h) (g_V w_339 w_340 w_341 w_342 w_338) 1 rfl (by decide +kernel) rfl rfl ⟨Nat.le_of_ble_eq_true rfl, Nat.le_of_ble_eq_true rfl⟩ rfl rfl (by decide) (by decide) (by decide) (by decide) (fun _ _ => rfl) hl.1 rfl (Nat.le_of_ble_eq_true rfl) d_X_writeName_46 ⟨hmc_12, hms_13⟩ (fun v_9 b_11 H locs h hP hD hS => ?_)
      have hP : va_P (dC, dI) cls (W_X_writeName cI cC cB qu qu_told b_11 qu_text qu_reading qu_costs qu_result qu_graph qu_spare fu_told_coder fu_told_maybeLatin1 v_9.1 v_9.2.1 v_9.2.2) H := hP
      have hD : va_D A (W_X_writeName cI cC cB qu qu_told b_11 qu_text qu_reading qu_costs qu_result qu_graph qu_spare fu_told_coder fu_told_maybeLatin1 v_9.1 v_9.2.1 v_9.2.2) := hD
      refine lv_pop hx hb d_X_writeName_49 rfl ?_
      exact blk_50  _ _ _ _ _ _ _ _ _ h hmc_12 hms_13 hP hD hS (lv_sub hl [0, 1] rfl)
  unfold wp_X_writeName at h
  refine lv_iload_n hx hb d_X_writeName_0 rfl (lv_at hl 1 rfl) ?_
  refine lv_sipush (v := 16384) hx hb d_X_writeName_1 (by decide) ?_
  refine lv_icmp_lt (tgt := 25) hx hb d_X_writeName_4 (by decide) (fun c_14 => ?_) (fun c_14 => ?_)
  · have h := h.1 c_14
    exact blk_25  _ _ _ _ _ _ _ _ _ h (Nat.zero_le _) (Nat.zero_le _) hP hD hS (lv_sub hl [0, 1] rfl)
  · have h := h.2 c_14
    refine lv_aload_n hx hb d_X_writeName_7 rfl (lv_at hl 0 rfl) ?_
    refine va_get (D := (dC, dI)) (ci := 0) (v := .ref qu_told) (C := R_X) (T := T_X) (N := 7) hx hb hts in_X hown hK hP 0 rfl rfl 4 (by decide) (hts _ w_310) (fun _ h9 => h9) rfl d_X_writeName_8 ?_
    refine lv_iload_n hx hb d_X_writeName_11 rfl (lv_at hl 1 rfl) ?_
    refine lv_sipush (v := 128) hx hb d_X_writeName_12 (by decide) ?_
    refine lv_idiv hx hb d_X_writeName_15 (by decide) ?_
    refine lv_sipush (v := 128) hx hb d_X_writeName_16 (by decide) ?_
    refine lv_idiv hx hb d_X_writeName_19 (by decide) ?_
    refine lv_i2c hx hb d_X_writeName_20 rfl ?_
    refine lv_topi (fun x_15 ex_15 => ?_)
    have h := h x_15 ex_15
    obtain ⟨mc_19, ms_20, hmc_19, hms_20, h⟩ := h
    refine call_V_r (As := [.int x_15]) (rest := []) C0 hP hD hS [1, 2] [0] [0, 1, 2] [(qu, .inr (0, [.ref qu_text, .ref qu_reading, .ref qu_costs, .ref qu_result, .ref qu_told, .ref qu_graph, .ref qu_spare]))] (fun (v : Int32 × Nat × (Nat → Int32)) (b : Nat) => (W_X_writeName cI cC cB qu qu_told b qu_text qu_reading qu_costs qu_result qu_graph qu_spare fu_told_coder fu_told_maybeLatin1 v.1 v.2.1 v.2.2)) (ci := 7) rfl rfl (k_SB_append_C l dC dI cI cC cB _ qu_told qu_told_value fu_told_coder fu_told_maybeLatin1 fu_told_count nu_told_value au_told_value x_15 mc_19 ms_20 h) (g_V w_339 w_340 w_341 w_342 w_338) 1 rfl (by decide +kernel) rfl rfl ⟨Nat.le_of_ble_eq_true rfl, Nat.le_of_ble_eq_true rfl⟩ rfl rfl (by decide) (by decide) (by decide) (by decide) (fun _ _ => rfl) hl.1 rfl (Nat.le_of_ble_eq_true rfl) d_X_writeName_21 ⟨hmc_19, hms_20⟩ (fun v_16 b_18 H locs h hP hD hS => ?_)
    have hP : va_P (dC, dI) cls (W_X_writeName cI cC cB qu qu_told b_18 qu_text qu_reading qu_costs qu_result qu_graph qu_spare fu_told_coder fu_told_maybeLatin1 v_16.1 v_16.2.1 v_16.2.2) H := hP
    have hD : va_D A (W_X_writeName cI cC cB qu qu_told b_18 qu_text qu_reading qu_costs qu_result qu_graph qu_spare fu_told_coder fu_told_maybeLatin1 v_16.1 v_16.2.1 v_16.2.2) := hD
    refine lv_pop hx hb d_X_writeName_24 rfl ?_
    exact blk_25  _ _ _ _ _ _ _ _ _ h hmc_19 hms_20 hP hD hS (lv_sub hl [0, 1] rfl)
abbrev W_X_writeSides (cI cC cB : ClassId) (qu : Nat) (qu_result : Nat) (qu_result_sides : Nat) (qu_told : Nat) (qu_told_value : Nat) (qu_graph : Nat) (qu_graph_segmentNames : Nat) (qu_text : Nat) (qu_reading : Nat) (qu_costs : Nat) (qu_spare : Nat) (qu_result_walkBackwards : Nat) (qu_result_editsBackwards : Nat) (qu_graph_sideStarts : Nat) (qu_graph_placeBases : Nat) (qu_graph_placeSides : Nat) (qu_graph_followers : Nat) (qu_graph_pathNames : Nat) (qu_graph_stepCounts : Nat) (qu_graph_steps : Nat) (qu_graph_joinFrom : Nat) (qu_graph_joinTo : Nat) (fu_result_found : Int32) (fu_result_cost : Int32) (fu_result_walkLength : Int32) (fu_result_editCount : Int32) (fu_result_sideCount : Int32) (fu_result_basesLeft : Int32) (fu_result_place : Int32) (au_result_sides : Nat → Int32) (fu_told_coder : Int32) (fu_told_maybeLatin1 : Int32) (fu_told_count : Int32) (nu_told_value : Nat) (au_told_value : Nat → Int32) (fu_graph_segments : Int32) (fu_graph_links : Int32) (fu_graph_paths : Int32) (fu_graph_places : Int32) (fu_graph_joins : Int32) (au_graph_segmentNames : Nat → Int32) : va_W := [(qu, .inr (0, [.ref qu_text, .ref qu_reading, .ref qu_costs, .ref qu_result, .ref qu_told, .ref qu_graph, .ref qu_spare])), (qu_result, .inr (4, [.int fu_result_found, .int fu_result_cost, .int fu_result_walkLength, .int fu_result_editCount, .int fu_result_sideCount, .ref qu_result_sides, .ref qu_result_walkBackwards, .ref qu_result_editsBackwards, .int fu_result_basesLeft, .int fu_result_place])), (qu_result_sides, .inl (cI, 25, .inl au_result_sides)), (qu_told, .inr (7, [.ref qu_told_value, .int fu_told_coder, .int fu_told_maybeLatin1, .int fu_told_count])), (qu_told_value, .inl (cB, nu_told_value, .inl au_told_value)), (qu_graph, .inr (5, [.int fu_graph_segments, .int fu_graph_links, .int fu_graph_paths, .int fu_graph_places, .int fu_graph_joins, .ref qu_graph_segmentNames, .ref qu_graph_sideStarts, .ref qu_graph_placeBases, .ref qu_graph_placeSides, .ref qu_graph_followers, .ref qu_graph_pathNames, .ref qu_graph_stepCounts, .ref qu_graph_steps, .ref qu_graph_joinFrom, .ref qu_graph_joinTo])), (qu_graph_segmentNames, .inl (cI, 8, .inl au_graph_segmentNames))]
def w_X_writeSides_40 (Q : (Int32 × Nat × (Nat → Int32)) → Prop) (mc ms : Nat) (K_2 : Int32 → Int32 → Nat → (Nat → Int32) → Nat → Nat → Prop) (fu_result_sideCount : Int32) (au_result_sides : Nat → Int32) (fu_told_coder : Int32) (au_graph_segmentNames : Nat → Int32) (x1 : Int32) (x2 : Int32) (s1 : Int32) (fu_told_count : Int32) (nu_told_value : Nat) (au_told_value : Nat → Int32) (kc : Nat) (ks : Nat) : Prop := ∃ mc_4 ms_5 : Nat, kc + mc_4 ≤ mc ∧ ks + ms_5 ≤ ms ∧ (wp_SB_append_C (fun v_1 => ∀ x_6 : Int32, x_6 = x2 / 2 → (vp_in x_6 8 ∧ (∀ y_8 : Int32, y_8 = au_graph_segmentNames x_6.toNatClampNeg → (∃ mc_12 ms_13 : Nat, (kc + mc_4) + mc_12 ≤ mc ∧ (ks + ms_5) + ms_13 ≤ ms ∧ (wp_X_writeName (fun v_9 => ∀ x1_14 : Int32, x1_14 = x1 + 1 → (K_2 x1_14 v_9.1 v_9.2.1 v_9.2.2 ((kc + mc_4) + mc_12) ((ks + ms_5) + ms_13))) mc_12 ms_13 y_8 fu_told_coder v_1.1 v_1.2.1 v_1.2.2))))) mc_4 ms_5 s1 fu_told_coder fu_told_count nu_told_value au_told_value)
def w_X_writeSides_2B (Q : (Int32 × Nat × (Nat → Int32)) → Prop) (mc ms : Nat)  (K_2 : Int32 → Int32 → Nat → (Nat → Int32) → Nat → Nat → Prop) (fu_result_sideCount : Int32) (au_result_sides : Nat → Int32) (fu_told_coder : Int32) (au_graph_segmentNames : Nat → Int32) (x1 : Int32) (fu_told_count : Int32) (nu_told_value : Nat) (au_told_value : Nat → Int32) (kc : Nat) (ks : Nat) : Prop := ((fu_result_sideCount ≤ x1 → (Q (fu_told_count, nu_told_value, au_told_value))) ∧ (¬ fu_result_sideCount ≤ x1 → (vp_in x1 25 ∧ (∀ y_17 : Int32, y_17 = au_result_sides x1.toNatClampNeg → (∀ x_18 : Int32, x_18 = y_17 - y_17 / 2 * 2 → (((x_18 = 0 → (w_X_writeSides_40 Q mc ms K_2 fu_result_sideCount au_result_sides fu_told_coder au_graph_segmentNames x1 y_17 62 fu_told_count nu_told_value au_told_value kc ks)) ∧ (¬ x_18 = 0 → (w_X_writeSides_40 Q mc ms K_2 fu_result_sideCount au_result_sides fu_told_coder au_graph_segmentNames x1 y_17 60 fu_told_count nu_told_value au_told_value kc ks)))))))))
def w_X_writeSides_2 (Q : (Int32 × Nat × (Nat → Int32)) → Prop) (mc ms : Nat)  (fu_result_sideCount : Int32) (au_result_sides : Nat → Int32) (fu_told_coder : Int32) (au_graph_segmentNames : Nat → Int32) : Nat → Int32 → Int32 → Nat → (Nat → Int32) → Nat → Nat → Prop
  | 0 => fun _ _ _ _ _ _ => False
  | n + 1 => fun x1 fu_told_count nu_told_value au_told_value kc ks => w_X_writeSides_2B Q mc ms  (w_X_writeSides_2 Q mc ms  fu_result_sideCount au_result_sides fu_told_coder au_graph_segmentNames n) fu_result_sideCount au_result_sides fu_told_coder au_graph_segmentNames x1 fu_told_count nu_told_value au_told_value kc ks
def wp_X_writeSides (Q : (Int32 × Nat × (Nat → Int32)) → Prop) (mc ms : Nat)  (fu_result_sideCount : Int32) (au_result_sides : Nat → Int32) (fu_told_coder : Int32) (fu_told_count : Int32) (nu_told_value : Nat) (au_told_value : Nat → Int32) (au_graph_segmentNames : Nat → Int32) : Prop := ∃ fu_2 : Nat, w_X_writeSides_2 Q mc ms fu_result_sideCount au_result_sides fu_told_coder au_graph_segmentNames fu_2 0 fu_told_count nu_told_value au_told_value 0 0
abbrev rm_X_writeSides (mc ms : Nat) : Room := { frames := 7, cells := mc, slots := ms, locals := 158 }
set_option maxHeartbeats 4000000 in
set_option maxRecDepth 100000 in
theorem k_X_writeSides (l : Launch) (dC : Nat → ClassId) (dI : Nat → Nat → Nat) (cI cC cB : ClassId) (sz : Nat) (qu : Nat) (qu_result : Nat) (qu_result_sides : Nat) (qu_told : Nat) (qu_told_value : Nat) (qu_graph : Nat) (qu_graph_segmentNames : Nat) (qu_text : Nat) (qu_reading : Nat) (qu_costs : Nat) (qu_spare : Nat) (qu_result_walkBackwards : Nat) (qu_result_editsBackwards : Nat) (qu_graph_sideStarts : Nat) (qu_graph_placeBases : Nat) (qu_graph_placeSides : Nat) (qu_graph_followers : Nat) (qu_graph_pathNames : Nat) (qu_graph_stepCounts : Nat) (qu_graph_steps : Nat) (qu_graph_joinFrom : Nat) (qu_graph_joinTo : Nat) (fu_result_found : Int32) (fu_result_cost : Int32) (fu_result_walkLength : Int32) (fu_result_editCount : Int32) (fu_result_sideCount : Int32) (fu_result_basesLeft : Int32) (fu_result_place : Int32) (au_result_sides : Nat → Int32) (fu_told_coder : Int32) (fu_told_maybeLatin1 : Int32) (fu_told_count : Int32) (nu_told_value : Nat) (au_told_value : Nat → Int32) (fu_graph_segments : Int32) (fu_graph_links : Int32) (fu_graph_paths : Int32) (fu_graph_places : Int32) (fu_graph_joins : Int32) (au_graph_segmentNames : Nat → Int32)  (mc ms : Nat) {Q : (Int32 × Nat × (Nat → Int32)) → Prop} (h : wp_X_writeSides Q mc ms  fu_result_sideCount au_result_sides fu_told_coder fu_told_count nu_told_value au_told_value au_graph_segmentNames) :
    CTv l y_X_writeSides (wM y_X_writeSides c_X_writeSides 3 none) (rm_X_writeSides mc ms) mc ms (dC, dI) (tysL cI cC cB) [.ref qu] (W_X_writeSides cI cC cB qu qu_result qu_result_sides qu_told qu_told_value qu_graph qu_graph_segmentNames qu_text qu_reading qu_costs qu_spare qu_result_walkBackwards qu_result_editsBackwards qu_graph_sideStarts qu_graph_placeBases qu_graph_placeSides qu_graph_followers qu_graph_pathNames qu_graph_stepCounts qu_graph_steps qu_graph_joinFrom qu_graph_joinTo fu_result_found fu_result_cost fu_result_walkLength fu_result_editCount fu_result_sideCount fu_result_basesLeft fu_result_place au_result_sides fu_told_coder fu_told_maybeLatin1 fu_told_count nu_told_value au_told_value fu_graph_segments fu_graph_links fu_graph_paths fu_graph_places fu_graph_joins au_graph_segmentNames) sz Q (fun (v : Int32 × Nat × (Nat → Int32)) (b : Nat) => (W_X_writeSides cI cC cB qu qu_result qu_result_sides qu_told b qu_graph qu_graph_segmentNames qu_text qu_reading qu_costs qu_spare qu_result_walkBackwards qu_result_editsBackwards qu_graph_sideStarts qu_graph_placeBases qu_graph_placeSides qu_graph_followers qu_graph_pathNames qu_graph_stepCounts qu_graph_steps qu_graph_joinFrom qu_graph_joinTo fu_result_found fu_result_cost fu_result_walkLength fu_result_editCount fu_result_sideCount fu_result_basesLeft fu_result_place au_result_sides fu_told_coder fu_told_maybeLatin1 v.1 v.2.1 v.2.2 fu_graph_segments fu_graph_links fu_graph_paths fu_graph_places fu_graph_joins au_graph_segmentNames)) := by
  refine CTv.std (by decide) (Nat.le_of_ble_eq_true rfl) ?_
  intro p e s m args below meth c A ls QF C0 hP hD hl hS hsz hnm hret
  obtain ⟨hx, hb, hr, hml, hown, hts, hlocks, hN, hA, hK⟩ := id C0
  have hown : s.vm.findClass R_X = some m.cls := hown
  have hl : lv_has ls 3 [(0, .ref qu)] := hl
  clear hsz hnm
  have blk_40 : ∀ (K_2 : Int32 → Int32 → Nat → (Nat → Int32) → Nat → Nat → Prop) (hK_2 : ∀ (x1 : Int32) (fu_told_count : Int32) (nu_told_value : Nat) (au_told_value : Nat → Int32) (kc : Nat) (ks : Nat) (qu_told_value : Nat) (H : Heap) (locs : List Loc) (ls : Array Slot), K_2 x1 fu_told_count nu_told_value au_told_value kc ks → kc ≤ mc → ks ≤ ms → va_P (dC, dI) cls (W_X_writeSides cI cC cB qu qu_result qu_result_sides qu_told qu_told_value qu_graph qu_graph_segmentNames qu_text qu_reading qu_costs qu_spare qu_result_walkBackwards qu_result_editsBackwards qu_graph_sideStarts qu_graph_placeBases qu_graph_placeSides qu_graph_followers qu_graph_pathNames qu_graph_stepCounts qu_graph_steps qu_graph_joinFrom qu_graph_joinTo fu_result_found fu_result_cost fu_result_walkLength fu_result_editCount fu_result_sideCount fu_result_basesLeft fu_result_place au_result_sides fu_told_coder fu_told_maybeLatin1 fu_told_count nu_told_value au_told_value fu_graph_segments fu_graph_links fu_graph_paths fu_graph_places fu_graph_joins au_graph_segmentNames) H → va_D A (W_X_writeSides cI cC cB qu qu_result qu_result_sides qu_told qu_told_value qu_graph qu_graph_segmentNames qu_text qu_reading qu_costs qu_spare qu_result_walkBackwards qu_result_editsBackwards qu_graph_sideStarts qu_graph_placeBases qu_graph_placeSides qu_graph_followers qu_graph_pathNames qu_graph_stepCounts qu_graph_steps qu_graph_joinFrom qu_graph_joinTo fu_result_found fu_result_cost fu_result_walkLength fu_result_editCount fu_result_sideCount fu_result_basesLeft fu_result_place au_result_sides fu_told_coder fu_told_maybeLatin1 fu_told_count nu_told_value au_told_value fu_graph_segments fu_graph_links fu_graph_paths fu_graph_places fu_graph_joins au_graph_segmentNames) → va_S A s.heap H locs → lv_has ls 3 [(0, .ref qu), (1, .int x1)] → W p l e (rm_X_writeSides mc ms) s m args below meth c H locs kc ks QF (F0 m 2 ls [])) (x1 : Int32) (x2 : Int32) (s1 : Int32) (fu_told_count : Int32) (nu_told_value : Nat) (au_told_value : Nat → Int32) (kc : Nat) (ks : Nat) (qu_told_value : Nat) (H : Heap) (locs : List Loc) (ls : Array Slot), w_X_writeSides_40 Q mc ms K_2 fu_result_sideCount au_result_sides fu_told_coder au_graph_segmentNames x1 x2 s1 fu_told_count nu_told_value au_told_value kc ks → kc ≤ mc → ks ≤ ms → va_P (dC, dI) cls (W_X_writeSides cI cC cB qu qu_result qu_result_sides qu_told qu_told_value qu_graph qu_graph_segmentNames qu_text qu_reading qu_costs qu_spare qu_result_walkBackwards qu_result_editsBackwards qu_graph_sideStarts qu_graph_placeBases qu_graph_placeSides qu_graph_followers qu_graph_pathNames qu_graph_stepCounts qu_graph_steps qu_graph_joinFrom qu_graph_joinTo fu_result_found fu_result_cost fu_result_walkLength fu_result_editCount fu_result_sideCount fu_result_basesLeft fu_result_place au_result_sides fu_told_coder fu_told_maybeLatin1 fu_told_count nu_told_value au_told_value fu_graph_segments fu_graph_links fu_graph_paths fu_graph_places fu_graph_joins au_graph_segmentNames) H → va_D A (W_X_writeSides cI cC cB qu qu_result qu_result_sides qu_told qu_told_value qu_graph qu_graph_segmentNames qu_text qu_reading qu_costs qu_spare qu_result_walkBackwards qu_result_editsBackwards qu_graph_sideStarts qu_graph_placeBases qu_graph_placeSides qu_graph_followers qu_graph_pathNames qu_graph_stepCounts qu_graph_steps qu_graph_joinFrom qu_graph_joinTo fu_result_found fu_result_cost fu_result_walkLength fu_result_editCount fu_result_sideCount fu_result_basesLeft fu_result_place au_result_sides fu_told_coder fu_told_maybeLatin1 fu_told_count nu_told_value au_told_value fu_graph_segments fu_graph_links fu_graph_paths fu_graph_places fu_graph_joins au_graph_segmentNames) → va_S A s.heap H locs → lv_has ls 3 [(0, .ref qu), (1, .int x1), (2, .int x2)] → W p l e (rm_X_writeSides mc ms) s m args below meth c H locs kc ks QF (F0 m 40 ls [.int s1, .ref qu_told]) := by
    intro K_2 hK_2 x1 x2 s1 fu_told_count nu_told_value au_told_value kc ks qu_told_value H locs ls h hkc hks hP hD hS hl
    unfold w_X_writeSides_40 at h
    obtain ⟨mc_4, ms_5, hmc_4, hms_5, h⟩ := h
    refine call_V_r (As := [.int s1]) (rest := []) C0 hP hD hS [3, 4] [0, 1, 2, 5, 6] [0, 1, 2, 5, 6, 3, 4] [(qu, .inr (0, [.ref qu_text, .ref qu_reading, .ref qu_costs, .ref qu_result, .ref qu_told, .ref qu_graph, .ref qu_spare])), (qu_result, .inr (4, [.int fu_result_found, .int fu_result_cost, .int fu_result_walkLength, .int fu_result_editCount, .int fu_result_sideCount, .ref qu_result_sides, .ref qu_result_walkBackwards, .ref qu_result_editsBackwards, .int fu_result_basesLeft, .int fu_result_place])), (qu_result_sides, .inl (cI, 25, .inl au_result_sides)), (qu_graph, .inr (5, [.int fu_graph_segments, .int fu_graph_links, .int fu_graph_paths, .int fu_graph_places, .int fu_graph_joins, .ref qu_graph_segmentNames, .ref qu_graph_sideStarts, .ref qu_graph_placeBases, .ref qu_graph_placeSides, .ref qu_graph_followers, .ref qu_graph_pathNames, .ref qu_graph_stepCounts, .ref qu_graph_steps, .ref qu_graph_joinFrom, .ref qu_graph_joinTo])), (qu_graph_segmentNames, .inl (cI, 8, .inl au_graph_segmentNames))] (fun (v : Int32 × Nat × (Nat → Int32)) (b : Nat) => (W_X_writeSides cI cC cB qu qu_result qu_result_sides qu_told b qu_graph qu_graph_segmentNames qu_text qu_reading qu_costs qu_spare qu_result_walkBackwards qu_result_editsBackwards qu_graph_sideStarts qu_graph_placeBases qu_graph_placeSides qu_graph_followers qu_graph_pathNames qu_graph_stepCounts qu_graph_steps qu_graph_joinFrom qu_graph_joinTo fu_result_found fu_result_cost fu_result_walkLength fu_result_editCount fu_result_sideCount fu_result_basesLeft fu_result_place au_result_sides fu_told_coder fu_told_maybeLatin1 v.1 v.2.1 v.2.2 fu_graph_segments fu_graph_links fu_graph_paths fu_graph_places fu_graph_joins au_graph_segmentNames)) (ci := 7) rfl rfl (k_SB_append_C l dC dI cI cC cB _ qu_told qu_told_value fu_told_coder fu_told_maybeLatin1 fu_told_count nu_told_value au_told_value s1 mc_4 ms_5 h) (g_V w_339 w_340 w_341 w_342 w_338) 1 rfl (by decide +kernel) rfl rfl ⟨Nat.le_of_ble_eq_true rfl, Nat.le_of_ble_eq_true rfl⟩ rfl rfl (by decide) (by decide) (by decide) (by decide) (fun _ _ => rfl) hl.1 rfl (Nat.le_of_ble_eq_true rfl) d_X_writeSides_40 ⟨hmc_4, hms_5⟩ (fun v_1 b_3 H locs h hP hD hS => ?_)
    have hP : va_P (dC, dI) cls (W_X_writeSides cI cC cB qu qu_result qu_result_sides qu_told b_3 qu_graph qu_graph_segmentNames qu_text qu_reading qu_costs qu_spare qu_result_walkBackwards qu_result_editsBackwards qu_graph_sideStarts qu_graph_placeBases qu_graph_placeSides qu_graph_followers qu_graph_pathNames qu_graph_stepCounts qu_graph_steps qu_graph_joinFrom qu_graph_joinTo fu_result_found fu_result_cost fu_result_walkLength fu_result_editCount fu_result_sideCount fu_result_basesLeft fu_result_place au_result_sides fu_told_coder fu_told_maybeLatin1 v_1.1 v_1.2.1 v_1.2.2 fu_graph_segments fu_graph_links fu_graph_paths fu_graph_places fu_graph_joins au_graph_segmentNames) H := hP
    have hD : va_D A (W_X_writeSides cI cC cB qu qu_result qu_result_sides qu_told b_3 qu_graph qu_graph_segmentNames qu_text qu_reading qu_costs qu_spare qu_result_walkBackwards qu_result_editsBackwards qu_graph_sideStarts qu_graph_placeBases qu_graph_placeSides qu_graph_followers qu_graph_pathNames qu_graph_stepCounts qu_graph_steps qu_graph_joinFrom qu_graph_joinTo fu_result_found fu_result_cost fu_result_walkLength fu_result_editCount fu_result_sideCount fu_result_basesLeft fu_result_place au_result_sides fu_told_coder fu_told_maybeLatin1 v_1.1 v_1.2.1 v_1.2.2 fu_graph_segments fu_graph_links fu_graph_paths fu_graph_places fu_graph_joins au_graph_segmentNames) := hD
    refine lv_pop hx hb d_X_writeSides_43 rfl ?_
    refine lv_aload_n hx hb d_X_writeSides_44 rfl (lv_at hl 0 rfl) ?_
    refine lv_aload_n hx hb d_X_writeSides_45 rfl (lv_at hl 0 rfl) ?_
    refine va_get (D := (dC, dI)) (ci := 0) (v := .ref qu_graph) (C := R_X) (T := T_X) (N := 7) hx hb hts in_X hown hK hP 0 rfl rfl 5 (by decide) (hts _ w_127) (fun _ h9 => h9) rfl d_X_writeSides_46 ?_
    refine va_get (D := (dC, dI)) (ci := 5) (v := .ref qu_graph_segmentNames) (C := R_Gr) (T := T_Gr) (N := 15) hx hb hts in_Gr hown hK hP 5 rfl rfl 5 (by decide) (hts _ w_337) (fun _ h9 => h9) rfl d_X_writeSides_49 ?_
    refine lv_iload_n hx hb d_X_writeSides_52 rfl (lv_at hl 2 rfl) ?_
    refine lv_iconst (v := 2) hx hb d_X_writeSides_53 (by decide) ?_
    refine lv_idiv hx hb d_X_writeSides_54 (by decide) ?_
    refine lv_topi (fun x_6 ex_6 => ?_)
    have h := h x_6 ex_6
    have hi_7 := h.1
    have h := h.2
    refine va_iald hx hb hK hP 6 0 rfl rfl hi_7 d_X_writeSides_55 ?_
    refine lv_topi (fun y_8 ey_8 => ?_)
    have h := h y_8 ey_8
    obtain ⟨mc_12, ms_13, hmc_12, hms_13, h⟩ := h
    refine call_V_v (As := [.int y_8]) (rest := []) C0 hP hD hS [0, 3, 4] [1, 2, 5, 6] [4, 0, 1, 5, 6, 2, 3] [(qu_result, .inr (4, [.int fu_result_found, .int fu_result_cost, .int fu_result_walkLength, .int fu_result_editCount, .int fu_result_sideCount, .ref qu_result_sides, .ref qu_result_walkBackwards, .ref qu_result_editsBackwards, .int fu_result_basesLeft, .int fu_result_place])), (qu_result_sides, .inl (cI, 25, .inl au_result_sides)), (qu_graph, .inr (5, [.int fu_graph_segments, .int fu_graph_links, .int fu_graph_paths, .int fu_graph_places, .int fu_graph_joins, .ref qu_graph_segmentNames, .ref qu_graph_sideStarts, .ref qu_graph_placeBases, .ref qu_graph_placeSides, .ref qu_graph_followers, .ref qu_graph_pathNames, .ref qu_graph_stepCounts, .ref qu_graph_steps, .ref qu_graph_joinFrom, .ref qu_graph_joinTo])), (qu_graph_segmentNames, .inl (cI, 8, .inl au_graph_segmentNames))] (fun (v : Int32 × Nat × (Nat → Int32)) (b : Nat) => (W_X_writeSides cI cC cB qu qu_result qu_result_sides qu_told b qu_graph qu_graph_segmentNames qu_text qu_reading qu_costs qu_spare qu_result_walkBackwards qu_result_editsBackwards qu_graph_sideStarts qu_graph_placeBases qu_graph_placeSides qu_graph_followers qu_graph_pathNames qu_graph_stepCounts qu_graph_steps qu_graph_joinFrom qu_graph_joinTo fu_result_found fu_result_cost fu_result_walkLength fu_result_editCount fu_result_sideCount fu_result_basesLeft fu_result_place au_result_sides fu_told_coder fu_told_maybeLatin1 v.1 v.2.1 v.2.2 fu_graph_segments fu_graph_links fu_graph_paths fu_graph_places fu_graph_joins au_graph_segmentNames)) (ci := 0) rfl rfl (k_X_writeName l dC dI cI cC cB _ qu qu_told b_3 qu_text qu_reading qu_costs qu_result qu_graph qu_spare fu_told_coder fu_told_maybeLatin1 v_1.1 v_1.2.1 v_1.2.2 y_8 mc_12 ms_13 h) (g_V w_344 w_345 w_346 w_33 w_343) 1 rfl (by decide +kernel) rfl rfl ⟨Nat.le_of_ble_eq_true rfl, Nat.le_of_ble_eq_true rfl⟩ rfl rfl (by decide) (by decide) (by decide) (by decide) (fun _ _ => rfl) hl.1 rfl (Nat.le_of_ble_eq_true rfl) d_X_writeSides_56 ⟨hmc_12, hms_13⟩ (fun v_9 b_11 H locs h hP hD hS => ?_)
    have hP : va_P (dC, dI) cls (W_X_writeSides cI cC cB qu qu_result qu_result_sides qu_told b_11 qu_graph qu_graph_segmentNames qu_text qu_reading qu_costs qu_spare qu_result_walkBackwards qu_result_editsBackwards qu_graph_sideStarts qu_graph_placeBases qu_graph_placeSides qu_graph_followers qu_graph_pathNames qu_graph_stepCounts qu_graph_steps qu_graph_joinFrom qu_graph_joinTo fu_result_found fu_result_cost fu_result_walkLength fu_result_editCount fu_result_sideCount fu_result_basesLeft fu_result_place au_result_sides fu_told_coder fu_told_maybeLatin1 v_9.1 v_9.2.1 v_9.2.2 fu_graph_segments fu_graph_links fu_graph_paths fu_graph_places fu_graph_joins au_graph_segmentNames) H := hP
    have hD : va_D A (W_X_writeSides cI cC cB qu qu_result qu_result_sides qu_told b_11 qu_graph qu_graph_segmentNames qu_text qu_reading qu_costs qu_spare qu_result_walkBackwards qu_result_editsBackwards qu_graph_sideStarts qu_graph_placeBases qu_graph_placeSides qu_graph_followers qu_graph_pathNames qu_graph_stepCounts qu_graph_steps qu_graph_joinFrom qu_graph_joinTo fu_result_found fu_result_cost fu_result_walkLength fu_result_editCount fu_result_sideCount fu_result_basesLeft fu_result_place au_result_sides fu_told_coder fu_told_maybeLatin1 v_9.1 v_9.2.1 v_9.2.2 fu_graph_segments fu_graph_links fu_graph_paths fu_graph_places fu_graph_joins au_graph_segmentNames) := hD
    obtain ⟨x1_14, ex1_14⟩ : ∃ y : Int32, y = x1 + 1 := ⟨_, rfl⟩
    have h := h x1_14 ex1_14
    refine lv_iinc (v := x1_14) (lv' := [(1, .int x1_14), (0, .ref qu), (2, .int x2)]) hx hb d_X_writeSides_59 hl (k := 1) rfl (by rw [ex1_14]; rfl) (by decide) rfl (fun ls hl => ?_)
    refine lv_goto (tgt := 2) hx hb d_X_writeSides_62 (by decide) ?_
    exact hK_2 _ _ _ _ _ _ _ _ _ _ h hmc_12 hms_13 hP hD hS (lv_sub hl [1, 0] rfl)
  have blk_2 : ∀  (n : Nat) (x1 : Int32) (fu_told_count : Int32) (nu_told_value : Nat) (au_told_value : Nat → Int32) (kc : Nat) (ks : Nat) (qu_told_value : Nat) (H : Heap) (locs : List Loc) (ls : Array Slot), w_X_writeSides_2 Q mc ms  fu_result_sideCount au_result_sides fu_told_coder au_graph_segmentNames n x1 fu_told_count nu_told_value au_told_value kc ks → kc ≤ mc → ks ≤ ms → va_P (dC, dI) cls (W_X_writeSides cI cC cB qu qu_result qu_result_sides qu_told qu_told_value qu_graph qu_graph_segmentNames qu_text qu_reading qu_costs qu_spare qu_result_walkBackwards qu_result_editsBackwards qu_graph_sideStarts qu_graph_placeBases qu_graph_placeSides qu_graph_followers qu_graph_pathNames qu_graph_stepCounts qu_graph_steps qu_graph_joinFrom qu_graph_joinTo fu_result_found fu_result_cost fu_result_walkLength fu_result_editCount fu_result_sideCount fu_result_basesLeft fu_result_place au_result_sides fu_told_coder fu_told_maybeLatin1 fu_told_count nu_told_value au_told_value fu_graph_segments fu_graph_links fu_graph_paths fu_graph_places fu_graph_joins au_graph_segmentNames) H → va_D A (W_X_writeSides cI cC cB qu qu_result qu_result_sides qu_told qu_told_value qu_graph qu_graph_segmentNames qu_text qu_reading qu_costs qu_spare qu_result_walkBackwards qu_result_editsBackwards qu_graph_sideStarts qu_graph_placeBases qu_graph_placeSides qu_graph_followers qu_graph_pathNames qu_graph_stepCounts qu_graph_steps qu_graph_joinFrom qu_graph_joinTo fu_result_found fu_result_cost fu_result_walkLength fu_result_editCount fu_result_sideCount fu_result_basesLeft fu_result_place au_result_sides fu_told_coder fu_told_maybeLatin1 fu_told_count nu_told_value au_told_value fu_graph_segments fu_graph_links fu_graph_paths fu_graph_places fu_graph_joins au_graph_segmentNames) → va_S A s.heap H locs → lv_has ls 3 [(0, .ref qu), (1, .int x1)] → W p l e (rm_X_writeSides mc ms) s m args below meth c H locs kc ks QF (F0 m 2 ls []) := by
    intro  n
    induction n with
    | zero => intro x1 fu_told_count nu_told_value au_told_value kc ks qu_told_value H locs ls h; exact (show False from h).elim
    | succ n ih =>
      intro x1 fu_told_count nu_told_value au_told_value kc ks qu_told_value H locs ls h hkc hks hP hD hS hl
      have h : w_X_writeSides_2B Q mc ms  (w_X_writeSides_2 Q mc ms  fu_result_sideCount au_result_sides fu_told_coder au_graph_segmentNames n) fu_result_sideCount au_result_sides fu_told_coder au_graph_segmentNames x1 fu_told_count nu_told_value au_told_value kc ks := h
      generalize w_X_writeSides_2 Q mc ms  fu_result_sideCount au_result_sides fu_told_coder au_graph_segmentNames n = K_2 at h ih
      unfold w_X_writeSides_2B at h
      refine lv_iload_n hx hb d_X_writeSides_2 rfl (lv_at hl 1 rfl) ?_
      refine lv_aload_n hx hb d_X_writeSides_3 rfl (lv_at hl 0 rfl) ?_
      refine va_get (D := (dC, dI)) (ci := 0) (v := .ref qu_result) (C := R_X) (T := T_X) (N := 7) hx hb hts in_X hown hK hP 0 rfl rfl 3 (by decide) (hts _ w_128) (fun _ h9 => h9) rfl d_X_writeSides_4 ?_
      refine va_get (D := (dC, dI)) (ci := 4) (v := .int fu_result_sideCount) (C := R_Rs) (T := T_Rs) (N := 10) hx hb hts in_Rs hown hK hP 1 rfl rfl 4 (by decide) (hts _ w_272) (fun _ h9 => h9) rfl d_X_writeSides_7 ?_
      refine lv_icmp_ge (tgt := 65) hx hb d_X_writeSides_10 (by decide) (fun c_15 => ?_) (fun c_15 => ?_)
      · have h := h.1 c_15
        refine W.widen (k := mc) (n := ms) hkc hks ?_
        exact hret (fu_told_count, nu_told_value, au_told_value) qu_told_value _ _ _ _ h hP hD hS d_X_writeSides_65
      · have h := h.2 c_15
        refine lv_aload_n hx hb d_X_writeSides_13 rfl (lv_at hl 0 rfl) ?_
        refine va_get (D := (dC, dI)) (ci := 0) (v := .ref qu_result) (C := R_X) (T := T_X) (N := 7) hx hb hts in_X hown hK hP 0 rfl rfl 3 (by decide) (hts _ w_128) (fun _ h9 => h9) rfl d_X_writeSides_14 ?_
        refine va_get (D := (dC, dI)) (ci := 4) (v := .ref qu_result_sides) (C := R_Rs) (T := T_Rs) (N := 10) hx hb hts in_Rs hown hK hP 1 rfl rfl 5 (by decide) (hts _ w_274) (fun _ h9 => h9) rfl d_X_writeSides_17 ?_
        refine lv_iload_n hx hb d_X_writeSides_20 rfl (lv_at hl 1 rfl) ?_
        have hi_16 := h.1
        have h := h.2
        refine va_iald hx hb hK hP 2 0 rfl rfl hi_16 d_X_writeSides_21 ?_
        refine lv_topi (fun y_17 ey_17 => ?_)
        have h := h y_17 ey_17
        refine lv_istore_n (lv' := [(2, .int y_17), (0, .ref qu), (1, .int x1)]) hx hb d_X_writeSides_22 rfl hl (by decide) rfl (fun ls hl => ?_)
        refine lv_aload_n hx hb d_X_writeSides_23 rfl (lv_at hl 1 rfl) ?_
        refine va_get (D := (dC, dI)) (ci := 0) (v := .ref qu_told) (C := R_X) (T := T_X) (N := 7) hx hb hts in_X hown hK hP 0 rfl rfl 4 (by decide) (hts _ w_310) (fun _ h9 => h9) rfl d_X_writeSides_24 ?_
        refine lv_iload_n hx hb d_X_writeSides_27 rfl (lv_at hl 0 rfl) ?_
        refine lv_iconst (v := 2) hx hb d_X_writeSides_28 (by decide) ?_
        refine lv_irem hx hb d_X_writeSides_29 (by decide) ?_
        refine lv_topi (fun x_18 ex_18 => ?_)
        have h := h x_18 ex_18
        refine lv_if_ne (tgt := 38) hx hb d_X_writeSides_30 (by decide) (fun c_19 => ?_) (fun c_19 => ?_)
        · have h := h.2 c_19
          refine lv_bipush (v := 60) hx hb d_X_writeSides_38 (by decide) ?_
          exact blk_40 _ ih _ _ _ _ _ _ _ _ _ _ _ _ h hkc hks hP hD hS (lv_sub hl [1, 2, 0] rfl)
        · have h := h.1 c_19
          refine lv_bipush (v := 62) hx hb d_X_writeSides_33 (by decide) ?_
          refine lv_goto (tgt := 40) hx hb d_X_writeSides_35 (by decide) ?_
          exact blk_40 _ ih _ _ _ _ _ _ _ _ _ _ _ _ h hkc hks hP hD hS (lv_sub hl [1, 2, 0] rfl)
  unfold wp_X_writeSides at h
  refine lv_iconst (v := 0) hx hb d_X_writeSides_0 (by decide) ?_
  refine lv_istore_n (lv' := [(1, .int 0), (0, .ref qu)]) hx hb d_X_writeSides_1 rfl hl (by decide) rfl (fun ls hl => ?_)
  obtain ⟨fu_2, h⟩ := h
  exact blk_2  _ _ _ _ _ _ _ _ _ _ _ h (Nat.zero_le _) (Nat.zero_le _) hP hD hS (lv_sub hl [1, 0] rfl)
def w_In_stringSize_16B (Q : Int32 → Unit → Prop)  (K_16 : Int32 → Int32 → Int32 → Int32 → Prop)  (x0 : Int32) (x1 : Int32) (x2 : Int32) (x3 : Int32) : Prop := ((10 ≤ x3 → (∀ x_2 : Int32, x_2 = 10 + x1 → (Q x_2 ()))) ∧ (¬ 10 ≤ x3 → (((x0 ≤ x2 → (∀ x_4 : Int32, x_4 = 10 * x2 → (∀ x3_5 : Int32, x3_5 = x3 + 1 → (K_16 x0 x1 x_4 x3_5)))) ∧ (¬ x0 ≤ x2 → (∀ x_6 : Int32, x_6 = x3 + x1 → (Q x_6 ())))))))
def w_In_stringSize_16 (Q : Int32 → Unit → Prop)   : Nat → Int32 → Int32 → Int32 → Int32 → Prop
  | 0 => fun _ _ _ _ => False
  | n + 1 => fun x0 x1 x2 x3 => w_In_stringSize_16B Q  (w_In_stringSize_16 Q   n)  x0 x1 x2 x3
def w_In_stringSize_11 (Q : Int32 → Unit → Prop)   (x0 : Int32) (x1 : Int32) : Prop := ∃ fu_16 : Nat, w_In_stringSize_16 Q  fu_16 x0 x1 (-10) 1
def wp_In_stringSize (Q : Int32 → Unit → Prop) (p0 : Int32)  : Prop := ((p0 < 0 → (w_In_stringSize_11 Q  p0 1)) ∧ (¬ p0 < 0 → (∀ x_8 : Int32, x_8 = -p0 → (w_In_stringSize_11 Q  x_8 0))))
abbrev rm_In_stringSize : Room := { frames := 0, cells := 0, slots := 0, locals := 0 }
set_option maxHeartbeats 4000000 in
set_option maxRecDepth 100000 in
theorem k_In_stringSize (l : Launch) (dC : Nat → ClassId) (dI : Nat → Nat → Nat) (cI cC cB : ClassId) (sz : Nat)   (p0 : Int32) {Q : Int32 → Unit → Prop} (h : wp_In_stringSize Q p0 ) :
    CTi l y_In_stringSize (wM y_In_stringSize c_In_stringSize 4 (some .int)) rm_In_stringSize 0 0 (dC, dI) (tysL cI cC cB) [.int p0] [] sz Q (fun (v : Unit) (b : Unit) => []) := by
  refine CTi.std (by decide) (Nat.le_of_ble_eq_true rfl) ?_
  intro p e s m args below meth c A ls QF C0 hP hD hl hS hsz hnm hret
  obtain ⟨hx, hb, hr, hml, hown, hts, hlocks, hN, hA, hK⟩ := id C0
  have hown : s.vm.findClass R_In = some m.cls := hown
  have hl : lv_has ls 4 [(0, .int p0)] := hl
  clear hsz hnm
  have blk_16 : ∀  (n : Nat) (x0 : Int32) (x1 : Int32) (x2 : Int32) (x3 : Int32)  (H : Heap) (locs : List Loc) (ls : Array Slot), w_In_stringSize_16 Q   n x0 x1 x2 x3 → va_P (dC, dI) cls [] H → va_D A [] → va_S A s.heap H locs → lv_has ls 4 [(0, .int x0), (1, .int x1), (2, .int x2), (3, .int x3)] → W p l e rm_In_stringSize s m args below meth c H locs 0 0 QF (F0 m 16 ls []) := by
    intro  n
    induction n with
    | zero => intro x0 x1 x2 x3  H locs ls h; exact (show False from h).elim
    | succ n ih =>
      intro x0 x1 x2 x3  H locs ls h hP hD hS hl
      have h : w_In_stringSize_16B Q  (w_In_stringSize_16 Q   n)  x0 x1 x2 x3 := h
      generalize w_In_stringSize_16 Q   n = K_16 at h ih
      unfold w_In_stringSize_16B at h
      refine lv_iload_n hx hb d_In_stringSize_16 rfl (lv_at hl 3 rfl) ?_
      refine lv_bipush (v := 10) hx hb d_In_stringSize_17 (by decide) ?_
      refine lv_icmp_ge (tgt := 42) hx hb d_In_stringSize_19 (by decide) (fun c_1 => ?_) (fun c_1 => ?_)
      · have h := h.1 c_1
        refine lv_bipush (v := 10) hx hb d_In_stringSize_42 (by decide) ?_
        refine lv_iload_n hx hb d_In_stringSize_44 rfl (lv_at hl 1 rfl) ?_
        refine lv_iadd hx hb d_In_stringSize_45 ?_
        refine lv_topi (fun x_2 ex_2 => ?_)
        have h := h x_2 ex_2
        exact hret () () x_2 _ _ _ _ rfl h hP hD hS d_In_stringSize_46
      · have h := h.2 c_1
        refine lv_iload_n hx hb d_In_stringSize_22 rfl (lv_at hl 0 rfl) ?_
        refine lv_iload_n hx hb d_In_stringSize_23 rfl (lv_at hl 2 rfl) ?_
        refine lv_icmp_le (tgt := 31) hx hb d_In_stringSize_24 (by decide) (fun c_3 => ?_) (fun c_3 => ?_)
        · have h := h.1 c_3
          refine lv_bipush (v := 10) hx hb d_In_stringSize_31 (by decide) ?_
          refine lv_iload_n hx hb d_In_stringSize_33 rfl (lv_at hl 2 rfl) ?_
          refine lv_imul hx hb d_In_stringSize_34 ?_
          refine lv_topi (fun x_4 ex_4 => ?_)
          have h := h x_4 ex_4
          refine lv_istore_n (lv' := [(2, .int x_4), (0, .int x0), (1, .int x1), (3, .int x3)]) hx hb d_In_stringSize_35 rfl hl (by decide) rfl (fun ls hl => ?_)
          obtain ⟨x3_5, ex3_5⟩ : ∃ y : Int32, y = x3 + 1 := ⟨_, rfl⟩
          have h := h x3_5 ex3_5
          refine lv_iinc (v := x3_5) (lv' := [(3, .int x3_5), (2, .int x_4), (0, .int x0), (1, .int x1)]) hx hb d_In_stringSize_36 hl (k := 3) rfl (by rw [ex3_5]; rfl) (by decide) rfl (fun ls hl => ?_)
          refine lv_goto (tgt := 16) hx hb d_In_stringSize_39 (by decide) ?_
          exact ih _ _ _ _ _ _ _ h hP hD hS (lv_sub hl [2, 3, 1, 0] rfl)
        · have h := h.2 c_3
          refine lv_iload_n hx hb d_In_stringSize_27 rfl (lv_at hl 3 rfl) ?_
          refine lv_iload_n hx hb d_In_stringSize_28 rfl (lv_at hl 1 rfl) ?_
          refine lv_iadd hx hb d_In_stringSize_29 ?_
          refine lv_topi (fun x_6 ex_6 => ?_)
          have h := h x_6 ex_6
          exact hret () () x_6 _ _ _ _ rfl h hP hD hS d_In_stringSize_30
  have blk_11 : ∀  (x0 : Int32) (x1 : Int32)  (H : Heap) (locs : List Loc) (ls : Array Slot), w_In_stringSize_11 Q   x0 x1 → va_P (dC, dI) cls [] H → va_D A [] → va_S A s.heap H locs → lv_has ls 4 [(0, .int x0), (1, .int x1)] → W p l e rm_In_stringSize s m args below meth c H locs 0 0 QF (F0 m 11 ls []) := by
    intro  x0 x1  H locs ls h hP hD hS hl
    unfold w_In_stringSize_11 at h
    refine lv_bipush (v := (-10)) hx hb d_In_stringSize_11 (by decide) ?_
    refine lv_istore_n (lv' := [(2, .int (-10)), (0, .int x0), (1, .int x1)]) hx hb d_In_stringSize_13 rfl hl (by decide) rfl (fun ls hl => ?_)
    refine lv_iconst (v := 1) hx hb d_In_stringSize_14 (by decide) ?_
    refine lv_istore_n (lv' := [(3, .int 1), (2, .int (-10)), (0, .int x0), (1, .int x1)]) hx hb d_In_stringSize_15 rfl hl (by decide) rfl (fun ls hl => ?_)
    obtain ⟨fu_16, h⟩ := h
    exact blk_16  _ _ _ _ _ _ _ _ h hP hD hS (lv_sub hl [2, 3, 1, 0] rfl)
  unfold wp_In_stringSize at h
  refine lv_iconst (v := 1) hx hb d_In_stringSize_0 (by decide) ?_
  refine lv_istore_n (lv' := [(1, .int 1), (0, .int p0)]) hx hb d_In_stringSize_1 rfl hl (by decide) rfl (fun ls hl => ?_)
  refine lv_iload_n hx hb d_In_stringSize_2 rfl (lv_at hl 1 rfl) ?_
  refine lv_if_lt (tgt := 11) hx hb d_In_stringSize_3 (by decide) (fun c_7 => ?_) (fun c_7 => ?_)
  · have h := h.1 c_7
    exact blk_11  _ _ _ _ _ h hP hD hS (lv_sub hl [1, 0] rfl)
  · have h := h.2 c_7
    refine lv_iconst (v := 0) hx hb d_In_stringSize_6 (by decide) ?_
    refine lv_istore_n (lv' := [(1, .int 0), (0, .int p0)]) hx hb d_In_stringSize_7 rfl hl (by decide) rfl (fun ls hl => ?_)
    refine lv_iload_n hx hb d_In_stringSize_8 rfl (lv_at hl 1 rfl) ?_
    refine lv_ineg hx hb d_In_stringSize_9 ?_
    refine lv_topi (fun x_8 ex_8 => ?_)
    have h := h x_8 ex_8
    refine lv_istore_n (lv' := [(0, .int x_8), (1, .int 0)]) hx hb d_In_stringSize_10 rfl hl (by decide) rfl (fun ls hl => ?_)
    exact blk_11  _ _ _ _ _ h hP hD hS (lv_sub hl [0, 1] rfl)
abbrev W_In_getChars (cI cC cB : ClassId) (qw : Nat) (nw : Nat) (aw : Nat → Int32) : va_W := [(qw, .inl (cB, nw, .inl aw))]
def w_In_getChars_104 (Q : Int32 → (Nat → Int32) → Prop)  (nw : Nat) (x5 : Int32) (x6 : Int32) (aw : Nat → Int32) : Prop := ((x6 = 0 → (Q x5 aw)) ∧ (¬ x6 = 0 → (∀ x5_2 : Int32, x5_2 = x5 + (-1) → (vp_in x5_2 nw ∧ (∀ aw_4 : Nat → Int32, aw_4 = upd aw x5_2.toNatClampNeg (vp_nar .byte 45) → (Q x5_2 aw_4))))))
def w_In_getChars_22B (Q : Int32 → (Nat → Int32) → Prop)  (K_22 : Int32 → Int32 → Int32 → (Nat → Int32) → Prop) (nw : Nat) (x0 : Int32) (x5 : Int32) (x6 : Int32) (aw : Nat → Int32) : Prop := (((-100) < x0 → (∀ x5_6 : Int32, x5_6 = x5 + (-1) → (∀ x_8 : Int32, x_8 = -x0 → (vp_in x_8 100 ∧ (∀ y_10 : Int32, y_10 = tabO.getD x_8.toNatClampNeg 0 → (vp_in x5_6 nw ∧ (∀ aw_12 : Nat → Int32, aw_12 = upd aw x5_6.toNatClampNeg (vp_nar .byte y_10) → ((((-9) ≤ x0 → (w_In_getChars_104 Q nw x5_6 x6 aw_12)) ∧ (¬ (-9) ≤ x0 → (∀ x5_14 : Int32, x5_14 = x5_6 + (-1) → (∀ x_16 : Int32, x_16 = -x0 → (vp_in x_16 100 ∧ (∀ y_18 : Int32, y_18 = tabT.getD x_16.toNatClampNeg 0 → (vp_in x5_14 nw ∧ (∀ aw_20 : Nat → Int32, aw_20 = upd aw_12 x5_14.toNatClampNeg (vp_nar .byte y_18) → (w_In_getChars_104 Q nw x5_14 x6 aw_20))))))))))))))))) ∧ (¬ (-100) < x0 → (∀ x_21 : Int32, x_21 = x0 / 100 → (∀ x_22 : Int32, x_22 = (x_21 * 100) - x0 → (∀ x5_23 : Int32, x5_23 = x5 + (-1) → (vp_in x_22 100 ∧ (∀ y_26 : Int32, y_26 = tabO.getD x_22.toNatClampNeg 0 → (vp_in x5_23 nw ∧ (∀ aw_28 : Nat → Int32, aw_28 = upd aw x5_23.toNatClampNeg (vp_nar .byte y_26) → (∀ x5_29 : Int32, x5_29 = x5_23 + (-1) → (vp_in x_22 100 ∧ (∀ y_32 : Int32, y_32 = tabT.getD x_22.toNatClampNeg 0 → (vp_in x5_29 nw ∧ (∀ aw_34 : Nat → Int32, aw_34 = upd aw_28 x5_29.toNatClampNeg (vp_nar .byte y_32) → (K_22 x_21 x5_29 x6 aw_34)))))))))))))))
def w_In_getChars_22 (Q : Int32 → (Nat → Int32) → Prop)  (nw : Nat) : Nat → Int32 → Int32 → Int32 → (Nat → Int32) → Prop
  | 0 => fun _ _ _ _ => False
  | n + 1 => fun x0 x5 x6 aw => w_In_getChars_22B Q  (w_In_getChars_22 Q  nw n) nw x0 x5 x6 aw
def w_In_getChars_12 (Q : Int32 → (Nat → Int32) → Prop)  (nw : Nat) (x0 : Int32) (x5 : Int32) (s0 : Int32) (aw : Nat → Int32) : Prop := ((s0 = 0 → (∀ x_36 : Int32, x_36 = -x0 → (∃ fu_22 : Nat, w_In_getChars_22 Q nw fu_22 x_36 x5 s0 aw))) ∧ (¬ s0 = 0 → (∃ fu_22 : Nat, w_In_getChars_22 Q nw fu_22 x0 x5 s0 aw)))
def wp_In_getChars (Q : Int32 → (Nat → Int32) → Prop) (p0 : Int32) (p1 : Int32) (nw : Nat) (aw : Nat → Int32) : Prop := ((0 ≤ p0 → (w_In_getChars_12 Q nw p0 p1 0 aw)) ∧ (¬ 0 ≤ p0 → (w_In_getChars_12 Q nw p0 p1 1 aw)))
abbrev rm_In_getChars : Room := { frames := 0, cells := 0, slots := 0, locals := 0 }
set_option maxHeartbeats 4000000 in
set_option maxRecDepth 100000 in
theorem k_In_getChars (l : Launch) (dC : Nat → ClassId) (dI : Nat → Nat → Nat) (cI cC cB : ClassId) (sz : Nat) (qw : Nat) (nw : Nat) (aw : Nat → Int32) (p0 : Int32) (p1 : Int32) {Q : Int32 → (Nat → Int32) → Prop} (h : wp_In_getChars Q p0 p1 nw aw) :
    CTi l y_In_getChars (wM y_In_getChars c_In_getChars 7 (some .int)) rm_In_getChars 0 0 (dC, dI) (tysL cI cC cB) [.int p0, .int p1, .ref qw] (W_In_getChars cI cC cB qw nw aw) sz Q (fun (v : (Nat → Int32)) (b : Unit) => (W_In_getChars cI cC cB qw nw v)) := by
  refine CTi.std (by decide) (Nat.le_of_ble_eq_true rfl) ?_
  intro p e s m args below meth c A ls QF C0 hP hD hl hS hsz hnm hret
  obtain ⟨hx, hb, hr, hml, hown, hts, hlocks, hN, hA, hK⟩ := id C0
  have hown : s.vm.findClass R_In = some m.cls := hown
  have hl : lv_has ls 7 [(0, .int p0), (1, .int p1), (2, .ref qw)] := hl
  clear hsz hnm
  have blk_104 : ∀  (x5 : Int32) (x6 : Int32) (aw : Nat → Int32)  (H : Heap) (locs : List Loc) (ls : Array Slot), w_In_getChars_104 Q  nw x5 x6 aw → va_P (dC, dI) cls (W_In_getChars cI cC cB qw nw aw) H → va_D A (W_In_getChars cI cC cB qw nw aw) → va_S A s.heap H locs → lv_has ls 7 [(2, .ref qw), (5, .int x5), (6, .int x6)] → W p l e rm_In_getChars s m args below meth c H locs 0 0 QF (F0 m 104 ls []) := by
    intro  x5 x6 aw  H locs ls h hP hD hS hl
    unfold w_In_getChars_104 at h
    refine lv_iload hx hb d_In_getChars_104 (lv_at hl 2 rfl) ?_
    refine lv_if_eq (tgt := 118) hx hb d_In_getChars_106 (by decide) (fun c_1 => ?_) (fun c_1 => ?_)
    · have h := h.1 c_1
      refine lv_iload hx hb d_In_getChars_118 (lv_at hl 1 rfl) ?_
      exact hret aw () x5 _ _ _ _ rfl h hP hD hS d_In_getChars_120
    · have h := h.2 c_1
      refine lv_aload_n hx hb d_In_getChars_109 rfl (lv_at hl 0 rfl) ?_
      obtain ⟨x5_2, ex5_2⟩ : ∃ y : Int32, y = x5 + (-1) := ⟨_, rfl⟩
      have h := h x5_2 ex5_2
      refine lv_iinc (v := x5_2) (lv' := [(5, .int x5_2), (2, .ref qw), (6, .int x6)]) hx hb d_In_getChars_110 hl (k := 1) rfl (by rw [ex5_2]; rfl) (by decide) rfl (fun ls hl => ?_)
      refine lv_iload hx hb d_In_getChars_113 (lv_at hl 0 rfl) ?_
      refine lv_bipush (v := 45) hx hb d_In_getChars_115 (by decide) ?_
      have hi_3 := h.1
      have h := h.2
      refine va_bast hx hb hK hP hD hS 0 2 rfl rfl hi_3 d_In_getChars_117 (fun H locs hP hD hS => ?_)
      obtain ⟨aw_4, eaw_4⟩ : ∃ z : Nat → Int32, z = upd aw x5_2.toNatClampNeg (vp_nar .byte 45) := ⟨_, rfl⟩
      have h := h aw_4 eaw_4
      have hP : va_P (dC, dI) cls (W_In_getChars cI cC cB qw nw aw_4) H := by rw [eaw_4]; exact hP
      have hD : va_D A (W_In_getChars cI cC cB qw nw aw_4) := by rw [eaw_4]; exact hD
      refine lv_iload hx hb d_In_getChars_118 (lv_at hl 0 rfl) ?_
      exact hret aw_4 () x5_2 _ _ _ _ rfl h hP hD hS d_In_getChars_120
  have blk_22 : ∀  (n : Nat) (x0 : Int32) (x5 : Int32) (x6 : Int32) (aw : Nat → Int32)  (H : Heap) (locs : List Loc) (ls : Array Slot), w_In_getChars_22 Q  nw n x0 x5 x6 aw → va_P (dC, dI) cls (W_In_getChars cI cC cB qw nw aw) H → va_D A (W_In_getChars cI cC cB qw nw aw) → va_S A s.heap H locs → lv_has ls 7 [(0, .int x0), (2, .ref qw), (5, .int x5), (6, .int x6)] → W p l e rm_In_getChars s m args below meth c H locs 0 0 QF (F0 m 22 ls []) := by
    intro  n
    induction n with
    | zero => intro x0 x5 x6 aw  H locs ls h; exact (show False from h).elim
    | succ n ih =>
      intro x0 x5 x6 aw  H locs ls h hP hD hS hl
      have h : w_In_getChars_22B Q  (w_In_getChars_22 Q  nw n) nw x0 x5 x6 aw := h
      generalize w_In_getChars_22 Q  nw n = K_22 at h ih
      unfold w_In_getChars_22B at h
      refine lv_iload_n hx hb d_In_getChars_22 rfl (lv_at hl 0 rfl) ?_
      refine lv_bipush (v := (-100)) hx hb d_In_getChars_23 (by decide) ?_
      refine lv_icmp_gt (tgt := 72) hx hb d_In_getChars_25 (by decide) (fun c_5 => ?_) (fun c_5 => ?_)
      · have h := h.1 c_5
        refine lv_aload_n hx hb d_In_getChars_72 rfl (lv_at hl 1 rfl) ?_
        obtain ⟨x5_6, ex5_6⟩ : ∃ y : Int32, y = x5 + (-1) := ⟨_, rfl⟩
        have h := h x5_6 ex5_6
        refine lv_iinc (v := x5_6) (lv' := [(5, .int x5_6), (0, .int x0), (2, .ref qw), (6, .int x6)]) hx hb d_In_getChars_73 hl (k := 2) rfl (by rw [ex5_6]; rfl) (by decide) rfl (fun ls hl => ?_)
        refine lv_iload hx hb d_In_getChars_76 (lv_at hl 0 rfl) ?_
        obtain ⟨t_7, hzt_7, htt_7⟩ := hN.2.2.2.1
        refine va_gets hx hb hzt_7 hS hown (hts _ w_348) (fun _ h9 => h9) d_In_getChars_78 ?_
        refine lv_iload_n hx hb d_In_getChars_81 rfl (lv_at hl 1 rfl) ?_
        refine lv_ineg hx hb d_In_getChars_82 ?_
        refine lv_topi (fun x_8 ex_8 => ?_)
        have h := h x_8 ex_8
        have hi_9 := h.1
        have h := h.2
        refine va_tb (v := .int (tabO.getD x_8.toNatClampNeg 0)) hx hb htt_7 hS hi_9 rfl d_In_getChars_83 ?_
        refine lv_topi (fun y_10 ey_10 => ?_)
        have h := h y_10 ey_10
        have hi_11 := h.1
        have h := h.2
        refine va_bast hx hb hK hP hD hS 0 2 rfl rfl hi_11 d_In_getChars_84 (fun H locs hP hD hS => ?_)
        obtain ⟨aw_12, eaw_12⟩ : ∃ z : Nat → Int32, z = upd aw x5_6.toNatClampNeg (vp_nar .byte y_10) := ⟨_, rfl⟩
        have h := h aw_12 eaw_12
        have hP : va_P (dC, dI) cls (W_In_getChars cI cC cB qw nw aw_12) H := by rw [eaw_12]; exact hP
        have hD : va_D A (W_In_getChars cI cC cB qw nw aw_12) := by rw [eaw_12]; exact hD
        refine lv_iload_n hx hb d_In_getChars_85 rfl (lv_at hl 1 rfl) ?_
        refine lv_bipush (v := (-9)) hx hb d_In_getChars_86 (by decide) ?_
        refine lv_icmp_ge (tgt := 104) hx hb d_In_getChars_88 (by decide) (fun c_13 => ?_) (fun c_13 => ?_)
        · have h := h.1 c_13
          exact blk_104  _ _ _ _ _ _ h hP hD hS (lv_sub hl [2, 0, 3] rfl)
        · have h := h.2 c_13
          refine lv_aload_n hx hb d_In_getChars_91 rfl (lv_at hl 2 rfl) ?_
          obtain ⟨x5_14, ex5_14⟩ : ∃ y : Int32, y = x5_6 + (-1) := ⟨_, rfl⟩
          have h := h x5_14 ex5_14
          refine lv_iinc (v := x5_14) (lv' := [(5, .int x5_14), (0, .int x0), (2, .ref qw), (6, .int x6)]) hx hb d_In_getChars_92 hl (k := 0) rfl (by rw [ex5_14]; rfl) (by decide) rfl (fun ls hl => ?_)
          refine lv_iload hx hb d_In_getChars_95 (lv_at hl 0 rfl) ?_
          obtain ⟨t_15, hzt_15, htt_15⟩ := hN.2.2.2.2
          refine va_gets hx hb hzt_15 hS hown (hts _ w_349) (fun _ h9 => h9) d_In_getChars_97 ?_
          refine lv_iload_n hx hb d_In_getChars_100 rfl (lv_at hl 1 rfl) ?_
          refine lv_ineg hx hb d_In_getChars_101 ?_
          refine lv_topi (fun x_16 ex_16 => ?_)
          have h := h x_16 ex_16
          have hi_17 := h.1
          have h := h.2
          refine va_tb (v := .int (tabT.getD x_16.toNatClampNeg 0)) hx hb htt_15 hS hi_17 rfl d_In_getChars_102 ?_
          refine lv_topi (fun y_18 ey_18 => ?_)
          have h := h y_18 ey_18
          have hi_19 := h.1
          have h := h.2
          refine va_bast hx hb hK hP hD hS 0 2 rfl rfl hi_19 d_In_getChars_103 (fun H locs hP hD hS => ?_)
          obtain ⟨aw_20, eaw_20⟩ : ∃ z : Nat → Int32, z = upd aw_12 x5_14.toNatClampNeg (vp_nar .byte y_18) := ⟨_, rfl⟩
          have h := h aw_20 eaw_20
          have hP : va_P (dC, dI) cls (W_In_getChars cI cC cB qw nw aw_20) H := by rw [eaw_20]; exact hP
          have hD : va_D A (W_In_getChars cI cC cB qw nw aw_20) := by rw [eaw_20]; exact hD
          exact blk_104  _ _ _ _ _ _ h hP hD hS (lv_sub hl [2, 0, 3] rfl)
      · have h := h.2 c_5
        refine lv_iload_n hx hb d_In_getChars_28 rfl (lv_at hl 0 rfl) ?_
        refine lv_bipush (v := 100) hx hb d_In_getChars_29 (by decide) ?_
        refine lv_idiv hx hb d_In_getChars_31 (by decide) ?_
        refine lv_topi (fun x_21 ex_21 => ?_)
        have h := h x_21 ex_21
        refine lv_istore_n (lv' := [(3, .int x_21), (0, .int x0), (2, .ref qw), (5, .int x5), (6, .int x6)]) hx hb d_In_getChars_32 rfl hl (by decide) rfl (fun ls hl => ?_)
        refine lv_iload_n hx hb d_In_getChars_33 rfl (lv_at hl 0 rfl) ?_
        refine lv_bipush (v := 100) hx hb d_In_getChars_34 (by decide) ?_
        refine lv_imul hx hb d_In_getChars_36 ?_
        refine lv_iload_n hx hb d_In_getChars_37 rfl (lv_at hl 1 rfl) ?_
        refine lv_isub hx hb d_In_getChars_38 ?_
        refine lv_topi (fun x_22 ex_22 => ?_)
        have h := h x_22 ex_22
        refine lv_istore (lv' := [(4, .int x_22), (3, .int x_21), (0, .int x0), (2, .ref qw), (5, .int x5), (6, .int x6)]) hx hb d_In_getChars_39 hl (by decide) rfl (fun ls hl => ?_)
        refine lv_iload_n hx hb d_In_getChars_41 rfl (lv_at hl 1 rfl) ?_
        refine lv_istore_n (lv' := [(0, .int x_21), (4, .int x_22), (3, .int x_21), (2, .ref qw), (5, .int x5), (6, .int x6)]) hx hb d_In_getChars_42 rfl hl (by decide) rfl (fun ls hl => ?_)
        refine lv_aload_n hx hb d_In_getChars_43 rfl (lv_at hl 3 rfl) ?_
        obtain ⟨x5_23, ex5_23⟩ : ∃ y : Int32, y = x5 + (-1) := ⟨_, rfl⟩
        have h := h x5_23 ex5_23
        refine lv_iinc (v := x5_23) (lv' := [(5, .int x5_23), (0, .int x_21), (4, .int x_22), (3, .int x_21), (2, .ref qw), (6, .int x6)]) hx hb d_In_getChars_44 hl (k := 4) rfl (by rw [ex5_23]; rfl) (by decide) rfl (fun ls hl => ?_)
        refine lv_iload hx hb d_In_getChars_47 (lv_at hl 0 rfl) ?_
        obtain ⟨t_24, hzt_24, htt_24⟩ := hN.2.2.2.1
        refine va_gets hx hb hzt_24 hS hown (hts _ w_348) (fun _ h9 => h9) d_In_getChars_49 ?_
        refine lv_iload hx hb d_In_getChars_52 (lv_at hl 2 rfl) ?_
        have hi_25 := h.1
        have h := h.2
        refine va_tb (v := .int (tabO.getD x_22.toNatClampNeg 0)) hx hb htt_24 hS hi_25 rfl d_In_getChars_54 ?_
        refine lv_topi (fun y_26 ey_26 => ?_)
        have h := h y_26 ey_26
        have hi_27 := h.1
        have h := h.2
        refine va_bast hx hb hK hP hD hS 0 2 rfl rfl hi_27 d_In_getChars_55 (fun H locs hP hD hS => ?_)
        obtain ⟨aw_28, eaw_28⟩ : ∃ z : Nat → Int32, z = upd aw x5_23.toNatClampNeg (vp_nar .byte y_26) := ⟨_, rfl⟩
        have h := h aw_28 eaw_28
        have hP : va_P (dC, dI) cls (W_In_getChars cI cC cB qw nw aw_28) H := by rw [eaw_28]; exact hP
        have hD : va_D A (W_In_getChars cI cC cB qw nw aw_28) := by rw [eaw_28]; exact hD
        refine lv_aload_n hx hb d_In_getChars_56 rfl (lv_at hl 4 rfl) ?_
        obtain ⟨x5_29, ex5_29⟩ : ∃ y : Int32, y = x5_23 + (-1) := ⟨_, rfl⟩
        have h := h x5_29 ex5_29
        refine lv_iinc (v := x5_29) (lv' := [(5, .int x5_29), (0, .int x_21), (4, .int x_22), (3, .int x_21), (2, .ref qw), (6, .int x6)]) hx hb d_In_getChars_57 hl (k := 0) rfl (by rw [ex5_29]; rfl) (by decide) rfl (fun ls hl => ?_)
        refine lv_iload hx hb d_In_getChars_60 (lv_at hl 0 rfl) ?_
        obtain ⟨t_30, hzt_30, htt_30⟩ := hN.2.2.2.2
        refine va_gets hx hb hzt_30 hS hown (hts _ w_349) (fun _ h9 => h9) d_In_getChars_62 ?_
        refine lv_iload hx hb d_In_getChars_65 (lv_at hl 2 rfl) ?_
        have hi_31 := h.1
        have h := h.2
        refine va_tb (v := .int (tabT.getD x_22.toNatClampNeg 0)) hx hb htt_30 hS hi_31 rfl d_In_getChars_67 ?_
        refine lv_topi (fun y_32 ey_32 => ?_)
        have h := h y_32 ey_32
        have hi_33 := h.1
        have h := h.2
        refine va_bast hx hb hK hP hD hS 0 2 rfl rfl hi_33 d_In_getChars_68 (fun H locs hP hD hS => ?_)
        obtain ⟨aw_34, eaw_34⟩ : ∃ z : Nat → Int32, z = upd aw_28 x5_29.toNatClampNeg (vp_nar .byte y_32) := ⟨_, rfl⟩
        have h := h aw_34 eaw_34
        have hP : va_P (dC, dI) cls (W_In_getChars cI cC cB qw nw aw_34) H := by rw [eaw_34]; exact hP
        have hD : va_D A (W_In_getChars cI cC cB qw nw aw_34) := by rw [eaw_34]; exact hD
        refine lv_goto (tgt := 22) hx hb d_In_getChars_69 (by decide) ?_
        exact ih _ _ _ _ _ _ _ h hP hD hS (lv_sub hl [1, 4, 0, 5] rfl)
  have blk_12 : ∀  (x0 : Int32) (x5 : Int32) (s0 : Int32) (aw : Nat → Int32)  (H : Heap) (locs : List Loc) (ls : Array Slot), w_In_getChars_12 Q  nw x0 x5 s0 aw → va_P (dC, dI) cls (W_In_getChars cI cC cB qw nw aw) H → va_D A (W_In_getChars cI cC cB qw nw aw) → va_S A s.heap H locs → lv_has ls 7 [(0, .int x0), (2, .ref qw), (5, .int x5)] → W p l e rm_In_getChars s m args below meth c H locs 0 0 QF (F0 m 12 ls [.int s0]) := by
    intro  x0 x5 s0 aw  H locs ls h hP hD hS hl
    unfold w_In_getChars_12 at h
    refine lv_istore (lv' := [(6, .int s0), (0, .int x0), (2, .ref qw), (5, .int x5)]) hx hb d_In_getChars_12 hl (by decide) rfl (fun ls hl => ?_)
    refine lv_iload hx hb d_In_getChars_14 (lv_at hl 0 rfl) ?_
    refine lv_if_ne (tgt := 22) hx hb d_In_getChars_16 (by decide) (fun c_35 => ?_) (fun c_35 => ?_)
    · have h := h.2 c_35
      obtain ⟨fu_22, h⟩ := h
      exact blk_22  _ _ _ _ _ _ _ _ h hP hD hS (lv_sub hl [1, 2, 3, 0] rfl)
    · have h := h.1 c_35
      refine lv_iload_n hx hb d_In_getChars_19 rfl (lv_at hl 1 rfl) ?_
      refine lv_ineg hx hb d_In_getChars_20 ?_
      refine lv_topi (fun x_36 ex_36 => ?_)
      have h := h x_36 ex_36
      refine lv_istore_n (lv' := [(0, .int x_36), (6, .int s0), (2, .ref qw), (5, .int x5)]) hx hb d_In_getChars_21 rfl hl (by decide) rfl (fun ls hl => ?_)
      obtain ⟨fu_22, h⟩ := h
      exact blk_22  _ _ _ _ _ _ _ _ h hP hD hS (lv_sub hl [0, 2, 3, 1] rfl)
  unfold wp_In_getChars at h
  refine lv_iload_n hx hb d_In_getChars_0 rfl (lv_at hl 1 rfl) ?_
  refine lv_istore (lv' := [(5, .int p1), (0, .int p0), (1, .int p1), (2, .ref qw)]) hx hb d_In_getChars_1 hl (by decide) rfl (fun ls hl => ?_)
  refine lv_iload_n hx hb d_In_getChars_3 rfl (lv_at hl 1 rfl) ?_
  refine lv_if_ge (tgt := 11) hx hb d_In_getChars_4 (by decide) (fun c_37 => ?_) (fun c_37 => ?_)
  · have h := h.1 c_37
    refine lv_iconst (v := 0) hx hb d_In_getChars_11 (by decide) ?_
    exact blk_12  _ _ _ _ _ _ _ h hP hD hS (lv_sub hl [1, 3, 0] rfl)
  · have h := h.2 c_37
    refine lv_iconst (v := 1) hx hb d_In_getChars_7 (by decide) ?_
    refine lv_goto (tgt := 12) hx hb d_In_getChars_8 (by decide) ?_
    exact blk_12  _ _ _ _ _ _ _ h hP hD hS (lv_sub hl [1, 3, 0] rfl)
abbrev W_AB_append_I (cI cC cB : ClassId) (qu : Nat) (qu_value : Nat) (fu_coder : Int32) (fu_maybeLatin1 : Int32) (fu_count : Int32) (nu_value : Nat) (au_value : Nat → Int32) : va_W := [(qu, .inr (7, [.ref qu_value, .int fu_coder, .int fu_maybeLatin1, .int fu_count])), (qu_value, .inl (cB, nu_value, .inl au_value))]
def wp_AB_append_I (Q : (Int32 × Nat × (Nat → Int32)) → Prop) (mc ms : Nat) (p1 : Int32) (fu_coder : Int32) (fu_count : Int32) (nu_value : Nat) (au_value : Nat → Int32) : Prop := wp_In_stringSize (fun r_2 v_1 => ∀ x_3 : Int32, x_3 = fu_count + r_2 → (∃ mc_7 ms_8 : Nat, 0 + mc_7 ≤ mc ∧ 0 + ms_8 ≤ ms ∧ (wp_AB_ensureCapacityInternal (fun v_4 => wp_AB_isLatin1 (fun r_10 v_9 => ((r_10 = 0 → (False)) ∧ (¬ r_10 = 0 → (wp_In_getChars (fun r_13 v_12 => Q (x_3, v_4.1, v_12)) p1 x_3 v_4.1 v_4.2)))) fu_coder) mc_7 ms_8 x_3 fu_coder nu_value au_value))) p1
abbrev rm_AB_append_I (mc ms : Nat) : Room := { frames := 4, cells := mc, slots := ms, locals := 95 }
set_option maxHeartbeats 4000000 in
set_option maxRecDepth 100000 in
theorem k_AB_append_I (l : Launch) (dC : Nat → ClassId) (dI : Nat → Nat → Nat) (cI cC cB : ClassId) (sz : Nat) (qu : Nat) (qu_value : Nat) (fu_coder : Int32) (fu_maybeLatin1 : Int32) (fu_count : Int32) (nu_value : Nat) (au_value : Nat → Int32) (p1 : Int32) (mc ms : Nat) {Q : (Int32 × Nat × (Nat → Int32)) → Prop} (h : wp_AB_append_I Q mc ms p1 fu_coder fu_count nu_value au_value) :
    CTr l y_AB_append_I (wM y_AB_append_I c_AB_append_I 4 (some (.object "java/lang/AbstractStringBuilder"))) (rm_AB_append_I mc ms) mc ms (dC, dI) (tysL cI cC cB) [.ref qu, .int p1] (W_AB_append_I cI cC cB qu qu_value fu_coder fu_maybeLatin1 fu_count nu_value au_value) sz Q (fun (v : Int32 × Nat × (Nat → Int32)) (b : Nat) => (W_AB_append_I cI cC cB qu b fu_coder fu_maybeLatin1 v.1 v.2.1 v.2.2)) (fun _ _ => qu) := by
  refine CTr.std (Or.inl ⟨_, rfl⟩) (by decide) (Nat.le_of_ble_eq_true rfl) ?_
  intro p e s m args below meth c A ls QF C0 hP hD hl hS hsz hnm hret
  obtain ⟨hx, hb, hr, hml, hown, hts, hlocks, hN, hA, hK⟩ := id C0
  have hown : s.vm.findClass R_AB = some m.cls := hown
  have hl : lv_has ls 4 [(0, .ref qu), (1, .int p1)] := hl
  clear hsz hnm
  unfold wp_AB_append_I at h
  refine lv_aload_n hx hb d_AB_append_I_0 rfl (lv_at hl 0 rfl) ?_
  refine va_get (D := (dC, dI)) (ci := 7) (v := .int fu_count) (C := R_SB) (T := T_SB) (N := 4) hx hb hts in_SB hown hK hP 0 rfl rfl 3 (by decide) (hts _ w_311) (fun _ h9 => h9) rfl d_AB_append_I_1 ?_
  refine lv_istore_n (lv' := [(2, .int fu_count), (0, .ref qu), (1, .int p1)]) hx hb d_AB_append_I_4 rfl hl (by decide) rfl (fun ls hl => ?_)
  refine lv_iload_n hx hb d_AB_append_I_5 rfl (lv_at hl 0 rfl) ?_
  refine lv_iload_n hx hb d_AB_append_I_6 rfl (lv_at hl 2 rfl) ?_
  refine call_S_i (As := [.int p1]) (rest := [.int fu_count]) C0 hP hD hS [] [0, 1] [0, 1] [(qu, .inr (7, [.ref qu_value, .int fu_coder, .int fu_maybeLatin1, .int fu_count])), (qu_value, .inl (cB, nu_value, .inl au_value))] (fun (v : Unit) (b : Unit) => (W_AB_append_I cI cC cB qu qu_value fu_coder fu_maybeLatin1 fu_count nu_value au_value)) (k_In_stringSize l dC dI cI cC cB _ p1 h) (g_S w_355 w_356 w_353 w_354) 1 rfl (by decide +kernel) rfl rfl ⟨Nat.le_of_ble_eq_true rfl, Nat.le_of_ble_eq_true rfl⟩ rfl rfl (by decide) (by decide) (by decide) (by decide) (fun _ _ => rfl) hl.1 rfl (Nat.le_of_ble_eq_true rfl) d_AB_append_I_7 ⟨(Nat.zero_le _), (Nat.zero_le _)⟩ (fun r_2 v_1 _ H locs h hP hD hS => ?_)
  have hP : va_P (dC, dI) cls (W_AB_append_I cI cC cB qu qu_value fu_coder fu_maybeLatin1 fu_count nu_value au_value) H := hP
  have hD : va_D A (W_AB_append_I cI cC cB qu qu_value fu_coder fu_maybeLatin1 fu_count nu_value au_value) := hD
  refine lv_iadd hx hb d_AB_append_I_10 ?_
  refine lv_topi (fun x_3 ex_3 => ?_)
  have h := h x_3 ex_3
  refine lv_istore_n (lv' := [(3, .int x_3), (2, .int fu_count), (0, .ref qu), (1, .int p1)]) hx hb d_AB_append_I_11 rfl hl (by decide) rfl (fun ls hl => ?_)
  refine lv_aload_n hx hb d_AB_append_I_12 rfl (lv_at hl 2 rfl) ?_
  refine lv_iload_n hx hb d_AB_append_I_13 rfl (lv_at hl 0 rfl) ?_
  obtain ⟨mc_7, ms_8, hmc_7, hms_8, h⟩ := h
  refine call_U_v (As := [.int x_3]) (rest := []) C0 hP hD hS [0, 1] [] [0, 1] [] (fun (v : Nat × (Nat → Int32)) (b : Nat) => (W_AB_append_I cI cC cB qu b fu_coder fu_maybeLatin1 fu_count v.1 v.2)) (ci := 7) rfl rfl (k_AB_ensureCapacityInternal l dC dI cI cC cB _ qu qu_value fu_coder fu_maybeLatin1 fu_count nu_value au_value x_3 mc_7 ms_8 h) w_315 w_316 (hts _ w_314) w_317 w_305 w_313 1 rfl (by decide +kernel) rfl rfl ⟨Nat.le_of_ble_eq_true rfl, Nat.le_of_ble_eq_true rfl⟩ rfl rfl (by decide) (by decide) (by decide) (by decide) (fun _ _ => rfl) hl.1 rfl (Nat.le_of_ble_eq_true rfl) d_AB_append_I_14 ⟨hmc_7, hms_8⟩ (fun v_4 b_6 H locs h hP hD hS => ?_)
  have hP : va_P (dC, dI) cls (W_AB_append_I cI cC cB qu b_6 fu_coder fu_maybeLatin1 fu_count v_4.1 v_4.2) H := hP
  have hD : va_D A (W_AB_append_I cI cC cB qu b_6 fu_coder fu_maybeLatin1 fu_count v_4.1 v_4.2) := hD
  refine lv_aload_n hx hb d_AB_append_I_17 rfl (lv_at hl 2 rfl) ?_
  refine call_U_i (As := []) (rest := []) C0 hP hD hS [0] [1] [1, 0] [(b_6, .inl (cB, v_4.1, .inl v_4.2))] (fun (v : Unit) (b : Unit) => (W_AB_append_I cI cC cB qu b_6 fu_coder fu_maybeLatin1 fu_count v_4.1 v_4.2)) (ci := 7) rfl rfl (k_AB_isLatin1 l dC dI cI cC cB _ qu b_6 fu_coder fu_maybeLatin1 fu_count h) w_330 w_331 (hts _ w_329) w_332 w_305 w_328 0 rfl (by decide +kernel) rfl rfl ⟨Nat.le_of_ble_eq_true rfl, Nat.le_of_ble_eq_true rfl⟩ rfl rfl (by decide) (by decide) (by decide) (by decide) (fun _ _ => rfl) hl.1 rfl (Nat.le_of_ble_eq_true rfl) d_AB_append_I_18 ⟨hmc_7, hms_8⟩ (fun r_10 v_9 _ H locs h hP hD hS => ?_)
  have hP : va_P (dC, dI) cls (W_AB_append_I cI cC cB qu b_6 fu_coder fu_maybeLatin1 fu_count v_4.1 v_4.2) H := hP
  have hD : va_D A (W_AB_append_I cI cC cB qu b_6 fu_coder fu_maybeLatin1 fu_count v_4.1 v_4.2) := hD
  refine lv_if_eq (tgt := 37) hx hb d_AB_append_I_21 (by decide) (fun c_11 => ?_) (fun c_11 => ?_)
  · have h := h.1 c_11
    exact h.elim
  · have h := h.2 c_11
    refine lv_iload_n hx hb d_AB_append_I_24 rfl (lv_at hl 3 rfl) ?_
    refine lv_iload_n hx hb d_AB_append_I_25 rfl (lv_at hl 0 rfl) ?_
    refine lv_aload_n hx hb d_AB_append_I_26 rfl (lv_at hl 2 rfl) ?_
    refine va_get (D := (dC, dI)) (ci := 7) (v := .ref b_6) (C := R_SB) (T := T_SB) (N := 4) hx hb hts in_SB hown hK hP 0 rfl rfl 0 (by decide) (hts _ w_284) (fun _ h9 => h9) rfl d_AB_append_I_27 ?_
    refine call_S_i (As := [.int p1, .int x_3, .ref b_6]) (rest := []) C0 hP hD hS [1] [0] [0, 1] [(qu, .inr (7, [.ref b_6, .int fu_coder, .int fu_maybeLatin1, .int fu_count]))] (fun (v : (Nat → Int32)) (b : Unit) => (W_AB_append_I cI cC cB qu b_6 fu_coder fu_maybeLatin1 fu_count v_4.1 v)) (k_In_getChars l dC dI cI cC cB _ b_6 v_4.1 v_4.2 p1 x_3 h) (g_S w_351 w_352 w_353 w_350) 3 rfl (by decide +kernel) rfl rfl ⟨Nat.le_of_ble_eq_true rfl, Nat.le_of_ble_eq_true rfl⟩ rfl rfl (by decide) (by decide) (by decide) (by decide) (fun _ _ => rfl) hl.1 rfl (Nat.le_of_ble_eq_true rfl) d_AB_append_I_30 ⟨hmc_7, hms_8⟩ (fun r_13 v_12 _ H locs h hP hD hS => ?_)
    have hP : va_P (dC, dI) cls (W_AB_append_I cI cC cB qu b_6 fu_coder fu_maybeLatin1 fu_count v_4.1 v_12) H := hP
    have hD : va_D A (W_AB_append_I cI cC cB qu b_6 fu_coder fu_maybeLatin1 fu_count v_4.1 v_12) := hD
    refine lv_pop hx hb d_AB_append_I_33 rfl ?_
    refine lv_goto (tgt := 48) hx hb d_AB_append_I_34 (by decide) ?_
    refine lv_aload_n hx hb d_AB_append_I_48 rfl (lv_at hl 2 rfl) ?_
    refine lv_iload_n hx hb d_AB_append_I_49 rfl (lv_at hl 0 rfl) ?_
    refine va_put (D := (dC, dI)) (ci := 7) (v := .int x_3) (ty := .int) (C := R_SB) (T := T_SB) (N := 4) hx hb hts in_SB t_SB t_SB_ok n_SB hown hK hP hD hS 0 rfl rfl 3 (by decide) (hts _ w_311) (fun _ h9 => h9) rfl (by decide +kernel) rfl rfl (Nat.le_of_ble_eq_true rfl) d_AB_append_I_50 (fun H locs hP hD hS => ?_)
    have hP : va_P (dC, dI) cls (W_AB_append_I cI cC cB qu b_6 fu_coder fu_maybeLatin1 x_3 v_4.1 v_12) H := hP
    have hD : va_D A (W_AB_append_I cI cC cB qu b_6 fu_coder fu_maybeLatin1 x_3 v_4.1 v_12) := hD
    refine lv_aload_n hx hb d_AB_append_I_53 rfl (lv_at hl 2 rfl) ?_
    refine W.widen (k := mc) (n := ms) hmc_7 hms_8 ?_
    exact hret (x_3, v_4.1, v_12) b_6 _ _ _ _ h hP hD hS d_AB_append_I_54
