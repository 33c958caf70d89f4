abbrev W_Te_put (cI cC cB : ClassId) (qu : Nat) (qu_characters : Nat) (fu_length : Int32) (fu_at : Int32) (au_characters : Nat → Int32) : va_W := [(qu, .inr (1, [.ref qu_characters, .int fu_length, .int fu_at])), (qu_characters, .inl (cC, 400, .inl au_characters))]
def w_Te_put_29 (Q : Int32 → (Int32 × (Nat → Int32)) → Prop)  (p1 : Int32) (s0 : Int32) (fu_length : Int32) (au_characters : Nat → Int32) : Prop := ((s0 = 0 → (Q 0 (fu_length, au_characters))) ∧ (¬ s0 = 0 → (((fu_length < 400 → (vp_in fu_length 400 ∧ (∀ au_characters_4 : Nat → Int32, au_characters_4 = upd au_characters fu_length.toNatClampNeg (vp_nar .char p1) → (∀ x_5 : Int32, x_5 = fu_length + 1 → (Q 1 (x_5, au_characters_4)))))) ∧ (¬ fu_length < 400 → (Q 0 (fu_length, au_characters)))))))
def w_Te_put_24 (Q : Int32 → (Int32 × (Nat → Int32)) → Prop)  (p1 : Int32) (fu_length : Int32) (au_characters : Nat → Int32) : Prop := w_Te_put_29 Q p1 1 fu_length au_characters
def w_Te_put_28 (Q : Int32 → (Int32 × (Nat → Int32)) → Prop)  (p1 : Int32) (fu_length : Int32) (au_characters : Nat → Int32) : Prop := w_Te_put_29 Q p1 0 fu_length au_characters
def wp_Te_put (Q : Int32 → (Int32 × (Nat → Int32)) → Prop) (p1 : Int32) (fu_length : Int32) (au_characters : Nat → Int32) : Prop := ((p1 = 9 → (w_Te_put_24 Q p1 fu_length au_characters)) ∧ (¬ p1 = 9 → (((p1 = 10 → (w_Te_put_24 Q p1 fu_length au_characters)) ∧ (¬ p1 = 10 → (((p1 < 32 → (w_Te_put_28 Q p1 fu_length au_characters)) ∧ (¬ p1 < 32 → (((126 < p1 → (w_Te_put_28 Q p1 fu_length au_characters)) ∧ (¬ 126 < p1 → (w_Te_put_24 Q p1 fu_length au_characters))))))))))))
abbrev rm_Te_put : Room := { frames := 0, cells := 0, slots := 0, locals := 0 }
set_option maxHeartbeats 4000000 in
set_option maxRecDepth 100000 in
theorem k_Te_put (l : Launch) (dC : Nat → ClassId) (dI : Nat → Nat → Nat) (cI cC cB : ClassId) (sz : Nat) (qu : Nat) (qu_characters : Nat) (fu_length : Int32) (fu_at : Int32) (au_characters : Nat → Int32) (p1 : Int32) {Q : Int32 → (Int32 × (Nat → Int32)) → Prop} (h : wp_Te_put Q p1 fu_length au_characters) :
    CTi l y_Te_put (wM y_Te_put c_Te_put 3 (some .boolean)) rm_Te_put 0 0 (dC, dI) (tysL cI cC cB) [.ref qu, .int p1] (W_Te_put cI cC cB qu qu_characters fu_length fu_at au_characters) sz Q (fun (v : Int32 × (Nat → Int32)) (b : Unit) => (W_Te_put cI cC cB qu qu_characters v.1 fu_at v.2)) := by
  refine CTi.std (by decide) (Nat.le_of_ble_eq_true rfl) ?_
  intro p e s m args below meth c A ls QF C0 hP hD hl hS hsz hnm hret
  obtain ⟨hx, hb, hr, hml, hown, hts, hlocks, hN, hA, hK⟩ := id C0
  have hown : s.vm.findClass R_Te = some m.cls := hown
  have hl : lv_has ls 3 [(0, .ref qu), (1, .int p1)] := hl
  clear hsz hnm
  have blk_29 : ∀  (s0 : Int32) (fu_length : Int32) (au_characters : Nat → Int32)  (H : Heap) (locs : List Loc) (ls : Array Slot), w_Te_put_29 Q  p1 s0 fu_length au_characters → va_P (dC, dI) cls (W_Te_put cI cC cB qu qu_characters fu_length fu_at au_characters) H → va_D A (W_Te_put cI cC cB qu qu_characters fu_length fu_at au_characters) → va_S A s.heap H locs → lv_has ls 3 [(0, .ref qu), (1, .int p1)] → W p l e rm_Te_put s m args below meth c H locs 0 0 QF (F0 m 29 ls [.int s0]) := by
    intro  s0 fu_length au_characters  H locs ls h hP hD hS hl
    unfold w_Te_put_29 at h
    refine lv_istore_n (lv' := [(2, .int s0), (0, .ref qu), (1, .int p1)]) hx hb d_Te_put_29 rfl hl (by decide) rfl (fun ls hl => ?_)
    refine lv_iload_n hx hb d_Te_put_30 rfl (lv_at hl 0 rfl) ?_
    refine lv_if_eq (tgt := 44) hx hb d_Te_put_31 (by decide) (fun c_1 => ?_) (fun c_1 => ?_)
    · have h := h.1 c_1
      refine lv_iconst (v := 0) hx hb d_Te_put_44 (by decide) ?_
      exact hret (fu_length, au_characters) () 0 _ _ _ _ rfl h hP hD hS d_Te_put_45
    · have h := h.2 c_1
      refine lv_aload_n hx hb d_Te_put_34 rfl (lv_at hl 1 rfl) ?_
      refine va_get (D := (dC, dI)) (ci := 1) (v := .int fu_length) (C := R_Te) (T := T_Te) (N := 3) hx hb hts in_Te hown hK hP 0 rfl rfl 1 (by decide) (hts _ w_1) (fun _ h9 => h9) rfl d_Te_put_35 ?_
      refine lv_sipush (v := 400) hx hb d_Te_put_38 (by decide) ?_
      refine lv_icmp_lt (tgt := 46) hx hb d_Te_put_41 (by decide) (fun c_2 => ?_) (fun c_2 => ?_)
      · have h := h.1 c_2
        refine lv_aload_n hx hb d_Te_put_46 rfl (lv_at hl 1 rfl) ?_
        refine va_get (D := (dC, dI)) (ci := 1) (v := .ref qu_characters) (C := R_Te) (T := T_Te) (N := 3) hx hb hts in_Te hown hK hP 0 rfl rfl 0 (by decide) (hts _ w_2) (fun _ h9 => h9) rfl d_Te_put_47 ?_
        refine lv_aload_n hx hb d_Te_put_50 rfl (lv_at hl 1 rfl) ?_
        refine va_get (D := (dC, dI)) (ci := 1) (v := .int fu_length) (C := R_Te) (T := T_Te) (N := 3) hx hb hts in_Te hown hK hP 0 rfl rfl 1 (by decide) (hts _ w_1) (fun _ h9 => h9) rfl d_Te_put_51 ?_
        refine lv_iload_n hx hb d_Te_put_54 rfl (lv_at hl 2 rfl) ?_
        have hi_3 := h.1
        have h := h.2
        refine va_cast hx hb hK hP hD hS 1 1 rfl rfl hi_3 d_Te_put_55 (fun H locs hP hD hS => ?_)
        obtain ⟨au_characters_4, eau_characters_4⟩ : ∃ z : Nat → Int32, z = upd au_characters fu_length.toNatClampNeg (vp_nar .char p1) := ⟨_, rfl⟩
        have h := h au_characters_4 eau_characters_4
        have hP : va_P (dC, dI) cls (W_Te_put cI cC cB qu qu_characters fu_length fu_at au_characters_4) H := by rw [eau_characters_4]; exact hP
        have hD : va_D A (W_Te_put cI cC cB qu qu_characters fu_length fu_at au_characters_4) := by rw [eau_characters_4]; exact hD
        refine lv_aload_n hx hb d_Te_put_56 rfl (lv_at hl 1 rfl) ?_
        refine lv_dup hx hb d_Te_put_57 rfl ?_
        refine va_get (D := (dC, dI)) (ci := 1) (v := .int fu_length) (C := R_Te) (T := T_Te) (N := 3) hx hb hts in_Te hown hK hP 0 rfl rfl 1 (by decide) (hts _ w_1) (fun _ h9 => h9) rfl d_Te_put_58 ?_
        refine lv_iconst (v := 1) hx hb d_Te_put_61 (by decide) ?_
        refine lv_iadd hx hb d_Te_put_62 ?_
        refine lv_topi (fun x_5 ex_5 => ?_)
        have h := h x_5 ex_5
        refine va_put (D := (dC, dI)) (ci := 1) (v := .int x_5) (ty := .int) (C := R_Te) (T := T_Te) (N := 3) hx hb hts in_Te t_Te t_Te_ok n_Te hown hK hP hD hS 0 rfl rfl 1 (by decide) (hts _ w_1) (fun _ h9 => h9) rfl (by decide +kernel) rfl rfl (Nat.le_of_ble_eq_true rfl) d_Te_put_63 (fun H locs hP hD hS => ?_)
        have hP : va_P (dC, dI) cls (W_Te_put cI cC cB qu qu_characters x_5 fu_at au_characters_4) H := hP
        have hD : va_D A (W_Te_put cI cC cB qu qu_characters x_5 fu_at au_characters_4) := hD
        refine lv_iconst (v := 1) hx hb d_Te_put_66 (by decide) ?_
        exact hret (x_5, au_characters_4) () 1 _ _ _ _ rfl h hP hD hS d_Te_put_67
      · have h := h.2 c_2
        refine lv_iconst (v := 0) hx hb d_Te_put_44 (by decide) ?_
        exact hret (fu_length, au_characters) () 0 _ _ _ _ rfl h hP hD hS d_Te_put_45
  have blk_24 : ∀  (fu_length : Int32) (au_characters : Nat → Int32)  (H : Heap) (locs : List Loc) (ls : Array Slot), w_Te_put_24 Q  p1 fu_length au_characters → va_P (dC, dI) cls (W_Te_put cI cC cB qu qu_characters fu_length fu_at au_characters) H → va_D A (W_Te_put cI cC cB qu qu_characters fu_length fu_at au_characters) → va_S A s.heap H locs → lv_has ls 3 [(0, .ref qu), (1, .int p1)] → W p l e rm_Te_put s m args below meth c H locs 0 0 QF (F0 m 24 ls []) := by
    intro  fu_length au_characters  H locs ls h hP hD hS hl
    unfold w_Te_put_24 at h
    refine lv_iconst (v := 1) hx hb d_Te_put_24 (by decide) ?_
    refine lv_goto (tgt := 29) hx hb d_Te_put_25 (by decide) ?_
    exact blk_29  _ _ _ _ _ _ h hP hD hS (lv_sub hl [0, 1] rfl)
  have blk_28 : ∀  (fu_length : Int32) (au_characters : Nat → Int32)  (H : Heap) (locs : List Loc) (ls : Array Slot), w_Te_put_28 Q  p1 fu_length au_characters → va_P (dC, dI) cls (W_Te_put cI cC cB qu qu_characters fu_length fu_at au_characters) H → va_D A (W_Te_put cI cC cB qu qu_characters fu_length fu_at au_characters) → va_S A s.heap H locs → lv_has ls 3 [(0, .ref qu), (1, .int p1)] → W p l e rm_Te_put s m args below meth c H locs 0 0 QF (F0 m 28 ls []) := by
    intro  fu_length au_characters  H locs ls h hP hD hS hl
    unfold w_Te_put_28 at h
    refine lv_iconst (v := 0) hx hb d_Te_put_28 (by decide) ?_
    exact blk_29  _ _ _ _ _ _ h hP hD hS (lv_sub hl [0, 1] rfl)
  unfold wp_Te_put at h
  refine lv_iload_n hx hb d_Te_put_0 rfl (lv_at hl 1 rfl) ?_
  refine lv_bipush (v := 9) hx hb d_Te_put_1 (by decide) ?_
  refine lv_icmp_eq (tgt := 24) hx hb d_Te_put_3 (by decide) (fun c_6 => ?_) (fun c_6 => ?_)
  · have h := h.1 c_6
    exact blk_24  _ _ _ _ _ h hP hD hS (lv_sub hl [0, 1] rfl)
  · have h := h.2 c_6
    refine lv_iload_n hx hb d_Te_put_6 rfl (lv_at hl 1 rfl) ?_
    refine lv_bipush (v := 10) hx hb d_Te_put_7 (by decide) ?_
    refine lv_icmp_eq (tgt := 24) hx hb d_Te_put_9 (by decide) (fun c_7 => ?_) (fun c_7 => ?_)
    · have h := h.1 c_7
      exact blk_24  _ _ _ _ _ h hP hD hS (lv_sub hl [0, 1] rfl)
    · have h := h.2 c_7
      refine lv_iload_n hx hb d_Te_put_12 rfl (lv_at hl 1 rfl) ?_
      refine lv_bipush (v := 32) hx hb d_Te_put_13 (by decide) ?_
      refine lv_icmp_lt (tgt := 28) hx hb d_Te_put_15 (by decide) (fun c_8 => ?_) (fun c_8 => ?_)
      · have h := h.1 c_8
        exact blk_28  _ _ _ _ _ h hP hD hS (lv_sub hl [0, 1] rfl)
      · have h := h.2 c_8
        refine lv_iload_n hx hb d_Te_put_18 rfl (lv_at hl 1 rfl) ?_
        refine lv_bipush (v := 126) hx hb d_Te_put_19 (by decide) ?_
        refine lv_icmp_gt (tgt := 28) hx hb d_Te_put_21 (by decide) (fun c_9 => ?_) (fun c_9 => ?_)
        · have h := h.1 c_9
          exact blk_28  _ _ _ _ _ h hP hD hS (lv_sub hl [0, 1] rfl)
        · have h := h.2 c_9
          exact blk_24  _ _ _ _ _ h hP hD hS (lv_sub hl [0, 1] rfl)
abbrev W_X_type (cI cC cB : ClassId) (qu : Nat) (qu_text : Nat) (qu_text_characters : Nat) (qu_reading : Nat) (qu_costs : Nat) (qu_result : Nat) (qu_told : Nat) (qu_graph : Nat) (qu_spare : Nat) (fu_text_length : Int32) (fu_text_at : Int32) (au_text_characters : Nat → Int32) : va_W := [(qu, .inr (0, [.ref qu_text, .ref qu_reading, .ref qu_costs, .ref qu_result, .ref qu_told, .ref qu_graph, .ref qu_spare])), (qu_text, .inr (1, [.ref qu_text_characters, .int fu_text_length, .int fu_text_at])), (qu_text_characters, .inl (cC, 400, .inl au_text_characters))]
def wp_X_type (Q : Int32 → (Int32 × (Nat → Int32)) → Prop) (p1 : Int32) (fu_text_length : Int32) (au_text_characters : Nat → Int32) : Prop := wp_Te_put (fun r_2 v_1 => (narrow .boolean (.int r_2) = .int r_2 ∧ Q r_2 (v_1.1, v_1.2))) p1 fu_text_length au_text_characters
abbrev rm_X_type : Room := { frames := 1, cells := 0, slots := 0, locals := 22 }
set_option maxHeartbeats 4000000 in
set_option maxRecDepth 100000 in
theorem k_X_type (l : Launch) (dC : Nat → ClassId) (dI : Nat → Nat → Nat) (cI cC cB : ClassId) (sz : Nat) (qu : Nat) (qu_text : Nat) (qu_text_characters : Nat) (qu_reading : Nat) (qu_costs : Nat) (qu_result : Nat) (qu_told : Nat) (qu_graph : Nat) (qu_spare : Nat) (fu_text_length : Int32) (fu_text_at : Int32) (au_text_characters : Nat → Int32) (p1 : Int32) {Q : Int32 → (Int32 × (Nat → Int32)) → Prop} (h : wp_X_type Q p1 fu_text_length au_text_characters) :
    CTi l y_X_type (wM y_X_type c_X_type 2 (some .boolean)) rm_X_type 0 0 (dC, dI) (tysL cI cC cB) [.ref qu, .int p1] (W_X_type cI cC cB qu qu_text qu_text_characters qu_reading qu_costs qu_result qu_told qu_graph qu_spare fu_text_length fu_text_at au_text_characters) sz Q (fun (v : Int32 × (Nat → Int32)) (b : Unit) => (W_X_type cI cC cB qu qu_text qu_text_characters qu_reading qu_costs qu_result qu_told qu_graph qu_spare v.1 fu_text_at v.2)) := by
  refine CTi.std (by decide) (Nat.le_of_ble_eq_true rfl) ?_
  intro p e s m args below meth c A ls QF C0 hP hD hl hS hsz hnm hret
  obtain ⟨hx, hb, hr, hml, hown, hts, hlocks, hN, hA, hK⟩ := id C0
  have hown : s.vm.findClass R_X = some m.cls := hown
  have hl : lv_has ls 2 [(0, .ref qu), (1, .int p1)] := hl
  clear hsz hnm
  unfold wp_X_type at h
  refine lv_aload_n hx hb d_X_type_0 rfl (lv_at hl 0 rfl) ?_
  refine va_get (D := (dC, dI)) (ci := 0) (v := .ref qu_text) (C := R_X) (T := T_X) (N := 7) hx hb hts in_X hown hK hP 0 rfl rfl 0 (by decide) (hts _ w_0) (fun _ h9 => h9) rfl d_X_type_1 ?_
  refine lv_iload_n hx hb d_X_type_4 rfl (lv_at hl 1 rfl) ?_
  refine call_V_i (As := [.int p1]) (rest := []) C0 hP hD hS [1, 2] [0] [0, 1, 2] [(qu, .inr (0, [.ref qu_text, .ref qu_reading, .ref qu_costs, .ref qu_result, .ref qu_told, .ref qu_graph, .ref qu_spare]))] (fun (v : Int32 × (Nat → Int32)) (b : Unit) => (W_X_type cI cC cB qu qu_text qu_text_characters qu_reading qu_costs qu_result qu_told qu_graph qu_spare v.1 fu_text_at v.2)) (ci := 1) rfl rfl (k_Te_put l dC dI cI cC cB _ qu_text qu_text_characters fu_text_length fu_text_at au_text_characters p1 h) (g_V w_4 w_5 w_6 w_7 w_3) 1 rfl (by decide +kernel) rfl rfl ⟨Nat.le_of_ble_eq_true rfl, Nat.le_of_ble_eq_true rfl⟩ rfl rfl (by decide) (by decide) (by decide) (by decide) (fun _ _ => rfl) hl.1 rfl (Nat.le_of_ble_eq_true rfl) d_X_type_5 ⟨Nat.le_of_ble_eq_true rfl, Nat.le_of_ble_eq_true rfl⟩ (fun r_2 v_1 _ H locs h hP hD hS => ?_)
  have hP : va_P (dC, dI) cls (W_X_type cI cC cB qu qu_text qu_text_characters qu_reading qu_costs qu_result qu_told qu_graph qu_spare v_1.1 fu_text_at v_1.2) H := hP
  have hD : va_D A (W_X_type cI cC cB qu qu_text qu_text_characters qu_reading qu_costs qu_result qu_told qu_graph qu_spare v_1.1 fu_text_at v_1.2) := hD
  exact hret (v_1.1, v_1.2) () r_2 _ _ _ _ h.1 h.2 hP hD hS d_X_type_8
abbrev W_X_clear (cI cC cB : ClassId) (qu : Nat) (qu_text : Nat) (qu_reading : Nat) (qu_costs : Nat) (qu_result : Nat) (qu_told : Nat) (qu_graph : Nat) (qu_spare : Nat) (qu_text_characters : Nat) (fu_text_length : Int32) (fu_text_at : Int32) : va_W := [(qu, .inr (0, [.ref qu_text, .ref qu_reading, .ref qu_costs, .ref qu_result, .ref qu_told, .ref qu_graph, .ref qu_spare])), (qu_text, .inr (1, [.ref qu_text_characters, .int fu_text_length, .int fu_text_at]))]
def wp_X_clear (Q : Int32 → Prop)  (fu_text_length : Int32) : Prop := Q 0
abbrev rm_X_clear : Room := { frames := 0, cells := 0, slots := 0, locals := 0 }
set_option maxHeartbeats 4000000 in
set_option maxRecDepth 100000 in
theorem k_X_clear (l : Launch) (dC : Nat → ClassId) (dI : Nat → Nat → Nat) (cI cC cB : ClassId) (sz : Nat) (qu : Nat) (qu_text : Nat) (qu_reading : Nat) (qu_costs : Nat) (qu_result : Nat) (qu_told : Nat) (qu_graph : Nat) (qu_spare : Nat) (qu_text_characters : Nat) (fu_text_length : Int32) (fu_text_at : Int32)  {Q : Int32 → Prop} (h : wp_X_clear Q  fu_text_length) :
    CTv l y_X_clear (wM y_X_clear c_X_clear 1 none) rm_X_clear 0 0 (dC, dI) (tysL cI cC cB) [.ref qu] (W_X_clear cI cC cB qu qu_text qu_reading qu_costs qu_result qu_told qu_graph qu_spare qu_text_characters fu_text_length fu_text_at) sz Q (fun (v : Int32) (b : Unit) => (W_X_clear cI cC cB qu qu_text qu_reading qu_costs qu_result qu_told qu_graph qu_spare qu_text_characters v fu_text_at)) := by
  refine CTv.std (by decide) (Nat.le_of_ble_eq_true rfl) ?_
  intro p e s m args below meth c A ls QF C0 hP hD hl hS hsz hnm hret
  obtain ⟨hx, hb, hr, hml, hown, hts, hlocks, hN, hA, hK⟩ := id C0
  have hown : s.vm.findClass R_X = some m.cls := hown
  have hl : lv_has ls 1 [(0, .ref qu)] := hl
  clear hsz hnm
  unfold wp_X_clear at h
  refine lv_aload_n hx hb d_X_clear_0 rfl (lv_at hl 0 rfl) ?_
  refine va_get (D := (dC, dI)) (ci := 0) (v := .ref qu_text) (C := R_X) (T := T_X) (N := 7) hx hb hts in_X hown hK hP 0 rfl rfl 0 (by decide) (hts _ w_0) (fun _ h9 => h9) rfl d_X_clear_1 ?_
  refine lv_iconst (v := 0) hx hb d_X_clear_4 (by decide) ?_
  refine va_put (D := (dC, dI)) (ci := 1) (v := .int 0) (ty := .int) (C := R_Te) (T := T_Te) (N := 3) hx hb hts in_Te t_Te t_Te_ok n_Te hown hK hP hD hS 1 rfl rfl 1 (by decide) (hts _ w_8) (fun _ h9 => h9) rfl (by decide +kernel) rfl rfl (Nat.le_of_ble_eq_true rfl) d_X_clear_5 (fun H locs hP hD hS => ?_)
  have hP : va_P (dC, dI) cls (W_X_clear cI cC cB qu qu_text qu_reading qu_costs qu_result qu_told qu_graph qu_spare qu_text_characters 0 fu_text_at) H := hP
  have hD : va_D A (W_X_clear cI cC cB qu qu_text qu_reading qu_costs qu_result qu_told qu_graph qu_spare qu_text_characters 0 fu_text_at) := hD
  exact hret 0 () _ _ _ _ h hP hD hS d_X_clear_8
abbrev W_Ar_fill_aII (cI cC cB : ClassId) (qu : Nat) (nu : Nat) (au : Nat → Int32) : va_W := [(qu, .inl (cI, nu, .inl au))]
def w_Ar_fill_aII_5B (Q : (Nat → Int32) → Prop)  (K_5 : Int32 → Int32 → (Nat → Int32) → Prop) (p1 : Int32) (nu : Nat) (x2 : Int32) (x3 : Int32) (au : Nat → Int32) : Prop := ((x3 ≤ x2 → (Q au)) ∧ (¬ x3 ≤ x2 → (vp_in x2 nu ∧ (∀ au_3 : Nat → Int32, au_3 = upd au x2.toNatClampNeg p1 → (∀ x2_4 : Int32, x2_4 = x2 + 1 → (K_5 x2_4 x3 au_3))))))
def w_Ar_fill_aII_5 (Q : (Nat → Int32) → Prop)  (p1 : Int32) (nu : Nat) : Nat → Int32 → Int32 → (Nat → Int32) → Prop
  | 0 => fun _ _ _ => False
  | n + 1 => fun x2 x3 au => w_Ar_fill_aII_5B Q  (w_Ar_fill_aII_5 Q  p1 nu n) p1 nu x2 x3 au
def wp_Ar_fill_aII (Q : (Nat → Int32) → Prop) (p1 : Int32) (nu : Nat) (au : Nat → Int32) : Prop := ∃ fu_5 : Nat, w_Ar_fill_aII_5 Q p1 nu fu_5 0 (Int32.ofNat nu) au
abbrev rm_Ar_fill_aII : Room := { frames := 0, cells := 0, slots := 0, locals := 0 }
set_option maxHeartbeats 4000000 in
set_option maxRecDepth 100000 in
theorem k_Ar_fill_aII (l : Launch) (dC : Nat → ClassId) (dI : Nat → Nat → Nat) (cI cC cB : ClassId) (sz : Nat) (qu : Nat) (nu : Nat) (au : Nat → Int32) (p1 : Int32) {Q : (Nat → Int32) → Prop} (h : wp_Ar_fill_aII Q p1 nu au) :
    CTv l y_Ar_fill_aII (wM y_Ar_fill_aII c_Ar_fill_aII 4 none) rm_Ar_fill_aII 0 0 (dC, dI) (tysL cI cC cB) [.ref qu, .int p1] (W_Ar_fill_aII cI cC cB qu nu au) sz Q (fun (v : (Nat → Int32)) (b : Unit) => (W_Ar_fill_aII cI cC cB qu nu v)) := by
  refine CTv.std (by decide) (Nat.le_of_ble_eq_true rfl) ?_
  intro p e s m args below meth c A ls QF C0 hP hD hl hS hsz hnm hret
  obtain ⟨hx, hb, hr, hml, hown, hts, hlocks, hN, hA, hK⟩ := id C0
  have hown : s.vm.findClass R_Ar = some m.cls := hown
  have hl : lv_has ls 4 [(0, .ref qu), (1, .int p1)] := hl
  clear hsz hnm
  have blk_5 : ∀  (n : Nat) (x2 : Int32) (x3 : Int32) (au : Nat → Int32)  (H : Heap) (locs : List Loc) (ls : Array Slot), w_Ar_fill_aII_5 Q  p1 nu n x2 x3 au → va_P (dC, dI) cls (W_Ar_fill_aII cI cC cB qu nu au) H → va_D A (W_Ar_fill_aII cI cC cB qu nu au) → va_S A s.heap H locs → lv_has ls 4 [(0, .ref qu), (1, .int p1), (2, .int x2), (3, .int x3)] → W p l e rm_Ar_fill_aII s m args below meth c H locs 0 0 QF (F0 m 5 ls []) := by
    intro  n
    induction n with
    | zero => intro x2 x3 au  H locs ls h; exact (show False from h).elim
    | succ n ih =>
      intro x2 x3 au  H locs ls h hP hD hS hl
      have h : w_Ar_fill_aII_5B Q  (w_Ar_fill_aII_5 Q  p1 nu n) p1 nu x2 x3 au := h
      generalize w_Ar_fill_aII_5 Q  p1 nu n = K_5 at h ih
      unfold w_Ar_fill_aII_5B at h
      refine lv_iload_n hx hb d_Ar_fill_aII_5 rfl (lv_at hl 2 rfl) ?_
      refine lv_iload_n hx hb d_Ar_fill_aII_6 rfl (lv_at hl 3 rfl) ?_
      refine lv_icmp_ge (tgt := 20) hx hb d_Ar_fill_aII_7 (by decide) (fun c_1 => ?_) (fun c_1 => ?_)
      · have h := h.1 c_1
        exact hret au () _ _ _ _ h hP hD hS d_Ar_fill_aII_20
      · have h := h.2 c_1
        refine lv_aload_n hx hb d_Ar_fill_aII_10 rfl (lv_at hl 0 rfl) ?_
        refine lv_iload_n hx hb d_Ar_fill_aII_11 rfl (lv_at hl 2 rfl) ?_
        refine lv_iload_n hx hb d_Ar_fill_aII_12 rfl (lv_at hl 1 rfl) ?_
        have hi_2 := h.1
        have h := h.2
        refine va_iast hx hb hK hP hD hS 0 0 rfl rfl hi_2 d_Ar_fill_aII_13 (fun H locs hP hD hS => ?_)
        obtain ⟨au_3, eau_3⟩ : ∃ z : Nat → Int32, z = upd au x2.toNatClampNeg p1 := ⟨_, rfl⟩
        have h := h au_3 eau_3
        have hP : va_P (dC, dI) cls (W_Ar_fill_aII cI cC cB qu nu au_3) H := by rw [eau_3]; exact hP
        have hD : va_D A (W_Ar_fill_aII cI cC cB qu nu au_3) := by rw [eau_3]; exact hD
        obtain ⟨x2_4, ex2_4⟩ : ∃ y : Int32, y = x2 + 1 := ⟨_, rfl⟩
        have h := h x2_4 ex2_4
        refine lv_iinc (v := x2_4) (lv' := [(2, .int x2_4), (0, .ref qu), (1, .int p1), (3, .int x3)]) hx hb d_Ar_fill_aII_14 hl (k := 2) rfl (by rw [ex2_4]; rfl) (by decide) rfl (fun ls hl => ?_)
        refine lv_goto (tgt := 5) hx hb d_Ar_fill_aII_17 (by decide) ?_
        exact ih _ _ _ _ _ _ h hP hD hS (lv_sub hl [1, 2, 0, 3] rfl)
  unfold wp_Ar_fill_aII at h
  refine lv_iconst (v := 0) hx hb d_Ar_fill_aII_0 (by decide) ?_
  refine lv_istore_n (lv' := [(2, .int 0), (0, .ref qu), (1, .int p1)]) hx hb d_Ar_fill_aII_1 rfl hl (by decide) rfl (fun ls hl => ?_)
  refine lv_aload_n hx hb d_Ar_fill_aII_2 rfl (lv_at hl 1 rfl) ?_
  refine va_alen hx hb hK hP 0 0 rfl rfl rfl d_Ar_fill_aII_3 ?_
  refine lv_istore_n (lv' := [(3, .int (Int32.ofNat nu)), (2, .int 0), (0, .ref qu), (1, .int p1)]) hx hb d_Ar_fill_aII_4 rfl hl (by decide) rfl (fun ls hl => ?_)
  obtain ⟨fu_5, h⟩ := h
  exact blk_5  _ _ _ _ _ _ _ h hP hD hS (lv_sub hl [2, 3, 1, 0] rfl)
abbrev W_Gr_forget (cI cC cB : ClassId) (qu : Nat) (qu_followers : Nat) (qu_segmentNames : Nat) (qu_sideStarts : Nat) (qu_placeBases : Nat) (qu_placeSides : Nat) (qu_pathNames : Nat) (qu_stepCounts : Nat) (qu_steps : Nat) (qu_joinFrom : Nat) (qu_joinTo : Nat) (fu_segments : Int32) (fu_links : Int32) (fu_paths : Int32) (fu_places : Int32) (fu_joins : Int32) (au_followers : Nat → Int32) : va_W := [(qu, .inr (5, [.int fu_segments, .int fu_links, .int fu_paths, .int fu_places, .int fu_joins, .ref qu_segmentNames, .ref qu_sideStarts, .ref qu_placeBases, .ref qu_placeSides, .ref qu_followers, .ref qu_pathNames, .ref qu_stepCounts, .ref qu_steps, .ref qu_joinFrom, .ref qu_joinTo])), (qu_followers, .inl (cI, 16, .inl au_followers))]
def wp_Gr_forget (Q : (Int32 × Int32 × Int32 × Int32 × Int32 × (Nat → Int32)) → Prop)  (fu_segments : Int32) (fu_links : Int32) (fu_paths : Int32) (fu_places : Int32) (fu_joins : Int32) (au_followers : Nat → Int32) : Prop := wp_Ar_fill_aII (fun v_1 => Q (0, 0, 0, 0, 0, v_1)) 0 16 au_followers
abbrev rm_Gr_forget : Room := { frames := 1, cells := 0, slots := 0, locals := 23 }
set_option maxHeartbeats 4000000 in
set_option maxRecDepth 100000 in
theorem k_Gr_forget (l : Launch) (dC : Nat → ClassId) (dI : Nat → Nat → Nat) (cI cC cB : ClassId) (sz : Nat) (qu : Nat) (qu_followers : Nat) (qu_segmentNames : Nat) (qu_sideStarts : Nat) (qu_placeBases : Nat) (qu_placeSides : Nat) (qu_pathNames : Nat) (qu_stepCounts : Nat) (qu_steps : Nat) (qu_joinFrom : Nat) (qu_joinTo : Nat) (fu_segments : Int32) (fu_links : Int32) (fu_paths : Int32) (fu_places : Int32) (fu_joins : Int32) (au_followers : Nat → Int32)  {Q : (Int32 × Int32 × Int32 × Int32 × Int32 × (Nat → Int32)) → Prop} (h : wp_Gr_forget Q  fu_segments fu_links fu_paths fu_places fu_joins au_followers) :
    CTv l y_Gr_forget (wM y_Gr_forget c_Gr_forget 1 none) rm_Gr_forget 0 0 (dC, dI) (tysL cI cC cB) [.ref qu] (W_Gr_forget cI cC cB qu qu_followers qu_segmentNames qu_sideStarts qu_placeBases qu_placeSides qu_pathNames qu_stepCounts qu_steps qu_joinFrom qu_joinTo fu_segments fu_links fu_paths fu_places fu_joins au_followers) sz Q (fun (v : Int32 × Int32 × Int32 × Int32 × Int32 × (Nat → Int32)) (b : Unit) => (W_Gr_forget cI cC cB qu qu_followers qu_segmentNames qu_sideStarts qu_placeBases qu_placeSides qu_pathNames qu_stepCounts qu_steps qu_joinFrom qu_joinTo v.1 v.2.1 v.2.2.1 v.2.2.2.1 v.2.2.2.2.1 v.2.2.2.2.2)) := by
  refine CTv.std (by decide) (Nat.le_of_ble_eq_true rfl) ?_
  intro p e s m args below meth c A ls QF C0 hP hD hl hS hsz hnm hret
  obtain ⟨hx, hb, hr, hml, hown, hts, hlocks, hN, hA, hK⟩ := id C0
  have hown : s.vm.findClass R_Gr = some m.cls := hown
  have hl : lv_has ls 1 [(0, .ref qu)] := hl
  clear hsz hnm
  unfold wp_Gr_forget at h
  refine lv_aload_n hx hb d_Gr_forget_0 rfl (lv_at hl 0 rfl) ?_
  refine lv_iconst (v := 0) hx hb d_Gr_forget_1 (by decide) ?_
  refine va_put (D := (dC, dI)) (ci := 5) (v := .int 0) (ty := .int) (C := R_Gr) (T := T_Gr) (N := 15) hx hb hts in_Gr t_Gr t_Gr_ok n_Gr hown hK hP hD hS 0 rfl rfl 0 (by decide) (hts _ w_10) (fun _ h9 => h9) rfl (by decide +kernel) rfl rfl (Nat.le_of_ble_eq_true rfl) d_Gr_forget_2 (fun H locs hP hD hS => ?_)
  have hP : va_P (dC, dI) cls (W_Gr_forget cI cC cB qu qu_followers qu_segmentNames qu_sideStarts qu_placeBases qu_placeSides qu_pathNames qu_stepCounts qu_steps qu_joinFrom qu_joinTo 0 fu_links fu_paths fu_places fu_joins au_followers) H := hP
  have hD : va_D A (W_Gr_forget cI cC cB qu qu_followers qu_segmentNames qu_sideStarts qu_placeBases qu_placeSides qu_pathNames qu_stepCounts qu_steps qu_joinFrom qu_joinTo 0 fu_links fu_paths fu_places fu_joins au_followers) := hD
  refine lv_aload_n hx hb d_Gr_forget_5 rfl (lv_at hl 0 rfl) ?_
  refine lv_iconst (v := 0) hx hb d_Gr_forget_6 (by decide) ?_
  refine va_put (D := (dC, dI)) (ci := 5) (v := .int 0) (ty := .int) (C := R_Gr) (T := T_Gr) (N := 15) hx hb hts in_Gr t_Gr t_Gr_ok n_Gr hown hK hP hD hS 0 rfl rfl 1 (by decide) (hts _ w_11) (fun _ h9 => h9) rfl (by decide +kernel) rfl rfl (Nat.le_of_ble_eq_true rfl) d_Gr_forget_7 (fun H locs hP hD hS => ?_)
  have hP : va_P (dC, dI) cls (W_Gr_forget cI cC cB qu qu_followers qu_segmentNames qu_sideStarts qu_placeBases qu_placeSides qu_pathNames qu_stepCounts qu_steps qu_joinFrom qu_joinTo 0 0 fu_paths fu_places fu_joins au_followers) H := hP
  have hD : va_D A (W_Gr_forget cI cC cB qu qu_followers qu_segmentNames qu_sideStarts qu_placeBases qu_placeSides qu_pathNames qu_stepCounts qu_steps qu_joinFrom qu_joinTo 0 0 fu_paths fu_places fu_joins au_followers) := hD
  refine lv_aload_n hx hb d_Gr_forget_10 rfl (lv_at hl 0 rfl) ?_
  refine lv_iconst (v := 0) hx hb d_Gr_forget_11 (by decide) ?_
  refine va_put (D := (dC, dI)) (ci := 5) (v := .int 0) (ty := .int) (C := R_Gr) (T := T_Gr) (N := 15) hx hb hts in_Gr t_Gr t_Gr_ok n_Gr hown hK hP hD hS 0 rfl rfl 2 (by decide) (hts _ w_12) (fun _ h9 => h9) rfl (by decide +kernel) rfl rfl (Nat.le_of_ble_eq_true rfl) d_Gr_forget_12 (fun H locs hP hD hS => ?_)
  have hP : va_P (dC, dI) cls (W_Gr_forget cI cC cB qu qu_followers qu_segmentNames qu_sideStarts qu_placeBases qu_placeSides qu_pathNames qu_stepCounts qu_steps qu_joinFrom qu_joinTo 0 0 0 fu_places fu_joins au_followers) H := hP
  have hD : va_D A (W_Gr_forget cI cC cB qu qu_followers qu_segmentNames qu_sideStarts qu_placeBases qu_placeSides qu_pathNames qu_stepCounts qu_steps qu_joinFrom qu_joinTo 0 0 0 fu_places fu_joins au_followers) := hD
  refine lv_aload_n hx hb d_Gr_forget_15 rfl (lv_at hl 0 rfl) ?_
  refine lv_iconst (v := 0) hx hb d_Gr_forget_16 (by decide) ?_
  refine va_put (D := (dC, dI)) (ci := 5) (v := .int 0) (ty := .int) (C := R_Gr) (T := T_Gr) (N := 15) hx hb hts in_Gr t_Gr t_Gr_ok n_Gr hown hK hP hD hS 0 rfl rfl 3 (by decide) (hts _ w_13) (fun _ h9 => h9) rfl (by decide +kernel) rfl rfl (Nat.le_of_ble_eq_true rfl) d_Gr_forget_17 (fun H locs hP hD hS => ?_)
  have hP : va_P (dC, dI) cls (W_Gr_forget cI cC cB qu qu_followers qu_segmentNames qu_sideStarts qu_placeBases qu_placeSides qu_pathNames qu_stepCounts qu_steps qu_joinFrom qu_joinTo 0 0 0 0 fu_joins au_followers) H := hP
  have hD : va_D A (W_Gr_forget cI cC cB qu qu_followers qu_segmentNames qu_sideStarts qu_placeBases qu_placeSides qu_pathNames qu_stepCounts qu_steps qu_joinFrom qu_joinTo 0 0 0 0 fu_joins au_followers) := hD
  refine lv_aload_n hx hb d_Gr_forget_20 rfl (lv_at hl 0 rfl) ?_
  refine lv_iconst (v := 0) hx hb d_Gr_forget_21 (by decide) ?_
  refine va_put (D := (dC, dI)) (ci := 5) (v := .int 0) (ty := .int) (C := R_Gr) (T := T_Gr) (N := 15) hx hb hts in_Gr t_Gr t_Gr_ok n_Gr hown hK hP hD hS 0 rfl rfl 4 (by decide) (hts _ w_14) (fun _ h9 => h9) rfl (by decide +kernel) rfl rfl (Nat.le_of_ble_eq_true rfl) d_Gr_forget_22 (fun H locs hP hD hS => ?_)
  have hP : va_P (dC, dI) cls (W_Gr_forget cI cC cB qu qu_followers qu_segmentNames qu_sideStarts qu_placeBases qu_placeSides qu_pathNames qu_stepCounts qu_steps qu_joinFrom qu_joinTo 0 0 0 0 0 au_followers) H := hP
  have hD : va_D A (W_Gr_forget cI cC cB qu qu_followers qu_segmentNames qu_sideStarts qu_placeBases qu_placeSides qu_pathNames qu_stepCounts qu_steps qu_joinFrom qu_joinTo 0 0 0 0 0 au_followers) := hD
  refine lv_aload_n hx hb d_Gr_forget_25 rfl (lv_at hl 0 rfl) ?_
  refine va_get (D := (dC, dI)) (ci := 5) (v := .ref qu_followers) (C := R_Gr) (T := T_Gr) (N := 15) hx hb hts in_Gr hown hK hP 0 rfl rfl 9 (by decide) (hts _ w_15) (fun _ h9 => h9) rfl d_Gr_forget_26 ?_
  refine lv_iconst (v := 0) hx hb d_Gr_forget_29 (by decide) ?_
  refine call_S_v (As := [.ref qu_followers, .int 0]) (rest := []) C0 hP hD hS [1] [0] [0, 1] [(qu, .inr (5, [.int 0, .int 0, .int 0, .int 0, .int 0, .ref qu_segmentNames, .ref qu_sideStarts, .ref qu_placeBases, .ref qu_placeSides, .ref qu_followers, .ref qu_pathNames, .ref qu_stepCounts, .ref qu_steps, .ref qu_joinFrom, .ref qu_joinTo]))] (fun (v : (Nat → Int32)) (b : Unit) => (W_Gr_forget cI cC cB qu qu_followers qu_segmentNames qu_sideStarts qu_placeBases qu_placeSides qu_pathNames qu_stepCounts qu_steps qu_joinFrom qu_joinTo 0 0 0 0 0 v)) (k_Ar_fill_aII l dC dI cI cC cB _ qu_followers 16 au_followers 0 h) (g_S w_17 w_18 w_19 w_16) 2 rfl (by decide +kernel) rfl rfl ⟨Nat.le_of_ble_eq_true rfl, Nat.le_of_ble_eq_true rfl⟩ rfl rfl (by decide) (by decide) (by decide) (by decide) (fun _ _ => rfl) hl.1 rfl (Nat.le_of_ble_eq_true rfl) d_Gr_forget_30 ⟨Nat.le_of_ble_eq_true rfl, Nat.le_of_ble_eq_true rfl⟩ (fun v_1 _ H locs h hP hD hS => ?_)
  have hP : va_P (dC, dI) cls (W_Gr_forget cI cC cB qu qu_followers qu_segmentNames qu_sideStarts qu_placeBases qu_placeSides qu_pathNames qu_stepCounts qu_steps qu_joinFrom qu_joinTo 0 0 0 0 0 v_1) H := hP
  have hD : va_D A (W_Gr_forget cI cC cB qu qu_followers qu_segmentNames qu_sideStarts qu_placeBases qu_placeSides qu_pathNames qu_stepCounts qu_steps qu_joinFrom qu_joinTo 0 0 0 0 0 v_1) := hD
  exact hret (0, 0, 0, 0, 0, v_1) () _ _ _ _ h hP hD hS d_Gr_forget_33
abbrev W_Te_next (cI cC cB : ClassId) (qu : Nat) (qu_characters : Nat) (fu_length : Int32) (fu_at : Int32) (au_characters : Nat → Int32) : va_W := [(qu, .inr (1, [.ref qu_characters, .int fu_length, .int fu_at])), (qu_characters, .inl (cC, 400, .inl au_characters))]
def wp_Te_next (Q : Int32 → Unit → Prop)  (fu_length : Int32) (fu_at : Int32) (au_characters : Nat → Int32) : Prop := ((fu_length ≤ fu_at → (Q 0 ())) ∧ (¬ fu_length ≤ fu_at → (vp_in fu_at 400 ∧ (∀ y_3 : Int32, y_3 = au_characters fu_at.toNatClampNeg → ((narrow .char (.int y_3) = .int y_3 ∧ Q y_3 ()))))))
abbrev rm_Te_next : Room := { frames := 0, cells := 0, slots := 0, locals := 0 }
set_option maxHeartbeats 4000000 in
set_option maxRecDepth 100000 in
theorem k_Te_next (l : Launch) (dC : Nat → ClassId) (dI : Nat → Nat → Nat) (cI cC cB : ClassId) (sz : Nat) (qu : Nat) (qu_characters : Nat) (fu_length : Int32) (fu_at : Int32) (au_characters : Nat → Int32)  {Q : Int32 → Unit → Prop} (h : wp_Te_next Q  fu_length fu_at au_characters) :
    CTi l y_Te_next (wM y_Te_next c_Te_next 1 (some .char)) rm_Te_next 0 0 (dC, dI) (tysL cI cC cB) [.ref qu] (W_Te_next cI cC cB qu qu_characters fu_length fu_at au_characters) sz Q (fun (v : Unit) (b : Unit) => (W_Te_next cI cC cB qu qu_characters fu_length fu_at au_characters)) := by
  refine CTi.std (by decide) (Nat.le_of_ble_eq_true rfl) ?_
  intro p e s m args below meth c A ls QF C0 hP hD hl hS hsz hnm hret
  obtain ⟨hx, hb, hr, hml, hown, hts, hlocks, hN, hA, hK⟩ := id C0
  have hown : s.vm.findClass R_Te = some m.cls := hown
  have hl : lv_has ls 1 [(0, .ref qu)] := hl
  clear hsz hnm
  unfold wp_Te_next at h
  refine lv_aload_n hx hb d_Te_next_0 rfl (lv_at hl 0 rfl) ?_
  refine va_get (D := (dC, dI)) (ci := 1) (v := .int fu_at) (C := R_Te) (T := T_Te) (N := 3) hx hb hts in_Te hown hK hP 0 rfl rfl 2 (by decide) (hts _ w_21) (fun _ h9 => h9) rfl d_Te_next_1 ?_
  refine lv_aload_n hx hb d_Te_next_4 rfl (lv_at hl 0 rfl) ?_
  refine va_get (D := (dC, dI)) (ci := 1) (v := .int fu_length) (C := R_Te) (T := T_Te) (N := 3) hx hb hts in_Te hown hK hP 0 rfl rfl 1 (by decide) (hts _ w_1) (fun _ h9 => h9) rfl d_Te_next_5 ?_
  refine lv_icmp_ge (tgt := 23) hx hb d_Te_next_8 (by decide) (fun c_1 => ?_) (fun c_1 => ?_)
  · have h := h.1 c_1
    refine lv_iconst (v := 0) hx hb d_Te_next_23 (by decide) ?_
    exact hret () () 0 _ _ _ _ rfl h hP hD hS d_Te_next_24
  · have h := h.2 c_1
    refine lv_aload_n hx hb d_Te_next_11 rfl (lv_at hl 0 rfl) ?_
    refine va_get (D := (dC, dI)) (ci := 1) (v := .ref qu_characters) (C := R_Te) (T := T_Te) (N := 3) hx hb hts in_Te hown hK hP 0 rfl rfl 0 (by decide) (hts _ w_2) (fun _ h9 => h9) rfl d_Te_next_12 ?_
    refine lv_aload_n hx hb d_Te_next_15 rfl (lv_at hl 0 rfl) ?_
    refine va_get (D := (dC, dI)) (ci := 1) (v := .int fu_at) (C := R_Te) (T := T_Te) (N := 3) hx hb hts in_Te hown hK hP 0 rfl rfl 2 (by decide) (hts _ w_21) (fun _ h9 => h9) rfl d_Te_next_16 ?_
    have hi_2 := h.1
    have h := h.2
    refine va_cald hx hb hK hP 1 1 rfl rfl hi_2 d_Te_next_19 ?_
    refine lv_topi (fun y_3 ey_3 => ?_)
    have h := h y_3 ey_3
    refine lv_goto (tgt := 24) hx hb d_Te_next_20 (by decide) ?_
    exact hret () () y_3 _ _ _ _ h.1 h.2 hP hD hS d_Te_next_24
abbrev W_Te_takes (cI cC cB : ClassId) (qu : Nat) (qu_characters : Nat) (fu_length : Int32) (fu_at : Int32) (au_characters : Nat → Int32) : va_W := [(qu, .inr (1, [.ref qu_characters, .int fu_length, .int fu_at])), (qu_characters, .inl (cC, 400, .inl au_characters))]
def wp_Te_takes (Q : Int32 → Int32 → Prop) (p1 : Int32) (fu_length : Int32) (fu_at : Int32) (au_characters : Nat → Int32) : Prop := wp_Te_next (fun r_2 v_1 => ((r_2 = p1 → (∀ x_4 : Int32, x_4 = fu_at + 1 → (Q 1 x_4))) ∧ (¬ r_2 = p1 → (Q 0 fu_at)))) fu_length fu_at au_characters
abbrev rm_Te_takes : Room := { frames := 1, cells := 0, slots := 0, locals := 20 }
set_option maxHeartbeats 4000000 in
set_option maxRecDepth 100000 in
theorem k_Te_takes (l : Launch) (dC : Nat → ClassId) (dI : Nat → Nat → Nat) (cI cC cB : ClassId) (sz : Nat) (qu : Nat) (qu_characters : Nat) (fu_length : Int32) (fu_at : Int32) (au_characters : Nat → Int32) (p1 : Int32) {Q : Int32 → Int32 → Prop} (h : wp_Te_takes Q p1 fu_length fu_at au_characters) :
    CTi l y_Te_takes (wM y_Te_takes c_Te_takes 2 (some .boolean)) rm_Te_takes 0 0 (dC, dI) (tysL cI cC cB) [.ref qu, .int p1] (W_Te_takes cI cC cB qu qu_characters fu_length fu_at au_characters) sz Q (fun (v : Int32) (b : Unit) => (W_Te_takes cI cC cB qu qu_characters fu_length v au_characters)) := by
  refine CTi.std (by decide) (Nat.le_of_ble_eq_true rfl) ?_
  intro p e s m args below meth c A ls QF C0 hP hD hl hS hsz hnm hret
  obtain ⟨hx, hb, hr, hml, hown, hts, hlocks, hN, hA, hK⟩ := id C0
  have hown : s.vm.findClass R_Te = some m.cls := hown
  have hl : lv_has ls 2 [(0, .ref qu), (1, .int p1)] := hl
  clear hsz hnm
  unfold wp_Te_takes at h
  refine lv_aload_n hx hb d_Te_takes_0 rfl (lv_at hl 0 rfl) ?_
  refine call_V_i (As := []) (rest := []) C0 hP hD hS [0, 1] [] [0, 1] [] (fun (v : Unit) (b : Unit) => (W_Te_takes cI cC cB qu qu_characters fu_length fu_at au_characters)) (ci := 1) rfl rfl (k_Te_next l dC dI cI cC cB _ qu qu_characters fu_length fu_at au_characters h) (g_V w_23 w_24 w_25 w_7 w_22) 0 rfl (by decide +kernel) rfl rfl ⟨Nat.le_of_ble_eq_true rfl, Nat.le_of_ble_eq_true rfl⟩ rfl rfl (by decide) (by decide) (by decide) (by decide) (fun _ _ => rfl) hl.1 rfl (Nat.le_of_ble_eq_true rfl) d_Te_takes_1 ⟨Nat.le_of_ble_eq_true rfl, Nat.le_of_ble_eq_true rfl⟩ (fun r_2 v_1 _ H locs h hP hD hS => ?_)
  have hP : va_P (dC, dI) cls (W_Te_takes cI cC cB qu qu_characters fu_length fu_at au_characters) H := hP
  have hD : va_D A (W_Te_takes cI cC cB qu qu_characters fu_length fu_at au_characters) := hD
  refine lv_iload_n hx hb d_Te_takes_4 rfl (lv_at hl 1 rfl) ?_
  refine lv_icmp_eq (tgt := 10) hx hb d_Te_takes_5 (by decide) (fun c_3 => ?_) (fun c_3 => ?_)
  · have h := h.1 c_3
    refine lv_aload_n hx hb d_Te_takes_10 rfl (lv_at hl 0 rfl) ?_
    refine lv_dup hx hb d_Te_takes_11 rfl ?_
    refine va_get (D := (dC, dI)) (ci := 1) (v := .int fu_at) (C := R_Te) (T := T_Te) (N := 3) hx hb hts in_Te hown hK hP 0 rfl rfl 2 (by decide) (hts _ w_21) (fun _ h9 => h9) rfl d_Te_takes_12 ?_
    refine lv_iconst (v := 1) hx hb d_Te_takes_15 (by decide) ?_
    refine lv_iadd hx hb d_Te_takes_16 ?_
    refine lv_topi (fun x_4 ex_4 => ?_)
    have h := h x_4 ex_4
    refine va_put (D := (dC, dI)) (ci := 1) (v := .int x_4) (ty := .int) (C := R_Te) (T := T_Te) (N := 3) hx hb hts in_Te t_Te t_Te_ok n_Te hown hK hP hD hS 0 rfl rfl 2 (by decide) (hts _ w_21) (fun _ h9 => h9) rfl (by decide +kernel) rfl rfl (Nat.le_of_ble_eq_true rfl) d_Te_takes_17 (fun H locs hP hD hS => ?_)
    have hP : va_P (dC, dI) cls (W_Te_takes cI cC cB qu qu_characters fu_length x_4 au_characters) H := hP
    have hD : va_D A (W_Te_takes cI cC cB qu qu_characters fu_length x_4 au_characters) := hD
    refine lv_iconst (v := 1) hx hb d_Te_takes_20 (by decide) ?_
    exact hret x_4 () 1 _ _ _ _ rfl h hP hD hS d_Te_takes_21
  · have h := h.2 c_3
    refine lv_iconst (v := 0) hx hb d_Te_takes_8 (by decide) ?_
    exact hret fu_at () 0 _ _ _ _ rfl h hP hD hS d_Te_takes_9
abbrev W_Te_takesRestOfLine (cI cC cB : ClassId) (qu : Nat) (qu_characters : Nat) (fu_length : Int32) (fu_at : Int32) (au_characters : Nat → Int32) : va_W := [(qu, .inr (1, [.ref qu_characters, .int fu_length, .int fu_at])), (qu_characters, .inl (cC, 400, .inl au_characters))]
def w_Te_takesRestOfLine_38 (Q : Int32 → Int32 → Prop)  (fu_length : Int32) (au_characters : Nat → Int32) (fu_at : Int32) : Prop := wp_Te_takes (fun r_2 v_1 => (narrow .boolean (.int r_2) = .int r_2 ∧ Q r_2 v_1)) 10 fu_length fu_at au_characters
def w_Te_takesRestOfLine_0B (Q : Int32 → Int32 → Prop)  (K_0 : Int32 → Prop) (fu_length : Int32) (au_characters : Nat → Int32) (fu_at : Int32) : Prop := ((fu_length ≤ fu_at → (w_Te_takesRestOfLine_38 Q fu_length au_characters fu_at)) ∧ (¬ fu_length ≤ fu_at → (vp_in fu_at 400 ∧ (∀ y_5 : Int32, y_5 = au_characters fu_at.toNatClampNeg → (((y_5 = 10 → (w_Te_takesRestOfLine_38 Q fu_length au_characters fu_at)) ∧ (¬ y_5 = 10 → (∀ x_7 : Int32, x_7 = fu_at + 1 → (K_0 x_7)))))))))
def w_Te_takesRestOfLine_0 (Q : Int32 → Int32 → Prop)  (fu_length : Int32) (au_characters : Nat → Int32) : Nat → Int32 → Prop
  | 0 => fun _ => False
  | n + 1 => fun fu_at => w_Te_takesRestOfLine_0B Q  (w_Te_takesRestOfLine_0 Q  fu_length au_characters n) fu_length au_characters fu_at
def wp_Te_takesRestOfLine (Q : Int32 → Int32 → Prop)  (fu_length : Int32) (fu_at : Int32) (au_characters : Nat → Int32) : Prop := ∃ fu_0 : Nat, w_Te_takesRestOfLine_0 Q fu_length au_characters fu_0 fu_at
abbrev rm_Te_takesRestOfLine : Room := { frames := 2, cells := 0, slots := 0, locals := 41 }
set_option maxHeartbeats 4000000 in
set_option maxRecDepth 100000 in
theorem k_Te_takesRestOfLine (l : Launch) (dC : Nat → ClassId) (dI : Nat → Nat → Nat) (cI cC cB : ClassId) (sz : Nat) (qu : Nat) (qu_characters : Nat) (fu_length : Int32) (fu_at : Int32) (au_characters : Nat → Int32)  {Q : Int32 → Int32 → Prop} (h : wp_Te_takesRestOfLine Q  fu_length fu_at au_characters) :
    CTi l y_Te_takesRestOfLine (wM y_Te_takesRestOfLine c_Te_takesRestOfLine 1 (some .boolean)) rm_Te_takesRestOfLine 0 0 (dC, dI) (tysL cI cC cB) [.ref qu] (W_Te_takesRestOfLine cI cC cB qu qu_characters fu_length fu_at au_characters) sz Q (fun (v : Int32) (b : Unit) => (W_Te_takesRestOfLine cI cC cB qu qu_characters fu_length v au_characters)) := by
  refine CTi.std (by decide) (Nat.le_of_ble_eq_true rfl) ?_
  intro p e s m args below meth c A ls QF C0 hP hD hl hS hsz hnm hret
  obtain ⟨hx, hb, hr, hml, hown, hts, hlocks, hN, hA, hK⟩ := id C0
  have hown : s.vm.findClass R_Te = some m.cls := hown
  have hl : lv_has ls 1 [(0, .ref qu)] := hl
  clear hsz hnm
  have blk_38 : ∀  (fu_at : Int32)  (H : Heap) (locs : List Loc) (ls : Array Slot), w_Te_takesRestOfLine_38 Q  fu_length au_characters fu_at → va_P (dC, dI) cls (W_Te_takesRestOfLine cI cC cB qu qu_characters fu_length fu_at au_characters) H → va_D A (W_Te_takesRestOfLine cI cC cB qu qu_characters fu_length fu_at au_characters) → va_S A s.heap H locs → lv_has ls 1 [(0, .ref qu)] → W p l e rm_Te_takesRestOfLine s m args below meth c H locs 0 0 QF (F0 m 38 ls []) := by
    intro  fu_at  H locs ls h hP hD hS hl
    unfold w_Te_takesRestOfLine_38 at h
    refine lv_aload_n hx hb d_Te_takesRestOfLine_38 rfl (lv_at hl 0 rfl) ?_
    refine lv_bipush (v := 10) hx hb d_Te_takesRestOfLine_39 (by decide) ?_
    refine call_V_i (As := [.int 10]) (rest := []) C0 hP hD hS [0, 1] [] [0, 1] [] (fun (v : Int32) (b : Unit) => (W_Te_takesRestOfLine cI cC cB qu qu_characters fu_length v au_characters)) (ci := 1) rfl rfl (k_Te_takes l dC dI cI cC cB _ qu qu_characters fu_length fu_at au_characters 10 h) (g_V w_101 w_28 w_29 w_7 w_26) 1 rfl (by decide +kernel) rfl rfl ⟨Nat.le_of_ble_eq_true rfl, Nat.le_of_ble_eq_true rfl⟩ rfl rfl (by decide) (by decide) (by decide) (by decide) (fun _ _ => rfl) hl.1 rfl (Nat.le_of_ble_eq_true rfl) d_Te_takesRestOfLine_41 ⟨Nat.le_of_ble_eq_true rfl, Nat.le_of_ble_eq_true rfl⟩ (fun r_2 v_1 _ H locs h hP hD hS => ?_)
    have hP : va_P (dC, dI) cls (W_Te_takesRestOfLine cI cC cB qu qu_characters fu_length v_1 au_characters) H := hP
    have hD : va_D A (W_Te_takesRestOfLine cI cC cB qu qu_characters fu_length v_1 au_characters) := hD
    exact hret v_1 () r_2 _ _ _ _ h.1 h.2 hP hD hS d_Te_takesRestOfLine_44
  have blk_0 : ∀  (n : Nat) (fu_at : Int32)  (H : Heap) (locs : List Loc) (ls : Array Slot), w_Te_takesRestOfLine_0 Q  fu_length au_characters n fu_at → va_P (dC, dI) cls (W_Te_takesRestOfLine cI cC cB qu qu_characters fu_length fu_at au_characters) H → va_D A (W_Te_takesRestOfLine cI cC cB qu qu_characters fu_length fu_at au_characters) → va_S A s.heap H locs → lv_has ls 1 [(0, .ref qu)] → W p l e rm_Te_takesRestOfLine s m args below meth c H locs 0 0 QF (F0 m 0 ls []) := by
    intro  n
    induction n with
    | zero => intro fu_at  H locs ls h; exact (show False from h).elim
    | succ n ih =>
      intro fu_at  H locs ls h hP hD hS hl
      have h : w_Te_takesRestOfLine_0B Q  (w_Te_takesRestOfLine_0 Q  fu_length au_characters n) fu_length au_characters fu_at := h
      generalize w_Te_takesRestOfLine_0 Q  fu_length au_characters n = K_0 at h ih
      unfold w_Te_takesRestOfLine_0B at h
      refine lv_aload_n hx hb d_Te_takesRestOfLine_0 rfl (lv_at hl 0 rfl) ?_
      refine va_get (D := (dC, dI)) (ci := 1) (v := .int fu_at) (C := R_Te) (T := T_Te) (N := 3) hx hb hts in_Te hown hK hP 0 rfl rfl 2 (by decide) (hts _ w_21) (fun _ h9 => h9) rfl d_Te_takesRestOfLine_1 ?_
      refine lv_aload_n hx hb d_Te_takesRestOfLine_4 rfl (lv_at hl 0 rfl) ?_
      refine va_get (D := (dC, dI)) (ci := 1) (v := .int fu_length) (C := R_Te) (T := T_Te) (N := 3) hx hb hts in_Te hown hK hP 0 rfl rfl 1 (by decide) (hts _ w_1) (fun _ h9 => h9) rfl d_Te_takesRestOfLine_5 ?_
      refine lv_icmp_ge (tgt := 38) hx hb d_Te_takesRestOfLine_8 (by decide) (fun c_3 => ?_) (fun c_3 => ?_)
      · have h := h.1 c_3
        exact blk_38  _ _ _ _ h hP hD hS (lv_sub hl [0] rfl)
      · have h := h.2 c_3
        refine lv_aload_n hx hb d_Te_takesRestOfLine_11 rfl (lv_at hl 0 rfl) ?_
        refine va_get (D := (dC, dI)) (ci := 1) (v := .ref qu_characters) (C := R_Te) (T := T_Te) (N := 3) hx hb hts in_Te hown hK hP 0 rfl rfl 0 (by decide) (hts _ w_2) (fun _ h9 => h9) rfl d_Te_takesRestOfLine_12 ?_
        refine lv_aload_n hx hb d_Te_takesRestOfLine_15 rfl (lv_at hl 0 rfl) ?_
        refine va_get (D := (dC, dI)) (ci := 1) (v := .int fu_at) (C := R_Te) (T := T_Te) (N := 3) hx hb hts in_Te hown hK hP 0 rfl rfl 2 (by decide) (hts _ w_21) (fun _ h9 => h9) rfl d_Te_takesRestOfLine_16 ?_
        have hi_4 := h.1
        have h := h.2
        refine va_cald hx hb hK hP 1 1 rfl rfl hi_4 d_Te_takesRestOfLine_19 ?_
        refine lv_topi (fun y_5 ey_5 => ?_)
        have h := h y_5 ey_5
        refine lv_bipush (v := 10) hx hb d_Te_takesRestOfLine_20 (by decide) ?_
        refine lv_icmp_eq (tgt := 38) hx hb d_Te_takesRestOfLine_22 (by decide) (fun c_6 => ?_) (fun c_6 => ?_)
        · have h := h.1 c_6
          exact blk_38  _ _ _ _ h hP hD hS (lv_sub hl [0] rfl)
        · have h := h.2 c_6
          refine lv_aload_n hx hb d_Te_takesRestOfLine_25 rfl (lv_at hl 0 rfl) ?_
          refine lv_dup hx hb d_Te_takesRestOfLine_26 rfl ?_
          refine va_get (D := (dC, dI)) (ci := 1) (v := .int fu_at) (C := R_Te) (T := T_Te) (N := 3) hx hb hts in_Te hown hK hP 0 rfl rfl 2 (by decide) (hts _ w_21) (fun _ h9 => h9) rfl d_Te_takesRestOfLine_27 ?_
          refine lv_iconst (v := 1) hx hb d_Te_takesRestOfLine_30 (by decide) ?_
          refine lv_iadd hx hb d_Te_takesRestOfLine_31 ?_
          refine lv_topi (fun x_7 ex_7 => ?_)
          have h := h x_7 ex_7
          refine va_put (D := (dC, dI)) (ci := 1) (v := .int x_7) (ty := .int) (C := R_Te) (T := T_Te) (N := 3) hx hb hts in_Te t_Te t_Te_ok n_Te hown hK hP hD hS 0 rfl rfl 2 (by decide) (hts _ w_21) (fun _ h9 => h9) rfl (by decide +kernel) rfl rfl (Nat.le_of_ble_eq_true rfl) d_Te_takesRestOfLine_32 (fun H locs hP hD hS => ?_)
          have hP : va_P (dC, dI) cls (W_Te_takesRestOfLine cI cC cB qu qu_characters fu_length x_7 au_characters) H := hP
          have hD : va_D A (W_Te_takesRestOfLine cI cC cB qu qu_characters fu_length x_7 au_characters) := hD
          refine lv_goto (tgt := 0) hx hb d_Te_takesRestOfLine_35 (by decide) ?_
          exact ih _ _ _ _ h hP hD hS (lv_sub hl [0] rfl)
  unfold wp_Te_takesRestOfLine at h
  obtain ⟨fu_0, h⟩ := h
  exact blk_0  _ _ _ _ _ h hP hD hS (lv_sub hl [0] rfl)
def w_X_isOfName_24 (Q : Int32 → Unit → Prop)    : Prop := Q 1 ()
def w_X_isOfName_12 (Q : Int32 → Unit → Prop)  (p0 : Int32)  : Prop := ((p0 < 48 → (Q 0 ())) ∧ (¬ p0 < 48 → (((57 < p0 → (Q 0 ())) ∧ (¬ 57 < p0 → (w_X_isOfName_24 Q  ))))))
def wp_X_isOfName (Q : Int32 → Unit → Prop) (p0 : Int32)  : Prop := ((p0 < 97 → (w_X_isOfName_12 Q p0 )) ∧ (¬ p0 < 97 → (((p0 ≤ 122 → (w_X_isOfName_24 Q  )) ∧ (¬ p0 ≤ 122 → (w_X_isOfName_12 Q p0 ))))))
abbrev rm_X_isOfName : Room := { frames := 0, cells := 0, slots := 0, locals := 0 }
set_option maxHeartbeats 4000000 in
set_option maxRecDepth 100000 in
theorem k_X_isOfName (l : Launch) (dC : Nat → ClassId) (dI : Nat → Nat → Nat) (cI cC cB : ClassId) (sz : Nat)   (p0 : Int32) {Q : Int32 → Unit → Prop} (h : wp_X_isOfName Q p0 ) :
    CTi l y_X_isOfName (wM y_X_isOfName c_X_isOfName 1 (some .boolean)) rm_X_isOfName 0 0 (dC, dI) (tysL cI cC cB) [.int p0] [] sz Q (fun (v : Unit) (b : Unit) => []) := by
  refine CTi.std (by decide) (Nat.le_of_ble_eq_true rfl) ?_
  intro p e s m args below meth c A ls QF C0 hP hD hl hS hsz hnm hret
  obtain ⟨hx, hb, hr, hml, hown, hts, hlocks, hN, hA, hK⟩ := id C0
  have hown : s.vm.findClass R_X = some m.cls := hown
  have hl : lv_has ls 1 [(0, .int p0)] := hl
  clear hsz hnm
  have blk_24 : ∀    (H : Heap) (locs : List Loc) (ls : Array Slot), w_X_isOfName_24 Q    → va_P (dC, dI) cls [] H → va_D A [] → va_S A s.heap H locs → lv_has ls 1 [] → W p l e rm_X_isOfName s m args below meth c H locs 0 0 QF (F0 m 24 ls []) := by
    intro    H locs ls h hP hD hS hl
    unfold w_X_isOfName_24 at h
    refine lv_iconst (v := 1) hx hb d_X_isOfName_24 (by decide) ?_
    refine lv_goto (tgt := 29) hx hb d_X_isOfName_25 (by decide) ?_
    exact hret () () 1 _ _ _ _ rfl h hP hD hS d_X_isOfName_29
  have blk_12 : ∀    (H : Heap) (locs : List Loc) (ls : Array Slot), w_X_isOfName_12 Q  p0  → va_P (dC, dI) cls [] H → va_D A [] → va_S A s.heap H locs → lv_has ls 1 [(0, .int p0)] → W p l e rm_X_isOfName s m args below meth c H locs 0 0 QF (F0 m 12 ls []) := by
    intro    H locs ls h hP hD hS hl
    unfold w_X_isOfName_12 at h
    refine lv_iload_n hx hb d_X_isOfName_12 rfl (lv_at hl 0 rfl) ?_
    refine lv_bipush (v := 48) hx hb d_X_isOfName_13 (by decide) ?_
    refine lv_icmp_lt (tgt := 28) hx hb d_X_isOfName_15 (by decide) (fun c_1 => ?_) (fun c_1 => ?_)
    · have h := h.1 c_1
      refine lv_iconst (v := 0) hx hb d_X_isOfName_28 (by decide) ?_
      exact hret () () 0 _ _ _ _ rfl h hP hD hS d_X_isOfName_29
    · have h := h.2 c_1
      refine lv_iload_n hx hb d_X_isOfName_18 rfl (lv_at hl 0 rfl) ?_
      refine lv_bipush (v := 57) hx hb d_X_isOfName_19 (by decide) ?_
      refine lv_icmp_gt (tgt := 28) hx hb d_X_isOfName_21 (by decide) (fun c_2 => ?_) (fun c_2 => ?_)
      · have h := h.1 c_2
        refine lv_iconst (v := 0) hx hb d_X_isOfName_28 (by decide) ?_
        exact hret () () 0 _ _ _ _ rfl h hP hD hS d_X_isOfName_29
      · have h := h.2 c_2
        exact blk_24  _ _ _ h hP hD hS (lv_sub hl [] rfl)
  unfold wp_X_isOfName at h
  refine lv_iload_n hx hb d_X_isOfName_0 rfl (lv_at hl 0 rfl) ?_
  refine lv_bipush (v := 97) hx hb d_X_isOfName_1 (by decide) ?_
  refine lv_icmp_lt (tgt := 12) hx hb d_X_isOfName_3 (by decide) (fun c_3 => ?_) (fun c_3 => ?_)
  · have h := h.1 c_3
    exact blk_12  _ _ _ h hP hD hS (lv_sub hl [0] rfl)
  · have h := h.2 c_3
    refine lv_iload_n hx hb d_X_isOfName_6 rfl (lv_at hl 0 rfl) ?_
    refine lv_bipush (v := 122) hx hb d_X_isOfName_7 (by decide) ?_
    refine lv_icmp_le (tgt := 24) hx hb d_X_isOfName_9 (by decide) (fun c_4 => ?_) (fun c_4 => ?_)
    · have h := h.1 c_4
      exact blk_24  _ _ _ h hP hD hS (lv_sub hl [] rfl)
    · have h := h.2 c_4
      exact blk_12  _ _ _ h hP hD hS (lv_sub hl [0] rfl)
abbrev W_Te_takeName (cI cC cB : ClassId) (qu : Nat) (qu_characters : Nat) (fu_length : Int32) (fu_at : Int32) (au_characters : Nat → Int32) : va_W := [(qu, .inr (1, [.ref qu_characters, .int fu_length, .int fu_at])), (qu_characters, .inl (cC, 400, .inl au_characters))]
def w_Te_takeName_4B (Q : Int32 → Int32 → Prop)  (K_4 : Int32 → Int32 → Int32 → Prop) (fu_length : Int32) (au_characters : Nat → Int32) (x1 : Int32) (x2 : Int32) (fu_at : Int32) : Prop := ((3 ≤ x2 → (Q x1 fu_at)) ∧ (¬ 3 ≤ x2 → (wp_Te_next (fun r_3 v_2 => wp_X_isOfName (fun r_5 v_4 => ((r_5 = 0 → (Q x1 fu_at)) ∧ (¬ r_5 = 0 → (∀ x_7 : Int32, x_7 = x1 * 128 → (wp_Te_next (fun r_9 v_8 => ∀ x_10 : Int32, x_10 = x_7 + r_9 → (∀ x_11 : Int32, x_11 = fu_at + 1 → (∀ x2_12 : Int32, x2_12 = x2 + 1 → (K_4 x_10 x2_12 x_11)))) fu_length fu_at au_characters))))) r_3) fu_length fu_at au_characters)))
def w_Te_takeName_4 (Q : Int32 → Int32 → Prop)  (fu_length : Int32) (au_characters : Nat → Int32) : Nat → Int32 → Int32 → Int32 → Prop
  | 0 => fun _ _ _ => False
  | n + 1 => fun x1 x2 fu_at => w_Te_takeName_4B Q  (w_Te_takeName_4 Q  fu_length au_characters n) fu_length au_characters x1 x2 fu_at
def wp_Te_takeName (Q : Int32 → Int32 → Prop)  (fu_length : Int32) (fu_at : Int32) (au_characters : Nat → Int32) : Prop := ∃ fu_4 : Nat, w_Te_takeName_4 Q fu_length au_characters fu_4 0 0 fu_at
abbrev rm_Te_takeName : Room := { frames := 1, cells := 0, slots := 0, locals := 20 }
set_option maxHeartbeats 4000000 in
set_option maxRecDepth 100000 in
theorem k_Te_takeName (l : Launch) (dC : Nat → ClassId) (dI : Nat → Nat → Nat) (cI cC cB : ClassId) (sz : Nat) (qu : Nat) (qu_characters : Nat) (fu_length : Int32) (fu_at : Int32) (au_characters : Nat → Int32)  {Q : Int32 → Int32 → Prop} (h : wp_Te_takeName Q  fu_length fu_at au_characters) :
    CTi l y_Te_takeName (wM y_Te_takeName c_Te_takeName 3 (some .int)) rm_Te_takeName 0 0 (dC, dI) (tysL cI cC cB) [.ref qu] (W_Te_takeName cI cC cB qu qu_characters fu_length fu_at au_characters) sz Q (fun (v : Int32) (b : Unit) => (W_Te_takeName cI cC cB qu qu_characters fu_length v au_characters)) := by
  refine CTi.std (by decide) (Nat.le_of_ble_eq_true rfl) ?_
  intro p e s m args below meth c A ls QF C0 hP hD hl hS hsz hnm hret
  obtain ⟨hx, hb, hr, hml, hown, hts, hlocks, hN, hA, hK⟩ := id C0
  have hown : s.vm.findClass R_Te = some m.cls := hown
  have hl : lv_has ls 3 [(0, .ref qu)] := hl
  clear hsz hnm
  have blk_4 : ∀  (n : Nat) (x1 : Int32) (x2 : Int32) (fu_at : Int32)  (H : Heap) (locs : List Loc) (ls : Array Slot), w_Te_takeName_4 Q  fu_length au_characters n x1 x2 fu_at → va_P (dC, dI) cls (W_Te_takeName cI cC cB qu qu_characters fu_length fu_at au_characters) H → va_D A (W_Te_takeName cI cC cB qu qu_characters fu_length fu_at au_characters) → va_S A s.heap H locs → lv_has ls 3 [(0, .ref qu), (1, .int x1), (2, .int x2)] → W p l e rm_Te_takeName s m args below meth c H locs 0 0 QF (F0 m 4 ls []) := by
    intro  n
    induction n with
    | zero => intro x1 x2 fu_at  H locs ls h; exact (show False from h).elim
    | succ n ih =>
      intro x1 x2 fu_at  H locs ls h hP hD hS hl
      have h : w_Te_takeName_4B Q  (w_Te_takeName_4 Q  fu_length au_characters n) fu_length au_characters x1 x2 fu_at := h
      generalize w_Te_takeName_4 Q  fu_length au_characters n = K_4 at h ih
      unfold w_Te_takeName_4B at h
      refine lv_iload_n hx hb d_Te_takeName_4 rfl (lv_at hl 2 rfl) ?_
      refine lv_iconst (v := 3) hx hb d_Te_takeName_5 (by decide) ?_
      refine lv_icmp_ge (tgt := 46) hx hb d_Te_takeName_6 (by decide) (fun c_1 => ?_) (fun c_1 => ?_)
      · have h := h.1 c_1
        refine lv_iload_n hx hb d_Te_takeName_46 rfl (lv_at hl 1 rfl) ?_
        exact hret fu_at () x1 _ _ _ _ rfl h hP hD hS d_Te_takeName_47
      · have h := h.2 c_1
        refine lv_aload_n hx hb d_Te_takeName_9 rfl (lv_at hl 0 rfl) ?_
        refine call_V_i (As := []) (rest := []) C0 hP hD hS [0, 1] [] [0, 1] [] (fun (v : Unit) (b : Unit) => (W_Te_takeName cI cC cB qu qu_characters fu_length fu_at au_characters)) (ci := 1) rfl rfl (k_Te_next l dC dI cI cC cB _ qu qu_characters fu_length fu_at au_characters h) (g_V w_23 w_24 w_25 w_7 w_22) 0 rfl (by decide +kernel) rfl rfl ⟨Nat.le_of_ble_eq_true rfl, Nat.le_of_ble_eq_true rfl⟩ rfl rfl (by decide) (by decide) (by decide) (by decide) (fun _ _ => rfl) hl.1 rfl (Nat.le_of_ble_eq_true rfl) d_Te_takeName_10 ⟨Nat.le_of_ble_eq_true rfl, Nat.le_of_ble_eq_true rfl⟩ (fun r_3 v_2 _ H locs h hP hD hS => ?_)
        have hP : va_P (dC, dI) cls (W_Te_takeName cI cC cB qu qu_characters fu_length fu_at au_characters) H := hP
        have hD : va_D A (W_Te_takeName cI cC cB qu qu_characters fu_length fu_at au_characters) := hD
        refine call_SN_i (As := [.int r_3]) (rest := []) C0 hP hD hS [] [0, 1] [0, 1] [(qu, .inr (1, [.ref qu_characters, .int fu_length, .int fu_at])), (qu_characters, .inl (cC, 400, .inl au_characters))] (fun (v : Unit) (b : Unit) => (W_Te_takeName cI cC cB qu qu_characters fu_length fu_at au_characters)) (k_X_isOfName l dC dI cI cC cB _ r_3 h) (host := R_X) (List.mem_of_getElem? (i := 5) rfl) w_35 w_33 w_34 1 rfl (by decide +kernel) rfl rfl ⟨Nat.le_of_ble_eq_true rfl, Nat.le_of_ble_eq_true rfl⟩ rfl rfl (by decide) (by decide) (by decide) (by decide) (fun _ _ => rfl) hl.1 rfl (Nat.le_of_ble_eq_true rfl) d_Te_takeName_13 ⟨Nat.le_of_ble_eq_true rfl, Nat.le_of_ble_eq_true rfl⟩ (fun r_5 v_4 _ H locs h hP hD hS => ?_)
        have hP : va_P (dC, dI) cls (W_Te_takeName cI cC cB qu qu_characters fu_length fu_at au_characters) H := hP
        have hD : va_D A (W_Te_takeName cI cC cB qu qu_characters fu_length fu_at au_characters) := hD
        refine lv_if_eq (tgt := 46) hx hb d_Te_takeName_16 (by decide) (fun c_6 => ?_) (fun c_6 => ?_)
        · have h := h.1 c_6
          refine lv_iload_n hx hb d_Te_takeName_46 rfl (lv_at hl 1 rfl) ?_
          exact hret fu_at () x1 _ _ _ _ rfl h hP hD hS d_Te_takeName_47
        · have h := h.2 c_6
          refine lv_iload_n hx hb d_Te_takeName_19 rfl (lv_at hl 1 rfl) ?_
          refine lv_sipush (v := 128) hx hb d_Te_takeName_20 (by decide) ?_
          refine lv_imul hx hb d_Te_takeName_23 ?_
          refine lv_topi (fun x_7 ex_7 => ?_)
          have h := h x_7 ex_7
          refine lv_aload_n hx hb d_Te_takeName_24 rfl (lv_at hl 0 rfl) ?_
          refine call_V_i (As := []) (rest := [.int x_7]) C0 hP hD hS [0, 1] [] [0, 1] [] (fun (v : Unit) (b : Unit) => (W_Te_takeName cI cC cB qu qu_characters fu_length fu_at au_characters)) (ci := 1) rfl rfl (k_Te_next l dC dI cI cC cB _ qu qu_characters fu_length fu_at au_characters h) (g_V w_23 w_24 w_25 w_7 w_22) 0 rfl (by decide +kernel) rfl rfl ⟨Nat.le_of_ble_eq_true rfl, Nat.le_of_ble_eq_true rfl⟩ rfl rfl (by decide) (by decide) (by decide) (by decide) (fun _ _ => rfl) hl.1 rfl (Nat.le_of_ble_eq_true rfl) d_Te_takeName_25 ⟨Nat.le_of_ble_eq_true rfl, Nat.le_of_ble_eq_true rfl⟩ (fun r_9 v_8 _ H locs h hP hD hS => ?_)
          have hP : va_P (dC, dI) cls (W_Te_takeName cI cC cB qu qu_characters fu_length fu_at au_characters) H := hP
          have hD : va_D A (W_Te_takeName cI cC cB qu qu_characters fu_length fu_at au_characters) := hD
          refine lv_iadd hx hb d_Te_takeName_28 ?_
          refine lv_topi (fun x_10 ex_10 => ?_)
          have h := h x_10 ex_10
          refine lv_istore_n (lv' := [(1, .int x_10), (0, .ref qu), (2, .int x2)]) hx hb d_Te_takeName_29 rfl hl (by decide) rfl (fun ls hl => ?_)
          refine lv_aload_n hx hb d_Te_takeName_30 rfl (lv_at hl 1 rfl) ?_
          refine lv_dup hx hb d_Te_takeName_31 rfl ?_
          refine va_get (D := (dC, dI)) (ci := 1) (v := .int fu_at) (C := R_Te) (T := T_Te) (N := 3) hx hb hts in_Te hown hK hP 0 rfl rfl 2 (by decide) (hts _ w_21) (fun _ h9 => h9) rfl d_Te_takeName_32 ?_
          refine lv_iconst (v := 1) hx hb d_Te_takeName_35 (by decide) ?_
          refine lv_iadd hx hb d_Te_takeName_36 ?_
          refine lv_topi (fun x_11 ex_11 => ?_)
          have h := h x_11 ex_11
          refine va_put (D := (dC, dI)) (ci := 1) (v := .int x_11) (ty := .int) (C := R_Te) (T := T_Te) (N := 3) hx hb hts in_Te t_Te t_Te_ok n_Te hown hK hP hD hS 0 rfl rfl 2 (by decide) (hts _ w_21) (fun _ h9 => h9) rfl (by decide +kernel) rfl rfl (Nat.le_of_ble_eq_true rfl) d_Te_takeName_37 (fun H locs hP hD hS => ?_)
          have hP : va_P (dC, dI) cls (W_Te_takeName cI cC cB qu qu_characters fu_length x_11 au_characters) H := hP
          have hD : va_D A (W_Te_takeName cI cC cB qu qu_characters fu_length x_11 au_characters) := hD
          obtain ⟨x2_12, ex2_12⟩ : ∃ y : Int32, y = x2 + 1 := ⟨_, rfl⟩
          have h := h x2_12 ex2_12
          refine lv_iinc (v := x2_12) (lv' := [(2, .int x2_12), (1, .int x_10), (0, .ref qu)]) hx hb d_Te_takeName_40 hl (k := 2) rfl (by rw [ex2_12]; rfl) (by decide) rfl (fun ls hl => ?_)
          refine lv_goto (tgt := 4) hx hb d_Te_takeName_43 (by decide) ?_
          exact ih _ _ _ _ _ _ h hP hD hS (lv_sub hl [2, 1, 0] rfl)
  unfold wp_Te_takeName at h
  refine lv_iconst (v := 0) hx hb d_Te_takeName_0 (by decide) ?_
  refine lv_istore_n (lv' := [(1, .int 0), (0, .ref qu)]) hx hb d_Te_takeName_1 rfl hl (by decide) rfl (fun ls hl => ?_)
  refine lv_iconst (v := 0) hx hb d_Te_takeName_2 (by decide) ?_
  refine lv_istore_n (lv' := [(2, .int 0), (1, .int 0), (0, .ref qu)]) hx hb d_Te_takeName_3 rfl hl (by decide) rfl (fun ls hl => ?_)
  obtain ⟨fu_4, h⟩ := h
  exact blk_4  _ _ _ _ _ _ _ h hP hD hS (lv_sub hl [2, 1, 0] rfl)
def w_X_isBase_24 (Q : Int32 → Unit → Prop)    : Prop := Q 1 ()
def wp_X_isBase (Q : Int32 → Unit → Prop) (p0 : Int32)  : Prop := ((p0 = 65 → (w_X_isBase_24 Q  )) ∧ (¬ p0 = 65 → (((p0 = 67 → (w_X_isBase_24 Q  )) ∧ (¬ p0 = 67 → (((p0 = 71 → (w_X_isBase_24 Q  )) ∧ (¬ p0 = 71 → (((p0 = 84 → (w_X_isBase_24 Q  )) ∧ (¬ p0 = 84 → (Q 0 ()))))))))))))
abbrev rm_X_isBase : Room := { frames := 0, cells := 0, slots := 0, locals := 0 }
set_option maxHeartbeats 4000000 in
set_option maxRecDepth 100000 in
theorem k_X_isBase (l : Launch) (dC : Nat → ClassId) (dI : Nat → Nat → Nat) (cI cC cB : ClassId) (sz : Nat)   (p0 : Int32) {Q : Int32 → Unit → Prop} (h : wp_X_isBase Q p0 ) :
    CTi l y_X_isBase (wM y_X_isBase c_X_isBase 1 (some .boolean)) rm_X_isBase 0 0 (dC, dI) (tysL cI cC cB) [.int p0] [] sz Q (fun (v : Unit) (b : Unit) => []) := by
  refine CTi.std (by decide) (Nat.le_of_ble_eq_true rfl) ?_
  intro p e s m args below meth c A ls QF C0 hP hD hl hS hsz hnm hret
  obtain ⟨hx, hb, hr, hml, hown, hts, hlocks, hN, hA, hK⟩ := id C0
  have hown : s.vm.findClass R_X = some m.cls := hown
  have hl : lv_has ls 1 [(0, .int p0)] := hl
  clear hsz hnm
  have blk_24 : ∀    (H : Heap) (locs : List Loc) (ls : Array Slot), w_X_isBase_24 Q    → va_P (dC, dI) cls [] H → va_D A [] → va_S A s.heap H locs → lv_has ls 1 [] → W p l e rm_X_isBase s m args below meth c H locs 0 0 QF (F0 m 24 ls []) := by
    intro    H locs ls h hP hD hS hl
    unfold w_X_isBase_24 at h
    refine lv_iconst (v := 1) hx hb d_X_isBase_24 (by decide) ?_
    refine lv_goto (tgt := 29) hx hb d_X_isBase_25 (by decide) ?_
    exact hret () () 1 _ _ _ _ rfl h hP hD hS d_X_isBase_29
  unfold wp_X_isBase at h
  refine lv_iload_n hx hb d_X_isBase_0 rfl (lv_at hl 0 rfl) ?_
  refine lv_bipush (v := 65) hx hb d_X_isBase_1 (by decide) ?_
  refine lv_icmp_eq (tgt := 24) hx hb d_X_isBase_3 (by decide) (fun c_1 => ?_) (fun c_1 => ?_)
  · have h := h.1 c_1
    exact blk_24  _ _ _ h hP hD hS (lv_sub hl [] rfl)
  · have h := h.2 c_1
    refine lv_iload_n hx hb d_X_isBase_6 rfl (lv_at hl 0 rfl) ?_
    refine lv_bipush (v := 67) hx hb d_X_isBase_7 (by decide) ?_
    refine lv_icmp_eq (tgt := 24) hx hb d_X_isBase_9 (by decide) (fun c_2 => ?_) (fun c_2 => ?_)
    · have h := h.1 c_2
      exact blk_24  _ _ _ h hP hD hS (lv_sub hl [] rfl)
    · have h := h.2 c_2
      refine lv_iload_n hx hb d_X_isBase_12 rfl (lv_at hl 0 rfl) ?_
      refine lv_bipush (v := 71) hx hb d_X_isBase_13 (by decide) ?_
      refine lv_icmp_eq (tgt := 24) hx hb d_X_isBase_15 (by decide) (fun c_3 => ?_) (fun c_3 => ?_)
      · have h := h.1 c_3
        exact blk_24  _ _ _ h hP hD hS (lv_sub hl [] rfl)
      · have h := h.2 c_3
        refine lv_iload_n hx hb d_X_isBase_18 rfl (lv_at hl 0 rfl) ?_
        refine lv_bipush (v := 84) hx hb d_X_isBase_19 (by decide) ?_
        refine lv_icmp_ne (tgt := 28) hx hb d_X_isBase_21 (by decide) (fun c_4 => ?_) (fun c_4 => ?_)
        · have h := h.2 c_4
          refine lv_iconst (v := 0) hx hb d_X_isBase_28 (by decide) ?_
          exact hret () () 0 _ _ _ _ rfl h hP hD hS d_X_isBase_29
        · have h := h.1 c_4
          exact blk_24  _ _ _ h hP hD hS (lv_sub hl [] rfl)
abbrev W_Te_takeBases (cI cC cB : ClassId) (qu : Nat) (qu_characters : Nat) (fu_length : Int32) (fu_at : Int32) (au_characters : Nat → Int32) : va_W := [(qu, .inr (1, [.ref qu_characters, .int fu_length, .int fu_at])), (qu_characters, .inl (cC, 400, .inl au_characters))]
def w_Te_takeBases_44 (Q : Int32 → Int32 → Prop)  (fu_length : Int32) (au_characters : Nat → Int32) (x1 : Int32) (fu_at : Int32) : Prop := ∀ x_1 : Int32, x_1 = fu_at - x1 → (Q x_1 fu_at)
def w_Te_takeBases_5B (Q : Int32 → Int32 → Prop)  (K_5 : Int32 → Int32 → Prop) (fu_length : Int32) (au_characters : Nat → Int32) (x1 : Int32) (fu_at : Int32) : Prop := ((fu_length ≤ fu_at → (w_Te_takeBases_44 Q fu_length au_characters x1 fu_at)) ∧ (¬ fu_length ≤ fu_at → (vp_in fu_at 400 ∧ (∀ y_4 : Int32, y_4 = au_characters fu_at.toNatClampNeg → (wp_X_isBase (fun r_6 v_5 => ((r_6 = 0 → (w_Te_takeBases_44 Q fu_length au_characters x1 fu_at)) ∧ (¬ r_6 = 0 → (∀ x_8 : Int32, x_8 = fu_at + 1 → (K_5 x1 x_8))))) y_4)))))
def w_Te_takeBases_5 (Q : Int32 → Int32 → Prop)  (fu_length : Int32) (au_characters : Nat → Int32) : Nat → Int32 → Int32 → Prop
  | 0 => fun _ _ => False
  | n + 1 => fun x1 fu_at => w_Te_takeBases_5B Q  (w_Te_takeBases_5 Q  fu_length au_characters n) fu_length au_characters x1 fu_at
def wp_Te_takeBases (Q : Int32 → Int32 → Prop)  (fu_length : Int32) (fu_at : Int32) (au_characters : Nat → Int32) : Prop := ∃ fu_5 : Nat, w_Te_takeBases_5 Q fu_length au_characters fu_5 fu_at fu_at
abbrev rm_Te_takeBases : Room := { frames := 1, cells := 0, slots := 0, locals := 20 }
set_option maxHeartbeats 4000000 in
set_option maxRecDepth 100000 in
theorem k_Te_takeBases (l : Launch) (dC : Nat → ClassId) (dI : Nat → Nat → Nat) (cI cC cB : ClassId) (sz : Nat) (qu : Nat) (qu_characters : Nat) (fu_length : Int32) (fu_at : Int32) (au_characters : Nat → Int32)  {Q : Int32 → Int32 → Prop} (h : wp_Te_takeBases Q  fu_length fu_at au_characters) :
    CTi l y_Te_takeBases (wM y_Te_takeBases c_Te_takeBases 2 (some .int)) rm_Te_takeBases 0 0 (dC, dI) (tysL cI cC cB) [.ref qu] (W_Te_takeBases cI cC cB qu qu_characters fu_length fu_at au_characters) sz Q (fun (v : Int32) (b : Unit) => (W_Te_takeBases cI cC cB qu qu_characters fu_length v au_characters)) := by
  refine CTi.std (by decide) (Nat.le_of_ble_eq_true rfl) ?_
  intro p e s m args below meth c A ls QF C0 hP hD hl hS hsz hnm hret
  obtain ⟨hx, hb, hr, hml, hown, hts, hlocks, hN, hA, hK⟩ := id C0
  have hown : s.vm.findClass R_Te = some m.cls := hown
  have hl : lv_has ls 2 [(0, .ref qu)] := hl
  clear hsz hnm
  have blk_44 : ∀  (x1 : Int32) (fu_at : Int32)  (H : Heap) (locs : List Loc) (ls : Array Slot), w_Te_takeBases_44 Q  fu_length au_characters x1 fu_at → va_P (dC, dI) cls (W_Te_takeBases cI cC cB qu qu_characters fu_length fu_at au_characters) H → va_D A (W_Te_takeBases cI cC cB qu qu_characters fu_length fu_at au_characters) → va_S A s.heap H locs → lv_has ls 2 [(0, .ref qu), (1, .int x1)] → W p l e rm_Te_takeBases s m args below meth c H locs 0 0 QF (F0 m 44 ls []) := by
    intro  x1 fu_at  H locs ls h hP hD hS hl
    unfold w_Te_takeBases_44 at h
    refine lv_aload_n hx hb d_Te_takeBases_44 rfl (lv_at hl 0 rfl) ?_
    refine va_get (D := (dC, dI)) (ci := 1) (v := .int fu_at) (C := R_Te) (T := T_Te) (N := 3) hx hb hts in_Te hown hK hP 0 rfl rfl 2 (by decide) (hts _ w_21) (fun _ h9 => h9) rfl d_Te_takeBases_45 ?_
    refine lv_iload_n hx hb d_Te_takeBases_48 rfl (lv_at hl 1 rfl) ?_
    refine lv_isub hx hb d_Te_takeBases_49 ?_
    refine lv_topi (fun x_1 ex_1 => ?_)
    have h := h x_1 ex_1
    exact hret fu_at () x_1 _ _ _ _ rfl h hP hD hS d_Te_takeBases_50
  have blk_5 : ∀  (n : Nat) (x1 : Int32) (fu_at : Int32)  (H : Heap) (locs : List Loc) (ls : Array Slot), w_Te_takeBases_5 Q  fu_length au_characters n x1 fu_at → va_P (dC, dI) cls (W_Te_takeBases cI cC cB qu qu_characters fu_length fu_at au_characters) H → va_D A (W_Te_takeBases cI cC cB qu qu_characters fu_length fu_at au_characters) → va_S A s.heap H locs → lv_has ls 2 [(0, .ref qu), (1, .int x1)] → W p l e rm_Te_takeBases s m args below meth c H locs 0 0 QF (F0 m 5 ls []) := by
    intro  n
    induction n with
    | zero => intro x1 fu_at  H locs ls h; exact (show False from h).elim
    | succ n ih =>
      intro x1 fu_at  H locs ls h hP hD hS hl
      have h : w_Te_takeBases_5B Q  (w_Te_takeBases_5 Q  fu_length au_characters n) fu_length au_characters x1 fu_at := h
      generalize w_Te_takeBases_5 Q  fu_length au_characters n = K_5 at h ih
      unfold w_Te_takeBases_5B at h
      refine lv_aload_n hx hb d_Te_takeBases_5 rfl (lv_at hl 0 rfl) ?_
      refine va_get (D := (dC, dI)) (ci := 1) (v := .int fu_at) (C := R_Te) (T := T_Te) (N := 3) hx hb hts in_Te hown hK hP 0 rfl rfl 2 (by decide) (hts _ w_21) (fun _ h9 => h9) rfl d_Te_takeBases_6 ?_
      refine lv_aload_n hx hb d_Te_takeBases_9 rfl (lv_at hl 0 rfl) ?_
      refine va_get (D := (dC, dI)) (ci := 1) (v := .int fu_length) (C := R_Te) (T := T_Te) (N := 3) hx hb hts in_Te hown hK hP 0 rfl rfl 1 (by decide) (hts _ w_1) (fun _ h9 => h9) rfl d_Te_takeBases_10 ?_
      refine lv_icmp_ge (tgt := 44) hx hb d_Te_takeBases_13 (by decide) (fun c_2 => ?_) (fun c_2 => ?_)
      · have h := h.1 c_2
        exact blk_44  _ _ _ _ _ h hP hD hS (lv_sub hl [0, 1] rfl)
      · have h := h.2 c_2
        refine lv_aload_n hx hb d_Te_takeBases_16 rfl (lv_at hl 0 rfl) ?_
        refine va_get (D := (dC, dI)) (ci := 1) (v := .ref qu_characters) (C := R_Te) (T := T_Te) (N := 3) hx hb hts in_Te hown hK hP 0 rfl rfl 0 (by decide) (hts _ w_2) (fun _ h9 => h9) rfl d_Te_takeBases_17 ?_
        refine lv_aload_n hx hb d_Te_takeBases_20 rfl (lv_at hl 0 rfl) ?_
        refine va_get (D := (dC, dI)) (ci := 1) (v := .int fu_at) (C := R_Te) (T := T_Te) (N := 3) hx hb hts in_Te hown hK hP 0 rfl rfl 2 (by decide) (hts _ w_21) (fun _ h9 => h9) rfl d_Te_takeBases_21 ?_
        have hi_3 := h.1
        have h := h.2
        refine va_cald hx hb hK hP 1 1 rfl rfl hi_3 d_Te_takeBases_24 ?_
        refine lv_topi (fun y_4 ey_4 => ?_)
        have h := h y_4 ey_4
        refine call_SN_i (As := [.int y_4]) (rest := []) C0 hP hD hS [] [0, 1] [0, 1] [(qu, .inr (1, [.ref qu_characters, .int fu_length, .int fu_at])), (qu_characters, .inl (cC, 400, .inl au_characters))] (fun (v : Unit) (b : Unit) => (W_Te_takeBases cI cC cB qu qu_characters fu_length fu_at au_characters)) (k_X_isBase l dC dI cI cC cB _ y_4 h) (host := R_X) (List.mem_of_getElem? (i := 6) rfl) w_78 w_33 w_77 1 rfl (by decide +kernel) rfl rfl ⟨Nat.le_of_ble_eq_true rfl, Nat.le_of_ble_eq_true rfl⟩ rfl rfl (by decide) (by decide) (by decide) (by decide) (fun _ _ => rfl) hl.1 rfl (Nat.le_of_ble_eq_true rfl) d_Te_takeBases_25 ⟨Nat.le_of_ble_eq_true rfl, Nat.le_of_ble_eq_true rfl⟩ (fun r_6 v_5 _ H locs h hP hD hS => ?_)
        have hP : va_P (dC, dI) cls (W_Te_takeBases cI cC cB qu qu_characters fu_length fu_at au_characters) H := hP
        have hD : va_D A (W_Te_takeBases cI cC cB qu qu_characters fu_length fu_at au_characters) := hD
        refine lv_if_eq (tgt := 44) hx hb d_Te_takeBases_28 (by decide) (fun c_7 => ?_) (fun c_7 => ?_)
        · have h := h.1 c_7
          exact blk_44  _ _ _ _ _ h hP hD hS (lv_sub hl [0, 1] rfl)
        · have h := h.2 c_7
          refine lv_aload_n hx hb d_Te_takeBases_31 rfl (lv_at hl 0 rfl) ?_
          refine lv_dup hx hb d_Te_takeBases_32 rfl ?_
          refine va_get (D := (dC, dI)) (ci := 1) (v := .int fu_at) (C := R_Te) (T := T_Te) (N := 3) hx hb hts in_Te hown hK hP 0 rfl rfl 2 (by decide) (hts _ w_21) (fun _ h9 => h9) rfl d_Te_takeBases_33 ?_
          refine lv_iconst (v := 1) hx hb d_Te_takeBases_36 (by decide) ?_
          refine lv_iadd hx hb d_Te_takeBases_37 ?_
          refine lv_topi (fun x_8 ex_8 => ?_)
          have h := h x_8 ex_8
          refine va_put (D := (dC, dI)) (ci := 1) (v := .int x_8) (ty := .int) (C := R_Te) (T := T_Te) (N := 3) hx hb hts in_Te t_Te t_Te_ok n_Te hown hK hP hD hS 0 rfl rfl 2 (by decide) (hts _ w_21) (fun _ h9 => h9) rfl (by decide +kernel) rfl rfl (Nat.le_of_ble_eq_true rfl) d_Te_takeBases_38 (fun H locs hP hD hS => ?_)
          have hP : va_P (dC, dI) cls (W_Te_takeBases cI cC cB qu qu_characters fu_length x_8 au_characters) H := hP
          have hD : va_D A (W_Te_takeBases cI cC cB qu qu_characters fu_length x_8 au_characters) := hD
          refine lv_goto (tgt := 5) hx hb d_Te_takeBases_41 (by decide) ?_
          exact ih _ _ _ _ _ h hP hD hS (lv_sub hl [0, 1] rfl)
  unfold wp_Te_takeBases at h
  refine lv_aload_n hx hb d_Te_takeBases_0 rfl (lv_at hl 0 rfl) ?_
  refine va_get (D := (dC, dI)) (ci := 1) (v := .int fu_at) (C := R_Te) (T := T_Te) (N := 3) hx hb hts in_Te hown hK hP 0 rfl rfl 2 (by decide) (hts _ w_21) (fun _ h9 => h9) rfl d_Te_takeBases_1 ?_
  refine lv_istore_n (lv' := [(1, .int fu_at), (0, .ref qu)]) hx hb d_Te_takeBases_4 rfl hl (by decide) rfl (fun ls hl => ?_)
  obtain ⟨fu_5, h⟩ := h
  exact blk_5  _ _ _ _ _ _ h hP hD hS (lv_sub hl [1, 0] rfl)
abbrev W_Gr_positionOf (cI cC cB : ClassId) (qv : Nat) (nv : Nat) (av : Nat → Int32) : va_W := [(qv, .inl (cI, nv, .inl av))]
def w_Gr_positionOf_2B (Q : Int32 → Unit → Prop)  (K_2 : Int32 → Prop) (p0 : Int32) (p2 : Int32) (nv : Nat) (av : Nat → Int32) (x3 : Int32) : Prop := ((p2 ≤ x3 → (Q (-1) ())) ∧ (¬ p2 ≤ x3 → (vp_in x3 nv ∧ (∀ y_3 : Int32, y_3 = av x3.toNatClampNeg → (((y_3 = p0 → (Q x3 ())) ∧ (¬ y_3 = p0 → (∀ x3_5 : Int32, x3_5 = x3 + 1 → (K_2 x3_5)))))))))
def w_Gr_positionOf_2 (Q : Int32 → Unit → Prop)  (p0 : Int32) (p2 : Int32) (nv : Nat) (av : Nat → Int32) : Nat → Int32 → Prop
  | 0 => fun _ => False
  | n + 1 => fun x3 => w_Gr_positionOf_2B Q  (w_Gr_positionOf_2 Q  p0 p2 nv av n) p0 p2 nv av x3
def wp_Gr_positionOf (Q : Int32 → Unit → Prop) (p0 : Int32) (p2 : Int32) (nv : Nat) (av : Nat → Int32) : Prop := ∃ fu_2 : Nat, w_Gr_positionOf_2 Q p0 p2 nv av fu_2 0
abbrev rm_Gr_positionOf : Room := { frames := 0, cells := 0, slots := 0, locals := 0 }
set_option maxHeartbeats 4000000 in
set_option maxRecDepth 100000 in
theorem k_Gr_positionOf (l : Launch) (dC : Nat → ClassId) (dI : Nat → Nat → Nat) (cI cC cB : ClassId) (sz : Nat) (qv : Nat) (nv : Nat) (av : Nat → Int32) (p0 : Int32) (p2 : Int32) {Q : Int32 → Unit → Prop} (h : wp_Gr_positionOf Q p0 p2 nv av) :
    CTi l y_Gr_positionOf (wM y_Gr_positionOf c_Gr_positionOf 4 (some .int)) rm_Gr_positionOf 0 0 (dC, dI) (tysL cI cC cB) [.int p0, .ref qv, .int p2] (W_Gr_positionOf cI cC cB qv nv av) sz Q (fun (v : Unit) (b : Unit) => (W_Gr_positionOf cI cC cB qv nv av)) := by
  refine CTi.std (by decide) (Nat.le_of_ble_eq_true rfl) ?_
  intro p e s m args below meth c A ls QF C0 hP hD hl hS hsz hnm hret
  obtain ⟨hx, hb, hr, hml, hown, hts, hlocks, hN, hA, hK⟩ := id C0
  have hown : s.vm.findClass R_Gr = some m.cls := hown
  have hl : lv_has ls 4 [(0, .int p0), (1, .ref qv), (2, .int p2)] := hl
  clear hsz hnm
  have blk_2 : ∀  (n : Nat) (x3 : Int32)  (H : Heap) (locs : List Loc) (ls : Array Slot), w_Gr_positionOf_2 Q  p0 p2 nv av n x3 → va_P (dC, dI) cls (W_Gr_positionOf cI cC cB qv nv av) H → va_D A (W_Gr_positionOf cI cC cB qv nv av) → va_S A s.heap H locs → lv_has ls 4 [(0, .int p0), (1, .ref qv), (2, .int p2), (3, .int x3)] → W p l e rm_Gr_positionOf s m args below meth c H locs 0 0 QF (F0 m 2 ls []) := by
    intro  n
    induction n with
    | zero => intro x3  H locs ls h; exact (show False from h).elim
    | succ n ih =>
      intro x3  H locs ls h hP hD hS hl
      have h : w_Gr_positionOf_2B Q  (w_Gr_positionOf_2 Q  p0 p2 nv av n) p0 p2 nv av x3 := h
      generalize w_Gr_positionOf_2 Q  p0 p2 nv av n = K_2 at h ih
      unfold w_Gr_positionOf_2B at h
      refine lv_iload_n hx hb d_Gr_positionOf_2 rfl (lv_at hl 3 rfl) ?_
      refine lv_iload_n hx hb d_Gr_positionOf_3 rfl (lv_at hl 2 rfl) ?_
      refine lv_icmp_ge (tgt := 22) hx hb d_Gr_positionOf_4 (by decide) (fun c_1 => ?_) (fun c_1 => ?_)
      · have h := h.1 c_1
        refine lv_iconst (v := (-1)) hx hb d_Gr_positionOf_22 (by decide) ?_
        exact hret () () (-1) _ _ _ _ rfl h hP hD hS d_Gr_positionOf_23
      · have h := h.2 c_1
        refine lv_aload_n hx hb d_Gr_positionOf_7 rfl (lv_at hl 1 rfl) ?_
        refine lv_iload_n hx hb d_Gr_positionOf_8 rfl (lv_at hl 3 rfl) ?_
        have hi_2 := h.1
        have h := h.2
        refine va_iald hx hb hK hP 0 0 rfl rfl hi_2 d_Gr_positionOf_9 ?_
        refine lv_topi (fun y_3 ey_3 => ?_)
        have h := h y_3 ey_3
        refine lv_iload_n hx hb d_Gr_positionOf_10 rfl (lv_at hl 0 rfl) ?_
        refine lv_icmp_ne (tgt := 16) hx hb d_Gr_positionOf_11 (by decide) (fun c_4 => ?_) (fun c_4 => ?_)
        · have h := h.2 c_4
          obtain ⟨x3_5, ex3_5⟩ : ∃ y : Int32, y = x3 + 1 := ⟨_, rfl⟩
          have h := h x3_5 ex3_5
          refine lv_iinc (v := x3_5) (lv' := [(3, .int x3_5), (0, .int p0), (1, .ref qv), (2, .int p2)]) hx hb d_Gr_positionOf_16 hl (k := 3) rfl (by rw [ex3_5]; rfl) (by decide) rfl (fun ls hl => ?_)
          refine lv_goto (tgt := 2) hx hb d_Gr_positionOf_19 (by decide) ?_
          exact ih _ _ _ _ h hP hD hS (lv_sub hl [1, 2, 3, 0] rfl)
        · have h := h.1 c_4
          refine lv_iload_n hx hb d_Gr_positionOf_14 rfl (lv_at hl 3 rfl) ?_
          exact hret () () x3 _ _ _ _ rfl h hP hD hS d_Gr_positionOf_15
  unfold wp_Gr_positionOf at h
  refine lv_iconst (v := 0) hx hb d_Gr_positionOf_0 (by decide) ?_
  refine lv_istore_n (lv' := [(3, .int 0), (0, .int p0), (1, .ref qv), (2, .int p2)]) hx hb d_Gr_positionOf_1 rfl hl (by decide) rfl (fun ls hl => ?_)
  obtain ⟨fu_2, h⟩ := h
  exact blk_2  _ _ _ _ _ h hP hD hS (lv_sub hl [1, 2, 3, 0] rfl)
