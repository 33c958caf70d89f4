abbrev W_Co_beginRow (cI cC cB : ClassId) (qu : Nat) (qu_table : Nat) (qv : Nat) (qv_placeBases : Nat) (qw : Nat) (qw_bases : Nat) (qv_segmentNames : Nat) (qv_sideStarts : Nat) (qv_placeSides : Nat) (qv_followers : Nat) (qv_pathNames : Nat) (qv_stepCounts : Nat) (qv_steps : Nat) (qv_joinFrom : Nat) (qv_joinTo : Nat) (au_table : Nat → Int32) (fv_segments : Int32) (fv_links : Int32) (fv_paths : Int32) (fv_places : Int32) (fv_joins : Int32) (av_placeBases : Nat → Int32) (fw_length : Int32) (aw_bases : Nat → Int32) : va_W := [(qu, .inr (3, [.ref qu_table])), (qu_table, .inl (cI, 832, .inl au_table)), (qv, .inr (5, [.int fv_segments, .int fv_links, .int fv_paths, .int fv_places, .int fv_joins, .ref qv_segmentNames, .ref qv_sideStarts, .ref qv_placeBases, .ref qv_placeSides, .ref qv_followers, .ref qv_pathNames, .ref qv_stepCounts, .ref qv_steps, .ref qv_joinFrom, .ref qv_joinTo])), (qv_placeBases, .inl (cC, 64, .inl av_placeBases)), (qw, .inr (2, [.ref qw_bases, .int fw_length])), (qw_bases, .inl (cC, 12, .inl aw_bases))]
def w_Co_beginRow_57 (Q : (Nat → Int32) → Prop) (K_3 : Int32 → (Nat → Int32) → Prop) (p3 : Int32) (fv_places : Int32) (av_placeBases : Nat → Int32) (aw_bases : Nat → Int32) (x4 : Int32) (x5 : Int32) (au_table : Nat → Int32) : Prop := ∀ x_1 : Int32, x_1 = (p3 * 64) + x4 → (vp_in x_1 832 ∧ (∀ au_table_3 : Nat → Int32, au_table_3 = upd au_table x_1.toNatClampNeg x5 → (∀ x4_4 : Int32, x4_4 = x4 + 1 → (K_3 x4_4 au_table_3))))
def w_Co_beginRow_3B (Q : (Nat → Int32) → Prop)  (K_3 : Int32 → (Nat → Int32) → Prop) (p3 : Int32) (fv_places : Int32) (av_placeBases : Nat → Int32) (aw_bases : Nat → Int32) (x4 : Int32) (au_table : Nat → Int32) : Prop := ((fv_places ≤ x4 → (Q au_table)) ∧ (¬ fv_places ≤ x4 → (∀ x_6 : Int32, x_6 = p3 + 1 → (((p3 ≤ 0 → (w_Co_beginRow_57 Q K_3 p3 fv_places av_placeBases aw_bases x4 x_6 au_table)) ∧ (¬ p3 ≤ 0 → (∀ x_8 : Int32, x_8 = p3 - 1 → (vp_in x4 64 ∧ (∀ y_10 : Int32, y_10 = av_placeBases x4.toNatClampNeg → (wp_Re_costOn (fun r_12 v_11 => ∀ x_13 : Int32, x_13 = x_8 + r_12 → (∀ x_14 : Int32, x_14 = p3 - 1 → (wp_Co_at (fun r_16 v_15 => ∀ x_17 : Int32, x_17 = r_16 + 1 → (∀ x_18 : Int32, x_18 = (if x_17 < x_13 then x_17 else x_13) → (w_Co_beginRow_57 Q K_3 p3 fv_places av_placeBases aw_bases x4 x_18 au_table))) x_14 x4 au_table))) p3 y_10 aw_bases))))))))))
def w_Co_beginRow_3 (Q : (Nat → Int32) → Prop)  (p3 : Int32) (fv_places : Int32) (av_placeBases : Nat → Int32) (aw_bases : Nat → Int32) : Nat → Int32 → (Nat → Int32) → Prop
  | 0 => fun _ _ => False
  | n + 1 => fun x4 au_table => w_Co_beginRow_3B Q  (w_Co_beginRow_3 Q  p3 fv_places av_placeBases aw_bases n) p3 fv_places av_placeBases aw_bases x4 au_table
def wp_Co_beginRow (Q : (Nat → Int32) → Prop) (p3 : Int32) (au_table : Nat → Int32) (fv_places : Int32) (av_placeBases : Nat → Int32) (aw_bases : Nat → Int32) : Prop := ∃ fu_3 : Nat, w_Co_beginRow_3 Q p3 fv_places av_placeBases aw_bases fu_3 0 au_table
abbrev rm_Co_beginRow : Room := { frames := 1, cells := 0, slots := 0, locals := 22 }
set_option maxHeartbeats 4000000 in
set_option maxRecDepth 100000 in
theorem k_Co_beginRow (l : Launch) (dC : Nat → ClassId) (dI : Nat → Nat → Nat) (cI cC cB : ClassId) (sz : Nat) (qu : Nat) (qu_table : Nat) (qv : Nat) (qv_placeBases : Nat) (qw : Nat) (qw_bases : Nat) (qv_segmentNames : Nat) (qv_sideStarts : Nat) (qv_placeSides : Nat) (qv_followers : Nat) (qv_pathNames : Nat) (qv_stepCounts : Nat) (qv_steps : Nat) (qv_joinFrom : Nat) (qv_joinTo : Nat) (au_table : Nat → Int32) (fv_segments : Int32) (fv_links : Int32) (fv_paths : Int32) (fv_places : Int32) (fv_joins : Int32) (av_placeBases : Nat → Int32) (fw_length : Int32) (aw_bases : Nat → Int32) (p3 : Int32) {Q : (Nat → Int32) → Prop} (h : wp_Co_beginRow Q p3 au_table fv_places av_placeBases aw_bases) :
    CTv l y_Co_beginRow (wM y_Co_beginRow c_Co_beginRow 7 none) rm_Co_beginRow 0 0 (dC, dI) (tysL cI cC cB) [.ref qu, .ref qv, .ref qw, .int p3] (W_Co_beginRow cI cC cB qu qu_table qv qv_placeBases qw qw_bases qv_segmentNames qv_sideStarts qv_placeSides qv_followers qv_pathNames qv_stepCounts qv_steps qv_joinFrom qv_joinTo au_table fv_segments fv_links fv_paths fv_places fv_joins av_placeBases fw_length aw_bases) sz Q (fun (v : (Nat → Int32)) (b : Unit) => (W_Co_beginRow cI cC cB qu qu_table qv qv_placeBases qw qw_bases qv_segmentNames qv_sideStarts qv_placeSides qv_followers qv_pathNames qv_stepCounts qv_steps qv_joinFrom qv_joinTo v fv_segments fv_links fv_paths fv_places fv_joins av_placeBases fw_length aw_bases)) := by
  refine CTv.std (by decide) (Nat.le_of_ble_eq_true rfl) ?_
  intro p e s m args below meth c A ls QF C0 hP hD hl hS hsz hnm hret
  obtain ⟨hx, hb, hr, hml, hown, hts, hlocks, hN, hA, hK⟩ := id C0
  have hown : s.vm.findClass R_Co = some m.cls := hown
  have hl : lv_has ls 7 [(0, .ref qu), (1, .ref qv), (2, .ref qw), (3, .int p3)] := hl
  clear hsz hnm
  have blk_57 : ∀ (K_3 : Int32 → (Nat → Int32) → Prop) (hK_3 : ∀ (x4 : Int32) (au_table : Nat → Int32)  (H : Heap) (locs : List Loc) (ls : Array Slot), K_3 x4 au_table → va_P (dC, dI) cls (W_Co_beginRow cI cC cB qu qu_table qv qv_placeBases qw qw_bases qv_segmentNames qv_sideStarts qv_placeSides qv_followers qv_pathNames qv_stepCounts qv_steps qv_joinFrom qv_joinTo au_table fv_segments fv_links fv_paths fv_places fv_joins av_placeBases fw_length aw_bases) H → va_D A (W_Co_beginRow cI cC cB qu qu_table qv qv_placeBases qw qw_bases qv_segmentNames qv_sideStarts qv_placeSides qv_followers qv_pathNames qv_stepCounts qv_steps qv_joinFrom qv_joinTo au_table fv_segments fv_links fv_paths fv_places fv_joins av_placeBases fw_length aw_bases) → va_S A s.heap H locs → lv_has ls 7 [(0, .ref qu), (1, .ref qv), (2, .ref qw), (3, .int p3), (4, .int x4)] → W p l e rm_Co_beginRow s m args below meth c H locs 0 0 QF (F0 m 3 ls [])) (x4 : Int32) (x5 : Int32) (au_table : Nat → Int32)  (H : Heap) (locs : List Loc) (ls : Array Slot), w_Co_beginRow_57 Q K_3 p3 fv_places av_placeBases aw_bases x4 x5 au_table → va_P (dC, dI) cls (W_Co_beginRow cI cC cB qu qu_table qv qv_placeBases qw qw_bases qv_segmentNames qv_sideStarts qv_placeSides qv_followers qv_pathNames qv_stepCounts qv_steps qv_joinFrom qv_joinTo au_table fv_segments fv_links fv_paths fv_places fv_joins av_placeBases fw_length aw_bases) H → va_D A (W_Co_beginRow cI cC cB qu qu_table qv qv_placeBases qw qw_bases qv_segmentNames qv_sideStarts qv_placeSides qv_followers qv_pathNames qv_stepCounts qv_steps qv_joinFrom qv_joinTo au_table fv_segments fv_links fv_paths fv_places fv_joins av_placeBases fw_length aw_bases) → va_S A s.heap H locs → lv_has ls 7 [(0, .ref qu), (1, .ref qv), (2, .ref qw), (3, .int p3), (4, .int x4), (5, .int x5)] → W p l e rm_Co_beginRow s m args below meth c H locs 0 0 QF (F0 m 57 ls []) := by
    intro K_3 hK_3 x4 x5 au_table  H locs ls h hP hD hS hl
    unfold w_Co_beginRow_57 at h
    refine lv_aload_n hx hb d_Co_beginRow_57 rfl (lv_at hl 0 rfl) ?_
    refine va_get (D := (dC, dI)) (ci := 3) (v := .ref qu_table) (C := R_Co) (T := T_Co) (N := 1) hx hb hts in_Co hown hK hP 0 rfl rfl 0 (by decide) (hts _ w_167) (fun _ h9 => h9) rfl d_Co_beginRow_58 ?_
    refine lv_iload_n hx hb d_Co_beginRow_61 rfl (lv_at hl 3 rfl) ?_
    refine lv_bipush (v := 64) hx hb d_Co_beginRow_62 (by decide) ?_
    refine lv_imul hx hb d_Co_beginRow_64 ?_
    refine lv_iload hx hb d_Co_beginRow_65 (lv_at hl 4 rfl) ?_
    refine lv_iadd hx hb d_Co_beginRow_67 ?_
    refine lv_topi (fun x_1 ex_1 => ?_)
    have h := h x_1 ex_1
    refine lv_iload hx hb d_Co_beginRow_68 (lv_at hl 5 rfl) ?_
    have hi_2 := h.1
    have h := h.2
    refine va_iast hx hb hK hP hD hS 1 0 rfl rfl hi_2 d_Co_beginRow_70 (fun H locs hP hD hS => ?_)
    obtain ⟨au_table_3, eau_table_3⟩ : ∃ z : Nat → Int32, z = upd au_table x_1.toNatClampNeg x5 := ⟨_, rfl⟩
    have h := h au_table_3 eau_table_3
    have hP : va_P (dC, dI) cls (W_Co_beginRow cI cC cB qu qu_table qv qv_placeBases qw qw_bases qv_segmentNames qv_sideStarts qv_placeSides qv_followers qv_pathNames qv_stepCounts qv_steps qv_joinFrom qv_joinTo au_table_3 fv_segments fv_links fv_paths fv_places fv_joins av_placeBases fw_length aw_bases) H := by rw [eau_table_3]; exact hP
    have hD : va_D A (W_Co_beginRow cI cC cB qu qu_table qv qv_placeBases qw qw_bases qv_segmentNames qv_sideStarts qv_placeSides qv_followers qv_pathNames qv_stepCounts qv_steps qv_joinFrom qv_joinTo au_table_3 fv_segments fv_links fv_paths fv_places fv_joins av_placeBases fw_length aw_bases) := by rw [eau_table_3]; exact hD
    obtain ⟨x4_4, ex4_4⟩ : ∃ y : Int32, y = x4 + 1 := ⟨_, rfl⟩
    have h := h x4_4 ex4_4
    refine lv_iinc (v := x4_4) (lv' := [(4, .int x4_4), (0, .ref qu), (1, .ref qv), (2, .ref qw), (3, .int p3), (5, .int x5)]) hx hb d_Co_beginRow_71 hl (k := 4) rfl (by rw [ex4_4]; rfl) (by decide) rfl (fun ls hl => ?_)
    refine lv_goto (tgt := 3) hx hb d_Co_beginRow_74 (by decide) ?_
    exact hK_3 _ _ _ _ _ h hP hD hS (lv_sub hl [1, 2, 3, 4, 0] rfl)
  have blk_3 : ∀  (n : Nat) (x4 : Int32) (au_table : Nat → Int32)  (H : Heap) (locs : List Loc) (ls : Array Slot), w_Co_beginRow_3 Q  p3 fv_places av_placeBases aw_bases n x4 au_table → va_P (dC, dI) cls (W_Co_beginRow cI cC cB qu qu_table qv qv_placeBases qw qw_bases qv_segmentNames qv_sideStarts qv_placeSides qv_followers qv_pathNames qv_stepCounts qv_steps qv_joinFrom qv_joinTo au_table fv_segments fv_links fv_paths fv_places fv_joins av_placeBases fw_length aw_bases) H → va_D A (W_Co_beginRow cI cC cB qu qu_table qv qv_placeBases qw qw_bases qv_segmentNames qv_sideStarts qv_placeSides qv_followers qv_pathNames qv_stepCounts qv_steps qv_joinFrom qv_joinTo au_table fv_segments fv_links fv_paths fv_places fv_joins av_placeBases fw_length aw_bases) → va_S A s.heap H locs → lv_has ls 7 [(0, .ref qu), (1, .ref qv), (2, .ref qw), (3, .int p3), (4, .int x4)] → W p l e rm_Co_beginRow s m args below meth c H locs 0 0 QF (F0 m 3 ls []) := by
    intro  n
    induction n with
    | zero => intro x4 au_table  H locs ls h; exact (show False from h).elim
    | succ n ih =>
      intro x4 au_table  H locs ls h hP hD hS hl
      have h : w_Co_beginRow_3B Q  (w_Co_beginRow_3 Q  p3 fv_places av_placeBases aw_bases n) p3 fv_places av_placeBases aw_bases x4 au_table := h
      generalize w_Co_beginRow_3 Q  p3 fv_places av_placeBases aw_bases n = K_3 at h ih
      unfold w_Co_beginRow_3B at h
      refine lv_iload hx hb d_Co_beginRow_3 (lv_at hl 4 rfl) ?_
      refine lv_aload_n hx hb d_Co_beginRow_5 rfl (lv_at hl 1 rfl) ?_
      refine va_get (D := (dC, dI)) (ci := 5) (v := .int fv_places) (C := R_Gr) (T := T_Gr) (N := 15) hx hb hts in_Gr hown hK hP 2 rfl rfl 3 (by decide) (hts _ w_181) (fun _ h9 => h9) rfl d_Co_beginRow_6 ?_
      refine lv_icmp_ge (tgt := 77) hx hb d_Co_beginRow_9 (by decide) (fun c_5 => ?_) (fun c_5 => ?_)
      · have h := h.1 c_5
        exact hret au_table () _ _ _ _ h hP hD hS d_Co_beginRow_77
      · have h := h.2 c_5
        refine lv_iload_n hx hb d_Co_beginRow_12 rfl (lv_at hl 3 rfl) ?_
        refine lv_iconst (v := 1) hx hb d_Co_beginRow_13 (by decide) ?_
        refine lv_iadd hx hb d_Co_beginRow_14 ?_
        refine lv_topi (fun x_6 ex_6 => ?_)
        have h := h x_6 ex_6
        refine lv_istore (lv' := [(5, .int x_6), (0, .ref qu), (1, .ref qv), (2, .ref qw), (3, .int p3), (4, .int x4)]) hx hb d_Co_beginRow_15 hl (by decide) rfl (fun ls hl => ?_)
        refine lv_iload_n hx hb d_Co_beginRow_17 rfl (lv_at hl 4 rfl) ?_
        refine lv_if_le (tgt := 57) hx hb d_Co_beginRow_18 (by decide) (fun c_7 => ?_) (fun c_7 => ?_)
        · have h := h.1 c_7
          exact blk_57 _ ih _ _ _ _ _ _ h hP hD hS (lv_sub hl [1, 2, 3, 4, 5, 0] rfl)
        · have h := h.2 c_7
          refine lv_iload_n hx hb d_Co_beginRow_21 rfl (lv_at hl 4 rfl) ?_
          refine lv_iconst (v := 1) hx hb d_Co_beginRow_22 (by decide) ?_
          refine lv_isub hx hb d_Co_beginRow_23 ?_
          refine lv_topi (fun x_8 ex_8 => ?_)
          have h := h x_8 ex_8
          refine lv_aload_n hx hb d_Co_beginRow_24 rfl (lv_at hl 3 rfl) ?_
          refine lv_iload_n hx hb d_Co_beginRow_25 rfl (lv_at hl 4 rfl) ?_
          refine lv_aload_n hx hb d_Co_beginRow_26 rfl (lv_at hl 2 rfl) ?_
          refine va_get (D := (dC, dI)) (ci := 5) (v := .ref qv_placeBases) (C := R_Gr) (T := T_Gr) (N := 15) hx hb hts in_Gr hown hK hP 2 rfl rfl 7 (by decide) (hts _ w_182) (fun _ h9 => h9) rfl d_Co_beginRow_27 ?_
          refine lv_iload hx hb d_Co_beginRow_30 (lv_at hl 5 rfl) ?_
          have hi_9 := h.1
          have h := h.2
          refine va_cald hx hb hK hP 3 1 rfl rfl hi_9 d_Co_beginRow_32 ?_
          refine lv_topi (fun y_10 ey_10 => ?_)
          have h := h y_10 ey_10
          refine call_V_i (As := [.int p3, .int y_10]) (rest := [.int x_8]) C0 hP hD hS [4, 5] [0, 1, 2, 3] [0, 1, 2, 3, 4, 5] [(qu, .inr (3, [.ref qu_table])), (qu_table, .inl (cI, 832, .inl au_table)), (qv, .inr (5, [.int fv_segments, .int fv_links, .int fv_paths, .int fv_places, .int fv_joins, .ref qv_segmentNames, .ref qv_sideStarts, .ref qv_placeBases, .ref qv_placeSides, .ref qv_followers, .ref qv_pathNames, .ref qv_stepCounts, .ref qv_steps, .ref qv_joinFrom, .ref qv_joinTo])), (qv_placeBases, .inl (cC, 64, .inl av_placeBases))] (fun (v : Unit) (b : Unit) => (W_Co_beginRow cI cC cB qu qu_table qv qv_placeBases qw qw_bases qv_segmentNames qv_sideStarts qv_placeSides qv_followers qv_pathNames qv_stepCounts qv_steps qv_joinFrom qv_joinTo au_table fv_segments fv_links fv_paths fv_places fv_joins av_placeBases fw_length aw_bases)) (ci := 2) rfl rfl (k_Re_costOn l dC dI cI cC cB _ qw qw_bases fw_length aw_bases p3 y_10 h) (g_V w_188 w_189 w_190 w_161 w_187) 2 rfl (by decide +kernel) rfl rfl ⟨Nat.le_of_ble_eq_true rfl, Nat.le_of_ble_eq_true rfl⟩ rfl rfl (by decide) (by decide) (by decide) (by decide) (fun _ _ => rfl) hl.1 rfl (Nat.le_of_ble_eq_true rfl) d_Co_beginRow_33 ⟨Nat.le_of_ble_eq_true rfl, Nat.le_of_ble_eq_true rfl⟩ (fun r_12 v_11 _ H locs h hP hD hS => ?_)
          have hP : va_P (dC, dI) cls (W_Co_beginRow cI cC cB qu qu_table qv qv_placeBases qw qw_bases qv_segmentNames qv_sideStarts qv_placeSides qv_followers qv_pathNames qv_stepCounts qv_steps qv_joinFrom qv_joinTo au_table fv_segments fv_links fv_paths fv_places fv_joins av_placeBases fw_length aw_bases) H := hP
          have hD : va_D A (W_Co_beginRow cI cC cB qu qu_table qv qv_placeBases qw qw_bases qv_segmentNames qv_sideStarts qv_placeSides qv_followers qv_pathNames qv_stepCounts qv_steps qv_joinFrom qv_joinTo au_table fv_segments fv_links fv_paths fv_places fv_joins av_placeBases fw_length aw_bases) := hD
          refine lv_iadd hx hb d_Co_beginRow_36 ?_
          refine lv_topi (fun x_13 ex_13 => ?_)
          have h := h x_13 ex_13
          refine lv_istore (lv' := [(6, .int x_13), (5, .int x_6), (0, .ref qu), (1, .ref qv), (2, .ref qw), (3, .int p3), (4, .int x4)]) hx hb d_Co_beginRow_37 hl (by decide) rfl (fun ls hl => ?_)
          refine lv_iload hx hb d_Co_beginRow_39 (lv_at hl 0 rfl) ?_
          refine lv_aload_n hx hb d_Co_beginRow_41 rfl (lv_at hl 2 rfl) ?_
          refine lv_iload_n hx hb d_Co_beginRow_42 rfl (lv_at hl 5 rfl) ?_
          refine lv_iconst (v := 1) hx hb d_Co_beginRow_43 (by decide) ?_
          refine lv_isub hx hb d_Co_beginRow_44 ?_
          refine lv_topi (fun x_14 ex_14 => ?_)
          have h := h x_14 ex_14
          refine lv_iload hx hb d_Co_beginRow_45 (lv_at hl 6 rfl) ?_
          refine call_V_i (As := [.int x_14, .int x4]) (rest := [.int x_13]) C0 hP hD hS [0, 1] [2, 3, 4, 5] [4, 5, 0, 1, 2, 3] [(qv, .inr (5, [.int fv_segments, .int fv_links, .int fv_paths, .int fv_places, .int fv_joins, .ref qv_segmentNames, .ref qv_sideStarts, .ref qv_placeBases, .ref qv_placeSides, .ref qv_followers, .ref qv_pathNames, .ref qv_stepCounts, .ref qv_steps, .ref qv_joinFrom, .ref qv_joinTo])), (qv_placeBases, .inl (cC, 64, .inl av_placeBases)), (qw, .inr (2, [.ref qw_bases, .int fw_length])), (qw_bases, .inl (cC, 12, .inl aw_bases))] (fun (v : Unit) (b : Unit) => (W_Co_beginRow cI cC cB qu qu_table qv qv_placeBases qw qw_bases qv_segmentNames qv_sideStarts qv_placeSides qv_followers qv_pathNames qv_stepCounts qv_steps qv_joinFrom qv_joinTo au_table fv_segments fv_links fv_paths fv_places fv_joins av_placeBases fw_length aw_bases)) (ci := 3) rfl rfl (k_Co_at l dC dI cI cC cB _ qu qu_table au_table x_14 x4 h) (g_V w_169 w_170 w_171 w_172 w_168) 2 rfl (by decide +kernel) rfl rfl ⟨Nat.le_of_ble_eq_true rfl, Nat.le_of_ble_eq_true rfl⟩ rfl rfl (by decide) (by decide) (by decide) (by decide) (fun _ _ => rfl) hl.1 rfl (Nat.le_of_ble_eq_true rfl) d_Co_beginRow_47 ⟨Nat.le_of_ble_eq_true rfl, Nat.le_of_ble_eq_true rfl⟩ (fun r_16 v_15 _ H locs h hP hD hS => ?_)
          have hP : va_P (dC, dI) cls (W_Co_beginRow cI cC cB qu qu_table qv qv_placeBases qw qw_bases qv_segmentNames qv_sideStarts qv_placeSides qv_followers qv_pathNames qv_stepCounts qv_steps qv_joinFrom qv_joinTo au_table fv_segments fv_links fv_paths fv_places fv_joins av_placeBases fw_length aw_bases) H := hP
          have hD : va_D A (W_Co_beginRow cI cC cB qu qu_table qv qv_placeBases qw qw_bases qv_segmentNames qv_sideStarts qv_placeSides qv_followers qv_pathNames qv_stepCounts qv_steps qv_joinFrom qv_joinTo au_table fv_segments fv_links fv_paths fv_places fv_joins av_placeBases fw_length aw_bases) := hD
          refine lv_iconst (v := 1) hx hb d_Co_beginRow_50 (by decide) ?_
          refine lv_iadd hx hb d_Co_beginRow_51 ?_
          refine lv_topi (fun x_17 ex_17 => ?_)
          have h := h x_17 ex_17
          refine va_mmin hx hb (hml.trans hl.1.symm) hown (hts _ w_183) (hts _ w_184) (hts _ w_185) (hts _ w_186) (Nat.le_of_ble_eq_true rfl) (Nat.le_of_ble_eq_true rfl) (Nat.le_of_ble_eq_true rfl) (Nat.le_of_ble_eq_true rfl) d_Co_beginRow_52 ?_
          refine lv_topi (fun x_18 ex_18 => ?_)
          have h := h x_18 ex_18
          refine lv_istore (lv' := [(5, .int x_18), (6, .int x_13), (0, .ref qu), (1, .ref qv), (2, .ref qw), (3, .int p3), (4, .int x4)]) hx hb d_Co_beginRow_55 hl (by decide) rfl (fun ls hl => ?_)
          exact blk_57 _ ih _ _ _ _ _ _ h hP hD hS (lv_sub hl [2, 3, 4, 5, 6, 0] rfl)
  unfold wp_Co_beginRow at h
  refine lv_iconst (v := 0) hx hb d_Co_beginRow_0 (by decide) ?_
  refine lv_istore (lv' := [(4, .int 0), (0, .ref qu), (1, .ref qv), (2, .ref qw), (3, .int p3)]) hx hb d_Co_beginRow_1 hl (by decide) rfl (fun ls hl => ?_)
  obtain ⟨fu_3, h⟩ := h
  exact blk_3  _ _ _ _ _ _ h hP hD hS (lv_sub hl [1, 2, 3, 4, 0] rfl)
abbrev W_Co_lower (cI cC cB : ClassId) (qu : Nat) (qu_table : Nat) (au_table : Nat → Int32) : va_W := [(qu, .inr (3, [.ref qu_table])), (qu_table, .inl (cI, 832, .inl au_table))]
def wp_Co_lower (Q : Int32 → (Nat → Int32) → Prop) (p1 : Int32) (p2 : Int32) (p3 : Int32) (au_table : Nat → Int32) : Prop := wp_Co_at (fun r_2 v_1 => ((p3 < r_2 → (∀ x_4 : Int32, x_4 = (p1 * 64) + p2 → (vp_in x_4 832 ∧ (∀ au_table_6 : Nat → Int32, au_table_6 = upd au_table x_4.toNatClampNeg p3 → (Q 1 au_table_6))))) ∧ (¬ p3 < r_2 → (Q 0 au_table)))) p1 p2 au_table
abbrev rm_Co_lower : Room := { frames := 1, cells := 0, slots := 0, locals := 22 }
set_option maxHeartbeats 4000000 in
set_option maxRecDepth 100000 in
theorem k_Co_lower (l : Launch) (dC : Nat → ClassId) (dI : Nat → Nat → Nat) (cI cC cB : ClassId) (sz : Nat) (qu : Nat) (qu_table : Nat) (au_table : Nat → Int32) (p1 : Int32) (p2 : Int32) (p3 : Int32) {Q : Int32 → (Nat → Int32) → Prop} (h : wp_Co_lower Q p1 p2 p3 au_table) :
    CTi l y_Co_lower (wM y_Co_lower c_Co_lower 4 (some .boolean)) rm_Co_lower 0 0 (dC, dI) (tysL cI cC cB) [.ref qu, .int p1, .int p2, .int p3] (W_Co_lower cI cC cB qu qu_table au_table) sz Q (fun (v : (Nat → Int32)) (b : Unit) => (W_Co_lower cI cC cB qu qu_table v)) := by
  refine CTi.std (by decide) (Nat.le_of_ble_eq_true rfl) ?_
  intro p e s m args below meth c A ls QF C0 hP hD hl hS hsz hnm hret
  obtain ⟨hx, hb, hr, hml, hown, hts, hlocks, hN, hA, hK⟩ := id C0
  have hown : s.vm.findClass R_Co = some m.cls := hown
  have hl : lv_has ls 4 [(0, .ref qu), (1, .int p1), (2, .int p2), (3, .int p3)] := hl
  clear hsz hnm
  unfold wp_Co_lower at h
  refine lv_iload_n hx hb d_Co_lower_0 rfl (lv_at hl 3 rfl) ?_
  refine lv_aload_n hx hb d_Co_lower_1 rfl (lv_at hl 0 rfl) ?_
  refine lv_iload_n hx hb d_Co_lower_2 rfl (lv_at hl 1 rfl) ?_
  refine lv_iload_n hx hb d_Co_lower_3 rfl (lv_at hl 2 rfl) ?_
  refine call_V_i (As := [.int p1, .int p2]) (rest := [.int p3]) C0 hP hD hS [0, 1] [] [0, 1] [] (fun (v : Unit) (b : Unit) => (W_Co_lower cI cC cB qu qu_table au_table)) (ci := 3) rfl rfl (k_Co_at l dC dI cI cC cB _ qu qu_table au_table p1 p2 h) (g_V w_169 w_170 w_171 w_172 w_168) 2 rfl (by decide +kernel) rfl rfl ⟨Nat.le_of_ble_eq_true rfl, Nat.le_of_ble_eq_true rfl⟩ rfl rfl (by decide) (by decide) (by decide) (by decide) (fun _ _ => rfl) hl.1 rfl (Nat.le_of_ble_eq_true rfl) d_Co_lower_4 ⟨Nat.le_of_ble_eq_true rfl, Nat.le_of_ble_eq_true rfl⟩ (fun r_2 v_1 _ H locs h hP hD hS => ?_)
  have hP : va_P (dC, dI) cls (W_Co_lower cI cC cB qu qu_table au_table) H := hP
  have hD : va_D A (W_Co_lower cI cC cB qu qu_table au_table) := hD
  refine lv_icmp_lt (tgt := 12) hx hb d_Co_lower_7 (by decide) (fun c_3 => ?_) (fun c_3 => ?_)
  · have h := h.1 c_3
    refine lv_aload_n hx hb d_Co_lower_12 rfl (lv_at hl 0 rfl) ?_
    refine va_get (D := (dC, dI)) (ci := 3) (v := .ref qu_table) (C := R_Co) (T := T_Co) (N := 1) hx hb hts in_Co hown hK hP 0 rfl rfl 0 (by decide) (hts _ w_167) (fun _ h9 => h9) rfl d_Co_lower_13 ?_
    refine lv_iload_n hx hb d_Co_lower_16 rfl (lv_at hl 1 rfl) ?_
    refine lv_bipush (v := 64) hx hb d_Co_lower_17 (by decide) ?_
    refine lv_imul hx hb d_Co_lower_19 ?_
    refine lv_iload_n hx hb d_Co_lower_20 rfl (lv_at hl 2 rfl) ?_
    refine lv_iadd hx hb d_Co_lower_21 ?_
    refine lv_topi (fun x_4 ex_4 => ?_)
    have h := h x_4 ex_4
    refine lv_iload_n hx hb d_Co_lower_22 rfl (lv_at hl 3 rfl) ?_
    have hi_5 := h.1
    have h := h.2
    refine va_iast hx hb hK hP hD hS 1 0 rfl rfl hi_5 d_Co_lower_23 (fun H locs hP hD hS => ?_)
    obtain ⟨au_table_6, eau_table_6⟩ : ∃ z : Nat → Int32, z = upd au_table x_4.toNatClampNeg p3 := ⟨_, rfl⟩
    have h := h au_table_6 eau_table_6
    have hP : va_P (dC, dI) cls (W_Co_lower cI cC cB qu qu_table au_table_6) H := by rw [eau_table_6]; exact hP
    have hD : va_D A (W_Co_lower cI cC cB qu qu_table au_table_6) := by rw [eau_table_6]; exact hD
    refine lv_iconst (v := 1) hx hb d_Co_lower_24 (by decide) ?_
    exact hret au_table_6 () 1 _ _ _ _ rfl h hP hD hS d_Co_lower_25
  · have h := h.2 c_3
    refine lv_iconst (v := 0) hx hb d_Co_lower_10 (by decide) ?_
    exact hret au_table () 0 _ _ _ _ rfl h hP hD hS d_Co_lower_11
abbrev W_Co_comeFromRowBefore (cI cC cB : ClassId) (qu : Nat) (qu_table : Nat) (qv : Nat) (qv_placeBases : Nat) (qv_joinFrom : Nat) (qv_joinTo : Nat) (qw : Nat) (qw_bases : Nat) (qv_segmentNames : Nat) (qv_sideStarts : Nat) (qv_placeSides : Nat) (qv_followers : Nat) (qv_pathNames : Nat) (qv_stepCounts : Nat) (qv_steps : Nat) (au_table : Nat → Int32) (fv_segments : Int32) (fv_links : Int32) (fv_paths : Int32) (fv_places : Int32) (fv_joins : Int32) (av_placeBases : Nat → Int32) (av_joinFrom : Nat → Int32) (av_joinTo : Nat → Int32) (fw_length : Int32) (aw_bases : Nat → Int32) : va_W := [(qu, .inr (3, [.ref qu_table])), (qu_table, .inl (cI, 832, .inl au_table)), (qv, .inr (5, [.int fv_segments, .int fv_links, .int fv_paths, .int fv_places, .int fv_joins, .ref qv_segmentNames, .ref qv_sideStarts, .ref qv_placeBases, .ref qv_placeSides, .ref qv_followers, .ref qv_pathNames, .ref qv_stepCounts, .ref qv_steps, .ref qv_joinFrom, .ref qv_joinTo])), (qv_placeBases, .inl (cC, 64, .inl av_placeBases)), (qv_joinFrom, .inl (cI, 72, .inl av_joinFrom)), (qv_joinTo, .inl (cI, 72, .inl av_joinTo)), (qw, .inr (2, [.ref qw_bases, .int fw_length])), (qw_bases, .inl (cC, 12, .inl aw_bases))]
def w_Co_comeFromRowBefore_3B (Q : (Nat → Int32) → Prop)  (K_3 : Int32 → (Nat → Int32) → Prop) (p3 : Int32) (fv_joins : Int32) (av_placeBases : Nat → Int32) (av_joinFrom : Nat → Int32) (av_joinTo : Nat → Int32) (aw_bases : Nat → Int32) (x4 : Int32) (au_table : Nat → Int32) : Prop := ((fv_joins ≤ x4 → (Q au_table)) ∧ (¬ fv_joins ≤ x4 → (vp_in x4 72 ∧ (∀ y_3 : Int32, y_3 = av_joinTo x4.toNatClampNeg → (∀ x_4 : Int32, x_4 = p3 - 1 → (vp_in x4 72 ∧ (∀ y_6 : Int32, y_6 = av_joinFrom x4.toNatClampNeg → (wp_Co_at (fun r_8 v_7 => vp_in y_3 64 ∧ (∀ y_10 : Int32, y_10 = av_placeBases y_3.toNatClampNeg → (wp_Re_costOn (fun r_12 v_11 => ∀ x_13 : Int32, x_13 = r_8 + r_12 → (wp_Co_lower (fun r_15 v_14 => ∀ x4_16 : Int32, x4_16 = x4 + 1 → (K_3 x4_16 v_14)) p3 y_3 x_13 au_table)) p3 y_10 aw_bases))) x_4 y_6 au_table))))))))
def w_Co_comeFromRowBefore_3 (Q : (Nat → Int32) → Prop)  (p3 : Int32) (fv_joins : Int32) (av_placeBases : Nat → Int32) (av_joinFrom : Nat → Int32) (av_joinTo : Nat → Int32) (aw_bases : Nat → Int32) : Nat → Int32 → (Nat → Int32) → Prop
  | 0 => fun _ _ => False
  | n + 1 => fun x4 au_table => w_Co_comeFromRowBefore_3B Q  (w_Co_comeFromRowBefore_3 Q  p3 fv_joins av_placeBases av_joinFrom av_joinTo aw_bases n) p3 fv_joins av_placeBases av_joinFrom av_joinTo aw_bases x4 au_table
def wp_Co_comeFromRowBefore (Q : (Nat → Int32) → Prop) (p3 : Int32) (au_table : Nat → Int32) (fv_joins : Int32) (av_placeBases : Nat → Int32) (av_joinFrom : Nat → Int32) (av_joinTo : Nat → Int32) (aw_bases : Nat → Int32) : Prop := ∃ fu_3 : Nat, w_Co_comeFromRowBefore_3 Q p3 fv_joins av_placeBases av_joinFrom av_joinTo aw_bases fu_3 0 au_table
abbrev rm_Co_comeFromRowBefore : Room := { frames := 2, cells := 0, slots := 0, locals := 45 }
set_option maxHeartbeats 4000000 in
set_option maxRecDepth 100000 in
theorem k_Co_comeFromRowBefore (l : Launch) (dC : Nat → ClassId) (dI : Nat → Nat → Nat) (cI cC cB : ClassId) (sz : Nat) (qu : Nat) (qu_table : Nat) (qv : Nat) (qv_placeBases : Nat) (qv_joinFrom : Nat) (qv_joinTo : Nat) (qw : Nat) (qw_bases : Nat) (qv_segmentNames : Nat) (qv_sideStarts : Nat) (qv_placeSides : Nat) (qv_followers : Nat) (qv_pathNames : Nat) (qv_stepCounts : Nat) (qv_steps : Nat) (au_table : Nat → Int32) (fv_segments : Int32) (fv_links : Int32) (fv_paths : Int32) (fv_places : Int32) (fv_joins : Int32) (av_placeBases : Nat → Int32) (av_joinFrom : Nat → Int32) (av_joinTo : Nat → Int32) (fw_length : Int32) (aw_bases : Nat → Int32) (p3 : Int32) {Q : (Nat → Int32) → Prop} (h : wp_Co_comeFromRowBefore Q p3 au_table fv_joins av_placeBases av_joinFrom av_joinTo aw_bases) :
    CTv l y_Co_comeFromRowBefore (wM y_Co_comeFromRowBefore c_Co_comeFromRowBefore 7 none) rm_Co_comeFromRowBefore 0 0 (dC, dI) (tysL cI cC cB) [.ref qu, .ref qv, .ref qw, .int p3] (W_Co_comeFromRowBefore cI cC cB qu qu_table qv qv_placeBases qv_joinFrom qv_joinTo qw qw_bases qv_segmentNames qv_sideStarts qv_placeSides qv_followers qv_pathNames qv_stepCounts qv_steps au_table fv_segments fv_links fv_paths fv_places fv_joins av_placeBases av_joinFrom av_joinTo fw_length aw_bases) sz Q (fun (v : (Nat → Int32)) (b : Unit) => (W_Co_comeFromRowBefore cI cC cB qu qu_table qv qv_placeBases qv_joinFrom qv_joinTo qw qw_bases qv_segmentNames qv_sideStarts qv_placeSides qv_followers qv_pathNames qv_stepCounts qv_steps v fv_segments fv_links fv_paths fv_places fv_joins av_placeBases av_joinFrom av_joinTo fw_length aw_bases)) := by
  refine CTv.std (by decide) (Nat.le_of_ble_eq_true rfl) ?_
  intro p e s m args below meth c A ls QF C0 hP hD hl hS hsz hnm hret
  obtain ⟨hx, hb, hr, hml, hown, hts, hlocks, hN, hA, hK⟩ := id C0
  have hown : s.vm.findClass R_Co = some m.cls := hown
  have hl : lv_has ls 7 [(0, .ref qu), (1, .ref qv), (2, .ref qw), (3, .int p3)] := hl
  clear hsz hnm
  have blk_3 : ∀  (n : Nat) (x4 : Int32) (au_table : Nat → Int32)  (H : Heap) (locs : List Loc) (ls : Array Slot), w_Co_comeFromRowBefore_3 Q  p3 fv_joins av_placeBases av_joinFrom av_joinTo aw_bases n x4 au_table → va_P (dC, dI) cls (W_Co_comeFromRowBefore cI cC cB qu qu_table qv qv_placeBases qv_joinFrom qv_joinTo qw qw_bases qv_segmentNames qv_sideStarts qv_placeSides qv_followers qv_pathNames qv_stepCounts qv_steps au_table fv_segments fv_links fv_paths fv_places fv_joins av_placeBases av_joinFrom av_joinTo fw_length aw_bases) H → va_D A (W_Co_comeFromRowBefore cI cC cB qu qu_table qv qv_placeBases qv_joinFrom qv_joinTo qw qw_bases qv_segmentNames qv_sideStarts qv_placeSides qv_followers qv_pathNames qv_stepCounts qv_steps au_table fv_segments fv_links fv_paths fv_places fv_joins av_placeBases av_joinFrom av_joinTo fw_length aw_bases) → va_S A s.heap H locs → lv_has ls 7 [(0, .ref qu), (1, .ref qv), (2, .ref qw), (3, .int p3), (4, .int x4)] → W p l e rm_Co_comeFromRowBefore s m args below meth c H locs 0 0 QF (F0 m 3 ls []) := by
    intro  n
    induction n with
    | zero => intro x4 au_table  H locs ls h; exact (show False from h).elim
    | succ n ih =>
      intro x4 au_table  H locs ls h hP hD hS hl
      have h : w_Co_comeFromRowBefore_3B Q  (w_Co_comeFromRowBefore_3 Q  p3 fv_joins av_placeBases av_joinFrom av_joinTo aw_bases n) p3 fv_joins av_placeBases av_joinFrom av_joinTo aw_bases x4 au_table := h
      generalize w_Co_comeFromRowBefore_3 Q  p3 fv_joins av_placeBases av_joinFrom av_joinTo aw_bases n = K_3 at h ih
      unfold w_Co_comeFromRowBefore_3B at h
      refine lv_iload hx hb d_Co_comeFromRowBefore_3 (lv_at hl 4 rfl) ?_
      refine lv_aload_n hx hb d_Co_comeFromRowBefore_5 rfl (lv_at hl 1 rfl) ?_
      refine va_get (D := (dC, dI)) (ci := 5) (v := .int fv_joins) (C := R_Gr) (T := T_Gr) (N := 15) hx hb hts in_Gr hown hK hP 2 rfl rfl 4 (by decide) (hts _ w_164) (fun _ h9 => h9) rfl d_Co_comeFromRowBefore_6 ?_
      refine lv_icmp_ge (tgt := 66) hx hb d_Co_comeFromRowBefore_9 (by decide) (fun c_1 => ?_) (fun c_1 => ?_)
      · have h := h.1 c_1
        exact hret au_table () _ _ _ _ h hP hD hS d_Co_comeFromRowBefore_66
      · have h := h.2 c_1
        refine lv_aload_n hx hb d_Co_comeFromRowBefore_12 rfl (lv_at hl 1 rfl) ?_
        refine va_get (D := (dC, dI)) (ci := 5) (v := .ref qv_joinTo) (C := R_Gr) (T := T_Gr) (N := 15) hx hb hts in_Gr hown hK hP 2 rfl rfl 14 (by decide) (hts _ w_165) (fun _ h9 => h9) rfl d_Co_comeFromRowBefore_13 ?_
        refine lv_iload hx hb d_Co_comeFromRowBefore_16 (lv_at hl 4 rfl) ?_
        have hi_2 := h.1
        have h := h.2
        refine va_iald hx hb hK hP 5 0 rfl rfl hi_2 d_Co_comeFromRowBefore_18 ?_
        refine lv_topi (fun y_3 ey_3 => ?_)
        have h := h y_3 ey_3
        refine lv_istore (lv' := [(5, .int y_3), (0, .ref qu), (1, .ref qv), (2, .ref qw), (3, .int p3), (4, .int x4)]) hx hb d_Co_comeFromRowBefore_19 hl (by decide) rfl (fun ls hl => ?_)
        refine lv_aload_n hx hb d_Co_comeFromRowBefore_21 rfl (lv_at hl 1 rfl) ?_
        refine lv_iload_n hx hb d_Co_comeFromRowBefore_22 rfl (lv_at hl 4 rfl) ?_
        refine lv_iconst (v := 1) hx hb d_Co_comeFromRowBefore_23 (by decide) ?_
        refine lv_isub hx hb d_Co_comeFromRowBefore_24 ?_
        refine lv_topi (fun x_4 ex_4 => ?_)
        have h := h x_4 ex_4
        refine lv_aload_n hx hb d_Co_comeFromRowBefore_25 rfl (lv_at hl 2 rfl) ?_
        refine va_get (D := (dC, dI)) (ci := 5) (v := .ref qv_joinFrom) (C := R_Gr) (T := T_Gr) (N := 15) hx hb hts in_Gr hown hK hP 2 rfl rfl 13 (by decide) (hts _ w_166) (fun _ h9 => h9) rfl d_Co_comeFromRowBefore_26 ?_
        refine lv_iload hx hb d_Co_comeFromRowBefore_29 (lv_at hl 5 rfl) ?_
        have hi_5 := h.1
        have h := h.2
        refine va_iald hx hb hK hP 4 0 rfl rfl hi_5 d_Co_comeFromRowBefore_31 ?_
        refine lv_topi (fun y_6 ey_6 => ?_)
        have h := h y_6 ey_6
        refine call_V_i (As := [.int x_4, .int y_6]) (rest := []) C0 hP hD hS [0, 1] [2, 3, 4, 5, 6, 7] [6, 7, 0, 1, 2, 3, 4, 5] [(qv, .inr (5, [.int fv_segments, .int fv_links, .int fv_paths, .int fv_places, .int fv_joins, .ref qv_segmentNames, .ref qv_sideStarts, .ref qv_placeBases, .ref qv_placeSides, .ref qv_followers, .ref qv_pathNames, .ref qv_stepCounts, .ref qv_steps, .ref qv_joinFrom, .ref qv_joinTo])), (qv_placeBases, .inl (cC, 64, .inl av_placeBases)), (qv_joinFrom, .inl (cI, 72, .inl av_joinFrom)), (qv_joinTo, .inl (cI, 72, .inl av_joinTo)), (qw, .inr (2, [.ref qw_bases, .int fw_length])), (qw_bases, .inl (cC, 12, .inl aw_bases))] (fun (v : Unit) (b : Unit) => (W_Co_comeFromRowBefore cI cC cB qu qu_table qv qv_placeBases qv_joinFrom qv_joinTo qw qw_bases qv_segmentNames qv_sideStarts qv_placeSides qv_followers qv_pathNames qv_stepCounts qv_steps au_table fv_segments fv_links fv_paths fv_places fv_joins av_placeBases av_joinFrom av_joinTo fw_length aw_bases)) (ci := 3) rfl rfl (k_Co_at l dC dI cI cC cB _ qu qu_table au_table x_4 y_6 h) (g_V w_169 w_170 w_171 w_172 w_168) 2 rfl (by decide +kernel) rfl rfl ⟨Nat.le_of_ble_eq_true rfl, Nat.le_of_ble_eq_true rfl⟩ rfl rfl (by decide) (by decide) (by decide) (by decide) (fun _ _ => rfl) hl.1 rfl (Nat.le_of_ble_eq_true rfl) d_Co_comeFromRowBefore_32 ⟨Nat.le_of_ble_eq_true rfl, Nat.le_of_ble_eq_true rfl⟩ (fun r_8 v_7 _ H locs h hP hD hS => ?_)
        have hP : va_P (dC, dI) cls (W_Co_comeFromRowBefore cI cC cB qu qu_table qv qv_placeBases qv_joinFrom qv_joinTo qw qw_bases qv_segmentNames qv_sideStarts qv_placeSides qv_followers qv_pathNames qv_stepCounts qv_steps au_table fv_segments fv_links fv_paths fv_places fv_joins av_placeBases av_joinFrom av_joinTo fw_length aw_bases) H := hP
        have hD : va_D A (W_Co_comeFromRowBefore cI cC cB qu qu_table qv qv_placeBases qv_joinFrom qv_joinTo qw qw_bases qv_segmentNames qv_sideStarts qv_placeSides qv_followers qv_pathNames qv_stepCounts qv_steps au_table fv_segments fv_links fv_paths fv_places fv_joins av_placeBases av_joinFrom av_joinTo fw_length aw_bases) := hD
        refine lv_aload_n hx hb d_Co_comeFromRowBefore_35 rfl (lv_at hl 3 rfl) ?_
        refine lv_iload_n hx hb d_Co_comeFromRowBefore_36 rfl (lv_at hl 4 rfl) ?_
        refine lv_aload_n hx hb d_Co_comeFromRowBefore_37 rfl (lv_at hl 2 rfl) ?_
        refine va_get (D := (dC, dI)) (ci := 5) (v := .ref qv_placeBases) (C := R_Gr) (T := T_Gr) (N := 15) hx hb hts in_Gr hown hK hP 2 rfl rfl 7 (by decide) (hts _ w_182) (fun _ h9 => h9) rfl d_Co_comeFromRowBefore_38 ?_
        refine lv_iload hx hb d_Co_comeFromRowBefore_41 (lv_at hl 0 rfl) ?_
        have hi_9 := h.1
        have h := h.2
        refine va_cald hx hb hK hP 3 1 rfl rfl hi_9 d_Co_comeFromRowBefore_43 ?_
        refine lv_topi (fun y_10 ey_10 => ?_)
        have h := h y_10 ey_10
        refine call_V_i (As := [.int p3, .int y_10]) (rest := [.int r_8]) C0 hP hD hS [6, 7] [0, 1, 2, 3, 4, 5] [0, 1, 2, 3, 4, 5, 6, 7] [(qu, .inr (3, [.ref qu_table])), (qu_table, .inl (cI, 832, .inl au_table)), (qv, .inr (5, [.int fv_segments, .int fv_links, .int fv_paths, .int fv_places, .int fv_joins, .ref qv_segmentNames, .ref qv_sideStarts, .ref qv_placeBases, .ref qv_placeSides, .ref qv_followers, .ref qv_pathNames, .ref qv_stepCounts, .ref qv_steps, .ref qv_joinFrom, .ref qv_joinTo])), (qv_placeBases, .inl (cC, 64, .inl av_placeBases)), (qv_joinFrom, .inl (cI, 72, .inl av_joinFrom)), (qv_joinTo, .inl (cI, 72, .inl av_joinTo))] (fun (v : Unit) (b : Unit) => (W_Co_comeFromRowBefore cI cC cB qu qu_table qv qv_placeBases qv_joinFrom qv_joinTo qw qw_bases qv_segmentNames qv_sideStarts qv_placeSides qv_followers qv_pathNames qv_stepCounts qv_steps au_table fv_segments fv_links fv_paths fv_places fv_joins av_placeBases av_joinFrom av_joinTo fw_length aw_bases)) (ci := 2) rfl rfl (k_Re_costOn l dC dI cI cC cB _ qw qw_bases fw_length aw_bases p3 y_10 h) (g_V w_188 w_189 w_190 w_161 w_187) 2 rfl (by decide +kernel) rfl rfl ⟨Nat.le_of_ble_eq_true rfl, Nat.le_of_ble_eq_true rfl⟩ rfl rfl (by decide) (by decide) (by decide) (by decide) (fun _ _ => rfl) hl.1 rfl (Nat.le_of_ble_eq_true rfl) d_Co_comeFromRowBefore_44 ⟨Nat.le_of_ble_eq_true rfl, Nat.le_of_ble_eq_true rfl⟩ (fun r_12 v_11 _ H locs h hP hD hS => ?_)
        have hP : va_P (dC, dI) cls (W_Co_comeFromRowBefore cI cC cB qu qu_table qv qv_placeBases qv_joinFrom qv_joinTo qw qw_bases qv_segmentNames qv_sideStarts qv_placeSides qv_followers qv_pathNames qv_stepCounts qv_steps au_table fv_segments fv_links fv_paths fv_places fv_joins av_placeBases av_joinFrom av_joinTo fw_length aw_bases) H := hP
        have hD : va_D A (W_Co_comeFromRowBefore cI cC cB qu qu_table qv qv_placeBases qv_joinFrom qv_joinTo qw qw_bases qv_segmentNames qv_sideStarts qv_placeSides qv_followers qv_pathNames qv_stepCounts qv_steps au_table fv_segments fv_links fv_paths fv_places fv_joins av_placeBases av_joinFrom av_joinTo fw_length aw_bases) := hD
        refine lv_iadd hx hb d_Co_comeFromRowBefore_47 ?_
        refine lv_topi (fun x_13 ex_13 => ?_)
        have h := h x_13 ex_13
        refine lv_istore (lv' := [(6, .int x_13), (5, .int y_3), (0, .ref qu), (1, .ref qv), (2, .ref qw), (3, .int p3), (4, .int x4)]) hx hb d_Co_comeFromRowBefore_48 hl (by decide) rfl (fun ls hl => ?_)
        refine lv_aload_n hx hb d_Co_comeFromRowBefore_50 rfl (lv_at hl 2 rfl) ?_
        refine lv_iload_n hx hb d_Co_comeFromRowBefore_51 rfl (lv_at hl 5 rfl) ?_
        refine lv_iload hx hb d_Co_comeFromRowBefore_52 (lv_at hl 1 rfl) ?_
        refine lv_iload hx hb d_Co_comeFromRowBefore_54 (lv_at hl 0 rfl) ?_
        refine call_V_i (As := [.int p3, .int y_3, .int x_13]) (rest := []) C0 hP hD hS [0, 1] [2, 3, 4, 5, 6, 7] [6, 7, 0, 1, 2, 3, 4, 5] [(qv, .inr (5, [.int fv_segments, .int fv_links, .int fv_paths, .int fv_places, .int fv_joins, .ref qv_segmentNames, .ref qv_sideStarts, .ref qv_placeBases, .ref qv_placeSides, .ref qv_followers, .ref qv_pathNames, .ref qv_stepCounts, .ref qv_steps, .ref qv_joinFrom, .ref qv_joinTo])), (qv_placeBases, .inl (cC, 64, .inl av_placeBases)), (qv_joinFrom, .inl (cI, 72, .inl av_joinFrom)), (qv_joinTo, .inl (cI, 72, .inl av_joinTo)), (qw, .inr (2, [.ref qw_bases, .int fw_length])), (qw_bases, .inl (cC, 12, .inl aw_bases))] (fun (v : (Nat → Int32)) (b : Unit) => (W_Co_comeFromRowBefore cI cC cB qu qu_table qv qv_placeBases qv_joinFrom qv_joinTo qw qw_bases qv_segmentNames qv_sideStarts qv_placeSides qv_followers qv_pathNames qv_stepCounts qv_steps v fv_segments fv_links fv_paths fv_places fv_joins av_placeBases av_joinFrom av_joinTo fw_length aw_bases)) (ci := 3) rfl rfl (k_Co_lower l dC dI cI cC cB _ qu qu_table au_table p3 y_3 x_13 h) (g_V w_174 w_175 w_176 w_172 w_173) 3 rfl (by decide +kernel) rfl rfl ⟨Nat.le_of_ble_eq_true rfl, Nat.le_of_ble_eq_true rfl⟩ rfl rfl (by decide) (by decide) (by decide) (by decide) (fun _ _ => rfl) hl.1 rfl (Nat.le_of_ble_eq_true rfl) d_Co_comeFromRowBefore_56 ⟨Nat.le_of_ble_eq_true rfl, Nat.le_of_ble_eq_true rfl⟩ (fun r_15 v_14 _ H locs h hP hD hS => ?_)
        have hP : va_P (dC, dI) cls (W_Co_comeFromRowBefore cI cC cB qu qu_table qv qv_placeBases qv_joinFrom qv_joinTo qw qw_bases qv_segmentNames qv_sideStarts qv_placeSides qv_followers qv_pathNames qv_stepCounts qv_steps v_14 fv_segments fv_links fv_paths fv_places fv_joins av_placeBases av_joinFrom av_joinTo fw_length aw_bases) H := hP
        have hD : va_D A (W_Co_comeFromRowBefore cI cC cB qu qu_table qv qv_placeBases qv_joinFrom qv_joinTo qw qw_bases qv_segmentNames qv_sideStarts qv_placeSides qv_followers qv_pathNames qv_stepCounts qv_steps v_14 fv_segments fv_links fv_paths fv_places fv_joins av_placeBases av_joinFrom av_joinTo fw_length aw_bases) := hD
        refine lv_pop hx hb d_Co_comeFromRowBefore_59 rfl ?_
        obtain ⟨x4_16, ex4_16⟩ : ∃ y : Int32, y = x4 + 1 := ⟨_, rfl⟩
        have h := h x4_16 ex4_16
        refine lv_iinc (v := x4_16) (lv' := [(4, .int x4_16), (6, .int x_13), (5, .int y_3), (0, .ref qu), (1, .ref qv), (2, .ref qw), (3, .int p3)]) hx hb d_Co_comeFromRowBefore_60 hl (k := 6) rfl (by rw [ex4_16]; rfl) (by decide) rfl (fun ls hl => ?_)
        refine lv_goto (tgt := 3) hx hb d_Co_comeFromRowBefore_63 (by decide) ?_
        exact ih _ _ _ _ _ h hP hD hS (lv_sub hl [3, 4, 5, 6, 0] rfl)
  unfold wp_Co_comeFromRowBefore at h
  refine lv_iconst (v := 0) hx hb d_Co_comeFromRowBefore_0 (by decide) ?_
  refine lv_istore (lv' := [(4, .int 0), (0, .ref qu), (1, .ref qv), (2, .ref qw), (3, .int p3)]) hx hb d_Co_comeFromRowBefore_1 hl (by decide) rfl (fun ls hl => ?_)
  obtain ⟨fu_3, h⟩ := h
  exact blk_3  _ _ _ _ _ _ h hP hD hS (lv_sub hl [1, 2, 3, 4, 0] rfl)
abbrev W_Co_deletePlaces (cI cC cB : ClassId) (qu : Nat) (qu_table : Nat) (qv : Nat) (qv_joinFrom : Nat) (qv_joinTo : Nat) (qv_segmentNames : Nat) (qv_sideStarts : Nat) (qv_placeBases : Nat) (qv_placeSides : Nat) (qv_followers : Nat) (qv_pathNames : Nat) (qv_stepCounts : Nat) (qv_steps : Nat) (au_table : Nat → Int32) (fv_segments : Int32) (fv_links : Int32) (fv_paths : Int32) (fv_places : Int32) (fv_joins : Int32) (av_joinFrom : Nat → Int32) (av_joinTo : Nat → Int32) : va_W := [(qu, .inr (3, [.ref qu_table])), (qu_table, .inl (cI, 832, .inl au_table)), (qv, .inr (5, [.int fv_segments, .int fv_links, .int fv_paths, .int fv_places, .int fv_joins, .ref qv_segmentNames, .ref qv_sideStarts, .ref qv_placeBases, .ref qv_placeSides, .ref qv_followers, .ref qv_pathNames, .ref qv_stepCounts, .ref qv_steps, .ref qv_joinFrom, .ref qv_joinTo])), (qv_joinFrom, .inl (cI, 72, .inl av_joinFrom)), (qv_joinTo, .inl (cI, 72, .inl av_joinTo))]
def w_Co_deletePlaces_61 (Q : (Nat → Int32) → Prop) (K_5 : Int32 → Int32 → (Nat → Int32) → Prop) (K_21 : Int32 → Int32 → Int32 → (Nat → Int32) → Prop) (p2 : Int32) (fv_joins : Int32) (av_joinFrom : Nat → Int32) (av_joinTo : Nat → Int32) (x3 : Int32) (x4 : Int32) (x5 : Int32) (au_table : Nat → Int32) : Prop := ∀ x5_1 : Int32, x5_1 = x5 + 1 → (K_21 x3 x4 x5_1 au_table)
def w_Co_deletePlaces_21B (Q : (Nat → Int32) → Prop) (K_5 : Int32 → Int32 → (Nat → Int32) → Prop) (K_21 : Int32 → Int32 → Int32 → (Nat → Int32) → Prop) (p2 : Int32) (fv_joins : Int32) (av_joinFrom : Nat → Int32) (av_joinTo : Nat → Int32) (x3 : Int32) (x4 : Int32) (x5 : Int32) (au_table : Nat → Int32) : Prop := ((fv_joins ≤ x5 → (∀ x4_3 : Int32, x4_3 = x4 + 1 → (K_5 x3 x4_3 au_table))) ∧ (¬ fv_joins ≤ x5 → (vp_in x5 72 ∧ (∀ y_5 : Int32, y_5 = av_joinTo x5.toNatClampNeg → (vp_in x5 72 ∧ (∀ y_7 : Int32, y_7 = av_joinFrom x5.toNatClampNeg → (wp_Co_at (fun r_9 v_8 => ∀ x_10 : Int32, x_10 = r_9 + 1 → (wp_Co_lower (fun r_12 v_11 => ((r_12 = 0 → (w_Co_deletePlaces_61 Q K_5 K_21 p2 fv_joins av_joinFrom av_joinTo x3 x4 x5 v_11)) ∧ (¬ r_12 = 0 → (w_Co_deletePlaces_61 Q K_5 K_21 p2 fv_joins av_joinFrom av_joinTo 1 x4 x5 v_11)))) p2 y_5 x_10 au_table)) p2 y_7 au_table)))))))
def w_Co_deletePlaces_21 (Q : (Nat → Int32) → Prop) (K_5 : Int32 → Int32 → (Nat → Int32) → Prop) (p2 : Int32) (fv_joins : Int32) (av_joinFrom : Nat → Int32) (av_joinTo : Nat → Int32) : Nat → Int32 → Int32 → Int32 → (Nat → Int32) → Prop
  | 0 => fun _ _ _ _ => False
  | n + 1 => fun x3 x4 x5 au_table => w_Co_deletePlaces_21B Q K_5 (w_Co_deletePlaces_21 Q K_5 p2 fv_joins av_joinFrom av_joinTo n) p2 fv_joins av_joinFrom av_joinTo x3 x4 x5 au_table
def w_Co_deletePlaces_5B (Q : (Nat → Int32) → Prop)  (K_5 : Int32 → Int32 → (Nat → Int32) → Prop) (p2 : Int32) (fv_joins : Int32) (av_joinFrom : Nat → Int32) (av_joinTo : Nat → Int32) (x3 : Int32) (x4 : Int32) (au_table : Nat → Int32) : Prop := ((x3 = 0 → (Q au_table)) ∧ (¬ x3 = 0 → (((64 ≤ x4 → (Q au_table)) ∧ (¬ 64 ≤ x4 → (∃ fu_21 : Nat, w_Co_deletePlaces_21 Q K_5 p2 fv_joins av_joinFrom av_joinTo fu_21 0 x4 0 au_table))))))
def w_Co_deletePlaces_5 (Q : (Nat → Int32) → Prop)  (p2 : Int32) (fv_joins : Int32) (av_joinFrom : Nat → Int32) (av_joinTo : Nat → Int32) : Nat → Int32 → Int32 → (Nat → Int32) → Prop
  | 0 => fun _ _ _ => False
  | n + 1 => fun x3 x4 au_table => w_Co_deletePlaces_5B Q  (w_Co_deletePlaces_5 Q  p2 fv_joins av_joinFrom av_joinTo n) p2 fv_joins av_joinFrom av_joinTo x3 x4 au_table
def wp_Co_deletePlaces (Q : (Nat → Int32) → Prop) (p2 : Int32) (au_table : Nat → Int32) (fv_joins : Int32) (av_joinFrom : Nat → Int32) (av_joinTo : Nat → Int32) : Prop := ∃ fu_5 : Nat, w_Co_deletePlaces_5 Q p2 fv_joins av_joinFrom av_joinTo fu_5 1 0 au_table
abbrev rm_Co_deletePlaces : Room := { frames := 2, cells := 0, slots := 0, locals := 45 }
set_option maxHeartbeats 4000000 in
set_option maxRecDepth 100000 in
theorem k_Co_deletePlaces (l : Launch) (dC : Nat → ClassId) (dI : Nat → Nat → Nat) (cI cC cB : ClassId) (sz : Nat) (qu : Nat) (qu_table : Nat) (qv : Nat) (qv_joinFrom : Nat) (qv_joinTo : Nat) (qv_segmentNames : Nat) (qv_sideStarts : Nat) (qv_placeBases : Nat) (qv_placeSides : Nat) (qv_followers : Nat) (qv_pathNames : Nat) (qv_stepCounts : Nat) (qv_steps : Nat) (au_table : Nat → Int32) (fv_segments : Int32) (fv_links : Int32) (fv_paths : Int32) (fv_places : Int32) (fv_joins : Int32) (av_joinFrom : Nat → Int32) (av_joinTo : Nat → Int32) (p2 : Int32) {Q : (Nat → Int32) → Prop} (h : wp_Co_deletePlaces Q p2 au_table fv_joins av_joinFrom av_joinTo) :
    CTv l y_Co_deletePlaces (wM y_Co_deletePlaces c_Co_deletePlaces 6 none) rm_Co_deletePlaces 0 0 (dC, dI) (tysL cI cC cB) [.ref qu, .ref qv, .int p2] (W_Co_deletePlaces cI cC cB qu qu_table qv qv_joinFrom qv_joinTo qv_segmentNames qv_sideStarts qv_placeBases qv_placeSides qv_followers qv_pathNames qv_stepCounts qv_steps au_table fv_segments fv_links fv_paths fv_places fv_joins av_joinFrom av_joinTo) sz Q (fun (v : (Nat → Int32)) (b : Unit) => (W_Co_deletePlaces cI cC cB qu qu_table qv qv_joinFrom qv_joinTo qv_segmentNames qv_sideStarts qv_placeBases qv_placeSides qv_followers qv_pathNames qv_stepCounts qv_steps v fv_segments fv_links fv_paths fv_places fv_joins av_joinFrom av_joinTo)) := by
  refine CTv.std (by decide) (Nat.le_of_ble_eq_true rfl) ?_
  intro p e s m args below meth c A ls QF C0 hP hD hl hS hsz hnm hret
  obtain ⟨hx, hb, hr, hml, hown, hts, hlocks, hN, hA, hK⟩ := id C0
  have hown : s.vm.findClass R_Co = some m.cls := hown
  have hl : lv_has ls 6 [(0, .ref qu), (1, .ref qv), (2, .int p2)] := hl
  clear hsz hnm
  have blk_61 : ∀ (K_5 : Int32 → Int32 → (Nat → Int32) → Prop) (hK_5 : ∀ (x3 : Int32) (x4 : Int32) (au_table : Nat → Int32)  (H : Heap) (locs : List Loc) (ls : Array Slot), K_5 x3 x4 au_table → va_P (dC, dI) cls (W_Co_deletePlaces cI cC cB qu qu_table qv qv_joinFrom qv_joinTo qv_segmentNames qv_sideStarts qv_placeBases qv_placeSides qv_followers qv_pathNames qv_stepCounts qv_steps au_table fv_segments fv_links fv_paths fv_places fv_joins av_joinFrom av_joinTo) H → va_D A (W_Co_deletePlaces cI cC cB qu qu_table qv qv_joinFrom qv_joinTo qv_segmentNames qv_sideStarts qv_placeBases qv_placeSides qv_followers qv_pathNames qv_stepCounts qv_steps au_table fv_segments fv_links fv_paths fv_places fv_joins av_joinFrom av_joinTo) → va_S A s.heap H locs → lv_has ls 6 [(0, .ref qu), (1, .ref qv), (2, .int p2), (3, .int x3), (4, .int x4)] → W p l e rm_Co_deletePlaces s m args below meth c H locs 0 0 QF (F0 m 5 ls [])) (K_21 : Int32 → Int32 → Int32 → (Nat → Int32) → Prop) (hK_21 : ∀ (x3 : Int32) (x4 : Int32) (x5 : Int32) (au_table : Nat → Int32)  (H : Heap) (locs : List Loc) (ls : Array Slot), K_21 x3 x4 x5 au_table → va_P (dC, dI) cls (W_Co_deletePlaces cI cC cB qu qu_table qv qv_joinFrom qv_joinTo qv_segmentNames qv_sideStarts qv_placeBases qv_placeSides qv_followers qv_pathNames qv_stepCounts qv_steps au_table fv_segments fv_links fv_paths fv_places fv_joins av_joinFrom av_joinTo) H → va_D A (W_Co_deletePlaces cI cC cB qu qu_table qv qv_joinFrom qv_joinTo qv_segmentNames qv_sideStarts qv_placeBases qv_placeSides qv_followers qv_pathNames qv_stepCounts qv_steps au_table fv_segments fv_links fv_paths fv_places fv_joins av_joinFrom av_joinTo) → va_S A s.heap H locs → lv_has ls 6 [(0, .ref qu), (1, .ref qv), (2, .int p2), (3, .int x3), (4, .int x4), (5, .int x5)] → W p l e rm_Co_deletePlaces s m args below meth c H locs 0 0 QF (F0 m 21 ls [])) (x3 : Int32) (x4 : Int32) (x5 : Int32) (au_table : Nat → Int32)  (H : Heap) (locs : List Loc) (ls : Array Slot), w_Co_deletePlaces_61 Q K_5 K_21 p2 fv_joins av_joinFrom av_joinTo x3 x4 x5 au_table → va_P (dC, dI) cls (W_Co_deletePlaces cI cC cB qu qu_table qv qv_joinFrom qv_joinTo qv_segmentNames qv_sideStarts qv_placeBases qv_placeSides qv_followers qv_pathNames qv_stepCounts qv_steps au_table fv_segments fv_links fv_paths fv_places fv_joins av_joinFrom av_joinTo) H → va_D A (W_Co_deletePlaces cI cC cB qu qu_table qv qv_joinFrom qv_joinTo qv_segmentNames qv_sideStarts qv_placeBases qv_placeSides qv_followers qv_pathNames qv_stepCounts qv_steps au_table fv_segments fv_links fv_paths fv_places fv_joins av_joinFrom av_joinTo) → va_S A s.heap H locs → lv_has ls 6 [(0, .ref qu), (1, .ref qv), (2, .int p2), (3, .int x3), (4, .int x4), (5, .int x5)] → W p l e rm_Co_deletePlaces s m args below meth c H locs 0 0 QF (F0 m 61 ls []) := by
    intro K_5 hK_5 K_21 hK_21 x3 x4 x5 au_table  H locs ls h hP hD hS hl
    unfold w_Co_deletePlaces_61 at h
    obtain ⟨x5_1, ex5_1⟩ : ∃ y : Int32, y = x5 + 1 := ⟨_, rfl⟩
    have h := h x5_1 ex5_1
    refine lv_iinc (v := x5_1) (lv' := [(5, .int x5_1), (0, .ref qu), (1, .ref qv), (2, .int p2), (3, .int x3), (4, .int x4)]) hx hb d_Co_deletePlaces_61 hl (k := 5) rfl (by rw [ex5_1]; rfl) (by decide) rfl (fun ls hl => ?_)
    refine lv_goto (tgt := 21) hx hb d_Co_deletePlaces_64 (by decide) ?_
    exact hK_21 _ _ _ _ _ _ _ h hP hD hS (lv_sub hl [1, 2, 3, 4, 5, 0] rfl)
  have blk_21 : ∀ (K_5 : Int32 → Int32 → (Nat → Int32) → Prop) (hK_5 : ∀ (x3 : Int32) (x4 : Int32) (au_table : Nat → Int32)  (H : Heap) (locs : List Loc) (ls : Array Slot), K_5 x3 x4 au_table → va_P (dC, dI) cls (W_Co_deletePlaces cI cC cB qu qu_table qv qv_joinFrom qv_joinTo qv_segmentNames qv_sideStarts qv_placeBases qv_placeSides qv_followers qv_pathNames qv_stepCounts qv_steps au_table fv_segments fv_links fv_paths fv_places fv_joins av_joinFrom av_joinTo) H → va_D A (W_Co_deletePlaces cI cC cB qu qu_table qv qv_joinFrom qv_joinTo qv_segmentNames qv_sideStarts qv_placeBases qv_placeSides qv_followers qv_pathNames qv_stepCounts qv_steps au_table fv_segments fv_links fv_paths fv_places fv_joins av_joinFrom av_joinTo) → va_S A s.heap H locs → lv_has ls 6 [(0, .ref qu), (1, .ref qv), (2, .int p2), (3, .int x3), (4, .int x4)] → W p l e rm_Co_deletePlaces s m args below meth c H locs 0 0 QF (F0 m 5 ls [])) (n : Nat) (x3 : Int32) (x4 : Int32) (x5 : Int32) (au_table : Nat → Int32)  (H : Heap) (locs : List Loc) (ls : Array Slot), w_Co_deletePlaces_21 Q K_5 p2 fv_joins av_joinFrom av_joinTo n x3 x4 x5 au_table → va_P (dC, dI) cls (W_Co_deletePlaces cI cC cB qu qu_table qv qv_joinFrom qv_joinTo qv_segmentNames qv_sideStarts qv_placeBases qv_placeSides qv_followers qv_pathNames qv_stepCounts qv_steps au_table fv_segments fv_links fv_paths fv_places fv_joins av_joinFrom av_joinTo) H → va_D A (W_Co_deletePlaces cI cC cB qu qu_table qv qv_joinFrom qv_joinTo qv_segmentNames qv_sideStarts qv_placeBases qv_placeSides qv_followers qv_pathNames qv_stepCounts qv_steps au_table fv_segments fv_links fv_paths fv_places fv_joins av_joinFrom av_joinTo) → va_S A s.heap H locs → lv_has ls 6 [(0, .ref qu), (1, .ref qv), (2, .int p2), (3, .int x3), (4, .int x4), (5, .int x5)] → W p l e rm_Co_deletePlaces s m args below meth c H locs 0 0 QF (F0 m 21 ls []) := by
    intro K_5 hK_5 n
    induction n with
    | zero => intro x3 x4 x5 au_table  H locs ls h; exact (show False from h).elim
    | succ n ih =>
      intro x3 x4 x5 au_table  H locs ls h hP hD hS hl
      have h : w_Co_deletePlaces_21B Q K_5 (w_Co_deletePlaces_21 Q K_5 p2 fv_joins av_joinFrom av_joinTo n) p2 fv_joins av_joinFrom av_joinTo x3 x4 x5 au_table := h
      generalize w_Co_deletePlaces_21 Q K_5 p2 fv_joins av_joinFrom av_joinTo n = K_21 at h ih
      unfold w_Co_deletePlaces_21B at h
      refine lv_iload hx hb d_Co_deletePlaces_21 (lv_at hl 5 rfl) ?_
      refine lv_aload_n hx hb d_Co_deletePlaces_23 rfl (lv_at hl 1 rfl) ?_
      refine va_get (D := (dC, dI)) (ci := 5) (v := .int fv_joins) (C := R_Gr) (T := T_Gr) (N := 15) hx hb hts in_Gr hown hK hP 2 rfl rfl 4 (by decide) (hts _ w_164) (fun _ h9 => h9) rfl d_Co_deletePlaces_24 ?_
      refine lv_icmp_ge (tgt := 67) hx hb d_Co_deletePlaces_27 (by decide) (fun c_2 => ?_) (fun c_2 => ?_)
      · have h := h.1 c_2
        obtain ⟨x4_3, ex4_3⟩ : ∃ y : Int32, y = x4 + 1 := ⟨_, rfl⟩
        have h := h x4_3 ex4_3
        refine lv_iinc (v := x4_3) (lv' := [(4, .int x4_3), (0, .ref qu), (1, .ref qv), (2, .int p2), (3, .int x3), (5, .int x5)]) hx hb d_Co_deletePlaces_67 hl (k := 4) rfl (by rw [ex4_3]; rfl) (by decide) rfl (fun ls hl => ?_)
        refine lv_goto (tgt := 5) hx hb d_Co_deletePlaces_70 (by decide) ?_
        exact hK_5 _ _ _ _ _ _ h hP hD hS (lv_sub hl [1, 2, 3, 4, 0] rfl)
      · have h := h.2 c_2
        refine lv_aload_n hx hb d_Co_deletePlaces_30 rfl (lv_at hl 0 rfl) ?_
        refine lv_iload_n hx hb d_Co_deletePlaces_31 rfl (lv_at hl 2 rfl) ?_
        refine lv_aload_n hx hb d_Co_deletePlaces_32 rfl (lv_at hl 1 rfl) ?_
        refine va_get (D := (dC, dI)) (ci := 5) (v := .ref qv_joinTo) (C := R_Gr) (T := T_Gr) (N := 15) hx hb hts in_Gr hown hK hP 2 rfl rfl 14 (by decide) (hts _ w_165) (fun _ h9 => h9) rfl d_Co_deletePlaces_33 ?_
        refine lv_iload hx hb d_Co_deletePlaces_36 (lv_at hl 5 rfl) ?_
        have hi_4 := h.1
        have h := h.2
        refine va_iald hx hb hK hP 4 0 rfl rfl hi_4 d_Co_deletePlaces_38 ?_
        refine lv_topi (fun y_5 ey_5 => ?_)
        have h := h y_5 ey_5
        refine lv_aload_n hx hb d_Co_deletePlaces_39 rfl (lv_at hl 0 rfl) ?_
        refine lv_iload_n hx hb d_Co_deletePlaces_40 rfl (lv_at hl 2 rfl) ?_
        refine lv_aload_n hx hb d_Co_deletePlaces_41 rfl (lv_at hl 1 rfl) ?_
        refine va_get (D := (dC, dI)) (ci := 5) (v := .ref qv_joinFrom) (C := R_Gr) (T := T_Gr) (N := 15) hx hb hts in_Gr hown hK hP 2 rfl rfl 13 (by decide) (hts _ w_166) (fun _ h9 => h9) rfl d_Co_deletePlaces_42 ?_
        refine lv_iload hx hb d_Co_deletePlaces_45 (lv_at hl 5 rfl) ?_
        have hi_6 := h.1
        have h := h.2
        refine va_iald hx hb hK hP 3 0 rfl rfl hi_6 d_Co_deletePlaces_47 ?_
        refine lv_topi (fun y_7 ey_7 => ?_)
        have h := h y_7 ey_7
        refine call_V_i (As := [.int p2, .int y_7]) (rest := [.int y_5, .int p2, .ref qu]) C0 hP hD hS [0, 1] [2, 3, 4] [3, 4, 0, 1, 2] [(qv, .inr (5, [.int fv_segments, .int fv_links, .int fv_paths, .int fv_places, .int fv_joins, .ref qv_segmentNames, .ref qv_sideStarts, .ref qv_placeBases, .ref qv_placeSides, .ref qv_followers, .ref qv_pathNames, .ref qv_stepCounts, .ref qv_steps, .ref qv_joinFrom, .ref qv_joinTo])), (qv_joinFrom, .inl (cI, 72, .inl av_joinFrom)), (qv_joinTo, .inl (cI, 72, .inl av_joinTo))] (fun (v : Unit) (b : Unit) => (W_Co_deletePlaces cI cC cB qu qu_table qv qv_joinFrom qv_joinTo qv_segmentNames qv_sideStarts qv_placeBases qv_placeSides qv_followers qv_pathNames qv_stepCounts qv_steps au_table fv_segments fv_links fv_paths fv_places fv_joins av_joinFrom av_joinTo)) (ci := 3) rfl rfl (k_Co_at l dC dI cI cC cB _ qu qu_table au_table p2 y_7 h) (g_V w_169 w_170 w_171 w_172 w_168) 2 rfl (by decide +kernel) rfl rfl ⟨Nat.le_of_ble_eq_true rfl, Nat.le_of_ble_eq_true rfl⟩ rfl rfl (by decide) (by decide) (by decide) (by decide) (fun _ _ => rfl) hl.1 rfl (Nat.le_of_ble_eq_true rfl) d_Co_deletePlaces_48 ⟨Nat.le_of_ble_eq_true rfl, Nat.le_of_ble_eq_true rfl⟩ (fun r_9 v_8 _ H locs h hP hD hS => ?_)
        have hP : va_P (dC, dI) cls (W_Co_deletePlaces cI cC cB qu qu_table qv qv_joinFrom qv_joinTo qv_segmentNames qv_sideStarts qv_placeBases qv_placeSides qv_followers qv_pathNames qv_stepCounts qv_steps au_table fv_segments fv_links fv_paths fv_places fv_joins av_joinFrom av_joinTo) H := hP
        have hD : va_D A (W_Co_deletePlaces cI cC cB qu qu_table qv qv_joinFrom qv_joinTo qv_segmentNames qv_sideStarts qv_placeBases qv_placeSides qv_followers qv_pathNames qv_stepCounts qv_steps au_table fv_segments fv_links fv_paths fv_places fv_joins av_joinFrom av_joinTo) := hD
        refine lv_iconst (v := 1) hx hb d_Co_deletePlaces_51 (by decide) ?_
        refine lv_iadd hx hb d_Co_deletePlaces_52 ?_
        refine lv_topi (fun x_10 ex_10 => ?_)
        have h := h x_10 ex_10
        refine call_V_i (As := [.int p2, .int y_5, .int x_10]) (rest := []) C0 hP hD hS [0, 1] [2, 3, 4] [3, 4, 0, 1, 2] [(qv, .inr (5, [.int fv_segments, .int fv_links, .int fv_paths, .int fv_places, .int fv_joins, .ref qv_segmentNames, .ref qv_sideStarts, .ref qv_placeBases, .ref qv_placeSides, .ref qv_followers, .ref qv_pathNames, .ref qv_stepCounts, .ref qv_steps, .ref qv_joinFrom, .ref qv_joinTo])), (qv_joinFrom, .inl (cI, 72, .inl av_joinFrom)), (qv_joinTo, .inl (cI, 72, .inl av_joinTo))] (fun (v : (Nat → Int32)) (b : Unit) => (W_Co_deletePlaces cI cC cB qu qu_table qv qv_joinFrom qv_joinTo qv_segmentNames qv_sideStarts qv_placeBases qv_placeSides qv_followers qv_pathNames qv_stepCounts qv_steps v fv_segments fv_links fv_paths fv_places fv_joins av_joinFrom av_joinTo)) (ci := 3) rfl rfl (k_Co_lower l dC dI cI cC cB _ qu qu_table au_table p2 y_5 x_10 h) (g_V w_174 w_175 w_176 w_172 w_173) 3 rfl (by decide +kernel) rfl rfl ⟨Nat.le_of_ble_eq_true rfl, Nat.le_of_ble_eq_true rfl⟩ rfl rfl (by decide) (by decide) (by decide) (by decide) (fun _ _ => rfl) hl.1 rfl (Nat.le_of_ble_eq_true rfl) d_Co_deletePlaces_53 ⟨Nat.le_of_ble_eq_true rfl, Nat.le_of_ble_eq_true rfl⟩ (fun r_12 v_11 _ H locs h hP hD hS => ?_)
        have hP : va_P (dC, dI) cls (W_Co_deletePlaces cI cC cB qu qu_table qv qv_joinFrom qv_joinTo qv_segmentNames qv_sideStarts qv_placeBases qv_placeSides qv_followers qv_pathNames qv_stepCounts qv_steps v_11 fv_segments fv_links fv_paths fv_places fv_joins av_joinFrom av_joinTo) H := hP
        have hD : va_D A (W_Co_deletePlaces cI cC cB qu qu_table qv qv_joinFrom qv_joinTo qv_segmentNames qv_sideStarts qv_placeBases qv_placeSides qv_followers qv_pathNames qv_stepCounts qv_steps v_11 fv_segments fv_links fv_paths fv_places fv_joins av_joinFrom av_joinTo) := hD
        refine lv_if_eq (tgt := 61) hx hb d_Co_deletePlaces_56 (by decide) (fun c_13 => ?_) (fun c_13 => ?_)
        · have h := h.1 c_13
          exact blk_61 _ hK_5 _ ih _ _ _ _ _ _ _ h hP hD hS (lv_sub hl [0, 1, 2, 3, 4, 5] rfl)
        · have h := h.2 c_13
          refine lv_iconst (v := 1) hx hb d_Co_deletePlaces_59 (by decide) ?_
          refine lv_istore_n (lv' := [(3, .int 1), (0, .ref qu), (1, .ref qv), (2, .int p2), (4, .int x4), (5, .int x5)]) hx hb d_Co_deletePlaces_60 rfl hl (by decide) rfl (fun ls hl => ?_)
          exact blk_61 _ hK_5 _ ih _ _ _ _ _ _ _ h hP hD hS (lv_sub hl [1, 2, 3, 0, 4, 5] rfl)
  have blk_5 : ∀  (n : Nat) (x3 : Int32) (x4 : Int32) (au_table : Nat → Int32)  (H : Heap) (locs : List Loc) (ls : Array Slot), w_Co_deletePlaces_5 Q  p2 fv_joins av_joinFrom av_joinTo n x3 x4 au_table → va_P (dC, dI) cls (W_Co_deletePlaces cI cC cB qu qu_table qv qv_joinFrom qv_joinTo qv_segmentNames qv_sideStarts qv_placeBases qv_placeSides qv_followers qv_pathNames qv_stepCounts qv_steps au_table fv_segments fv_links fv_paths fv_places fv_joins av_joinFrom av_joinTo) H → va_D A (W_Co_deletePlaces cI cC cB qu qu_table qv qv_joinFrom qv_joinTo qv_segmentNames qv_sideStarts qv_placeBases qv_placeSides qv_followers qv_pathNames qv_stepCounts qv_steps au_table fv_segments fv_links fv_paths fv_places fv_joins av_joinFrom av_joinTo) → va_S A s.heap H locs → lv_has ls 6 [(0, .ref qu), (1, .ref qv), (2, .int p2), (3, .int x3), (4, .int x4)] → W p l e rm_Co_deletePlaces s m args below meth c H locs 0 0 QF (F0 m 5 ls []) := by
    intro  n
    induction n with
    | zero => intro x3 x4 au_table  H locs ls h; exact (show False from h).elim
    | succ n ih =>
      intro x3 x4 au_table  H locs ls h hP hD hS hl
      have h : w_Co_deletePlaces_5B Q  (w_Co_deletePlaces_5 Q  p2 fv_joins av_joinFrom av_joinTo n) p2 fv_joins av_joinFrom av_joinTo x3 x4 au_table := h
      generalize w_Co_deletePlaces_5 Q  p2 fv_joins av_joinFrom av_joinTo n = K_5 at h ih
      unfold w_Co_deletePlaces_5B at h
      refine lv_iload_n hx hb d_Co_deletePlaces_5 rfl (lv_at hl 3 rfl) ?_
      refine lv_if_eq (tgt := 73) hx hb d_Co_deletePlaces_6 (by decide) (fun c_14 => ?_) (fun c_14 => ?_)
      · have h := h.1 c_14
        exact hret au_table () _ _ _ _ h hP hD hS d_Co_deletePlaces_73
      · have h := h.2 c_14
        refine lv_iload hx hb d_Co_deletePlaces_9 (lv_at hl 4 rfl) ?_
        refine lv_bipush (v := 64) hx hb d_Co_deletePlaces_11 (by decide) ?_
        refine lv_icmp_ge (tgt := 73) hx hb d_Co_deletePlaces_13 (by decide) (fun c_15 => ?_) (fun c_15 => ?_)
        · have h := h.1 c_15
          exact hret au_table () _ _ _ _ h hP hD hS d_Co_deletePlaces_73
        · have h := h.2 c_15
          refine lv_iconst (v := 0) hx hb d_Co_deletePlaces_16 (by decide) ?_
          refine lv_istore_n (lv' := [(3, .int 0), (0, .ref qu), (1, .ref qv), (2, .int p2), (4, .int x4)]) hx hb d_Co_deletePlaces_17 rfl hl (by decide) rfl (fun ls hl => ?_)
          refine lv_iconst (v := 0) hx hb d_Co_deletePlaces_18 (by decide) ?_
          refine lv_istore (lv' := [(5, .int 0), (3, .int 0), (0, .ref qu), (1, .ref qv), (2, .int p2), (4, .int x4)]) hx hb d_Co_deletePlaces_19 hl (by decide) rfl (fun ls hl => ?_)
          obtain ⟨fu_21, h⟩ := h
          exact blk_21 _ ih _ _ _ _ _ _ _ _ h hP hD hS (lv_sub hl [2, 3, 4, 1, 5, 0] rfl)
  unfold wp_Co_deletePlaces at h
  refine lv_iconst (v := 1) hx hb d_Co_deletePlaces_0 (by decide) ?_
  refine lv_istore_n (lv' := [(3, .int 1), (0, .ref qu), (1, .ref qv), (2, .int p2)]) hx hb d_Co_deletePlaces_1 rfl hl (by decide) rfl (fun ls hl => ?_)
  refine lv_iconst (v := 0) hx hb d_Co_deletePlaces_2 (by decide) ?_
  refine lv_istore (lv' := [(4, .int 0), (3, .int 1), (0, .ref qu), (1, .ref qv), (2, .int p2)]) hx hb d_Co_deletePlaces_3 hl (by decide) rfl (fun ls hl => ?_)
  obtain ⟨fu_5, h⟩ := h
  exact blk_5  _ _ _ _ _ _ _ h hP hD hS (lv_sub hl [2, 3, 4, 1, 0] rfl)
abbrev W_Co_fill (cI cC cB : ClassId) (qu : Nat) (qu_table : Nat) (qv : Nat) (qv_placeBases : Nat) (qv_joinFrom : Nat) (qv_joinTo : Nat) (qw : Nat) (qw_bases : Nat) (qv_segmentNames : Nat) (qv_sideStarts : Nat) (qv_placeSides : Nat) (qv_followers : Nat) (qv_pathNames : Nat) (qv_stepCounts : Nat) (qv_steps : Nat) (au_table : Nat → Int32) (fv_segments : Int32) (fv_links : Int32) (fv_paths : Int32) (fv_places : Int32) (fv_joins : Int32) (av_placeBases : Nat → Int32) (av_joinFrom : Nat → Int32) (av_joinTo : Nat → Int32) (fw_length : Int32) (aw_bases : Nat → Int32) : va_W := [(qu, .inr (3, [.ref qu_table])), (qu_table, .inl (cI, 832, .inl au_table)), (qv, .inr (5, [.int fv_segments, .int fv_links, .int fv_paths, .int fv_places, .int fv_joins, .ref qv_segmentNames, .ref qv_sideStarts, .ref qv_placeBases, .ref qv_placeSides, .ref qv_followers, .ref qv_pathNames, .ref qv_stepCounts, .ref qv_steps, .ref qv_joinFrom, .ref qv_joinTo])), (qv_placeBases, .inl (cC, 64, .inl av_placeBases)), (qv_joinFrom, .inl (cI, 72, .inl av_joinFrom)), (qv_joinTo, .inl (cI, 72, .inl av_joinTo)), (qw, .inr (2, [.ref qw_bases, .int fw_length])), (qw_bases, .inl (cC, 12, .inl aw_bases))]
def w_Co_fill_30 (Q : (Nat → Int32) → Prop) (K_3 : Int32 → (Nat → Int32) → Prop) (p3 : Int32) (fv_places : Int32) (fv_joins : Int32) (av_placeBases : Nat → Int32) (av_joinFrom : Nat → Int32) (av_joinTo : Nat → Int32) (aw_bases : Nat → Int32) (x4 : Int32) (au_table : Nat → Int32) : Prop := wp_Co_deletePlaces (fun v_1 => ∀ x4_3 : Int32, x4_3 = x4 + 1 → (K_3 x4_3 v_1)) x4 au_table fv_joins av_joinFrom av_joinTo
def w_Co_fill_3B (Q : (Nat → Int32) → Prop)  (K_3 : Int32 → (Nat → Int32) → Prop) (p3 : Int32) (fv_places : Int32) (fv_joins : Int32) (av_placeBases : Nat → Int32) (av_joinFrom : Nat → Int32) (av_joinTo : Nat → Int32) (aw_bases : Nat → Int32) (x4 : Int32) (au_table : Nat → Int32) : Prop := ((p3 < x4 → (Q au_table)) ∧ (¬ p3 < x4 → (wp_Co_beginRow (fun v_5 => ((x4 ≤ 0 → (w_Co_fill_30 Q K_3 p3 fv_places fv_joins av_placeBases av_joinFrom av_joinTo aw_bases x4 v_5)) ∧ (¬ x4 ≤ 0 → (wp_Co_comeFromRowBefore (fun v_8 => w_Co_fill_30 Q K_3 p3 fv_places fv_joins av_placeBases av_joinFrom av_joinTo aw_bases x4 v_8) x4 v_5 fv_joins av_placeBases av_joinFrom av_joinTo aw_bases)))) x4 au_table fv_places av_placeBases aw_bases)))
def w_Co_fill_3 (Q : (Nat → Int32) → Prop)  (p3 : Int32) (fv_places : Int32) (fv_joins : Int32) (av_placeBases : Nat → Int32) (av_joinFrom : Nat → Int32) (av_joinTo : Nat → Int32) (aw_bases : Nat → Int32) : Nat → Int32 → (Nat → Int32) → Prop
  | 0 => fun _ _ => False
  | n + 1 => fun x4 au_table => w_Co_fill_3B Q  (w_Co_fill_3 Q  p3 fv_places fv_joins av_placeBases av_joinFrom av_joinTo aw_bases n) p3 fv_places fv_joins av_placeBases av_joinFrom av_joinTo aw_bases x4 au_table
def wp_Co_fill (Q : (Nat → Int32) → Prop) (p3 : Int32) (au_table : Nat → Int32) (fv_places : Int32) (fv_joins : Int32) (av_placeBases : Nat → Int32) (av_joinFrom : Nat → Int32) (av_joinTo : Nat → Int32) (aw_bases : Nat → Int32) : Prop := ∃ fu_3 : Nat, w_Co_fill_3 Q p3 fv_places fv_joins av_placeBases av_joinFrom av_joinTo aw_bases fu_3 0 au_table
abbrev rm_Co_fill : Room := { frames := 3, cells := 0, slots := 0, locals := 71 }
set_option maxHeartbeats 4000000 in
set_option maxRecDepth 100000 in
theorem k_Co_fill (l : Launch) (dC : Nat → ClassId) (dI : Nat → Nat → Nat) (cI cC cB : ClassId) (sz : Nat) (qu : Nat) (qu_table : Nat) (qv : Nat) (qv_placeBases : Nat) (qv_joinFrom : Nat) (qv_joinTo : Nat) (qw : Nat) (qw_bases : Nat) (qv_segmentNames : Nat) (qv_sideStarts : Nat) (qv_placeSides : Nat) (qv_followers : Nat) (qv_pathNames : Nat) (qv_stepCounts : Nat) (qv_steps : Nat) (au_table : Nat → Int32) (fv_segments : Int32) (fv_links : Int32) (fv_paths : Int32) (fv_places : Int32) (fv_joins : Int32) (av_placeBases : Nat → Int32) (av_joinFrom : Nat → Int32) (av_joinTo : Nat → Int32) (fw_length : Int32) (aw_bases : Nat → Int32) (p3 : Int32) {Q : (Nat → Int32) → Prop} (h : wp_Co_fill Q p3 au_table fv_places fv_joins av_placeBases av_joinFrom av_joinTo aw_bases) :
    CTv l y_Co_fill (wM y_Co_fill c_Co_fill 5 none) rm_Co_fill 0 0 (dC, dI) (tysL cI cC cB) [.ref qu, .ref qv, .ref qw, .int p3] (W_Co_fill cI cC cB qu qu_table qv qv_placeBases qv_joinFrom qv_joinTo qw qw_bases qv_segmentNames qv_sideStarts qv_placeSides qv_followers qv_pathNames qv_stepCounts qv_steps au_table fv_segments fv_links fv_paths fv_places fv_joins av_placeBases av_joinFrom av_joinTo fw_length aw_bases) sz Q (fun (v : (Nat → Int32)) (b : Unit) => (W_Co_fill cI cC cB qu qu_table qv qv_placeBases qv_joinFrom qv_joinTo qw qw_bases qv_segmentNames qv_sideStarts qv_placeSides qv_followers qv_pathNames qv_stepCounts qv_steps v fv_segments fv_links fv_paths fv_places fv_joins av_placeBases av_joinFrom av_joinTo fw_length aw_bases)) := by
  refine CTv.std (by decide) (Nat.le_of_ble_eq_true rfl) ?_
  intro p e s m args below meth c A ls QF C0 hP hD hl hS hsz hnm hret
  obtain ⟨hx, hb, hr, hml, hown, hts, hlocks, hN, hA, hK⟩ := id C0
  have hown : s.vm.findClass R_Co = some m.cls := hown
  have hl : lv_has ls 5 [(0, .ref qu), (1, .ref qv), (2, .ref qw), (3, .int p3)] := hl
  clear hsz hnm
  have blk_30 : ∀ (K_3 : Int32 → (Nat → Int32) → Prop) (hK_3 : ∀ (x4 : Int32) (au_table : Nat → Int32)  (H : Heap) (locs : List Loc) (ls : Array Slot), K_3 x4 au_table → va_P (dC, dI) cls (W_Co_fill cI cC cB qu qu_table qv qv_placeBases qv_joinFrom qv_joinTo qw qw_bases qv_segmentNames qv_sideStarts qv_placeSides qv_followers qv_pathNames qv_stepCounts qv_steps au_table fv_segments fv_links fv_paths fv_places fv_joins av_placeBases av_joinFrom av_joinTo fw_length aw_bases) H → va_D A (W_Co_fill cI cC cB qu qu_table qv qv_placeBases qv_joinFrom qv_joinTo qw qw_bases qv_segmentNames qv_sideStarts qv_placeSides qv_followers qv_pathNames qv_stepCounts qv_steps au_table fv_segments fv_links fv_paths fv_places fv_joins av_placeBases av_joinFrom av_joinTo fw_length aw_bases) → va_S A s.heap H locs → lv_has ls 5 [(0, .ref qu), (1, .ref qv), (2, .ref qw), (3, .int p3), (4, .int x4)] → W p l e rm_Co_fill s m args below meth c H locs 0 0 QF (F0 m 3 ls [])) (x4 : Int32) (au_table : Nat → Int32)  (H : Heap) (locs : List Loc) (ls : Array Slot), w_Co_fill_30 Q K_3 p3 fv_places fv_joins av_placeBases av_joinFrom av_joinTo aw_bases x4 au_table → va_P (dC, dI) cls (W_Co_fill cI cC cB qu qu_table qv qv_placeBases qv_joinFrom qv_joinTo qw qw_bases qv_segmentNames qv_sideStarts qv_placeSides qv_followers qv_pathNames qv_stepCounts qv_steps au_table fv_segments fv_links fv_paths fv_places fv_joins av_placeBases av_joinFrom av_joinTo fw_length aw_bases) H → va_D A (W_Co_fill cI cC cB qu qu_table qv qv_placeBases qv_joinFrom qv_joinTo qw qw_bases qv_segmentNames qv_sideStarts qv_placeSides qv_followers qv_pathNames qv_stepCounts qv_steps au_table fv_segments fv_links fv_paths fv_places fv_joins av_placeBases av_joinFrom av_joinTo fw_length aw_bases) → va_S A s.heap H locs → lv_has ls 5 [(0, .ref qu), (1, .ref qv), (2, .ref qw), (3, .int p3), (4, .int x4)] → W p l e rm_Co_fill s m args below meth c H locs 0 0 QF (F0 m 30 ls []) := by
    intro K_3 hK_3 x4 au_table  H locs ls h hP hD hS hl
    unfold w_Co_fill_30 at h
    refine lv_aload_n hx hb d_Co_fill_30 rfl (lv_at hl 0 rfl) ?_
    refine lv_aload_n hx hb d_Co_fill_31 rfl (lv_at hl 1 rfl) ?_
    refine lv_iload hx hb d_Co_fill_32 (lv_at hl 4 rfl) ?_
    refine call_V_v (As := [.ref qv, .int x4]) (rest := []) C0 hP hD hS [0, 1, 2, 4, 5] [3, 6, 7] [3, 4, 5, 0, 6, 7, 1, 2] [(qv_placeBases, .inl (cC, 64, .inl av_placeBases)), (qw, .inr (2, [.ref qw_bases, .int fw_length])), (qw_bases, .inl (cC, 12, .inl aw_bases))] (fun (v : (Nat → Int32)) (b : Unit) => (W_Co_fill cI cC cB qu qu_table qv qv_placeBases qv_joinFrom qv_joinTo qw qw_bases qv_segmentNames qv_sideStarts qv_placeSides qv_followers qv_pathNames qv_stepCounts qv_steps v fv_segments fv_links fv_paths fv_places fv_joins av_placeBases av_joinFrom av_joinTo fw_length aw_bases)) (ci := 3) rfl rfl (k_Co_deletePlaces l dC dI cI cC cB _ qu qu_table qv qv_joinFrom qv_joinTo qv_segmentNames qv_sideStarts qv_placeBases qv_placeSides qv_followers qv_pathNames qv_stepCounts qv_steps au_table fv_segments fv_links fv_paths fv_places fv_joins av_joinFrom av_joinTo x4 h) (g_V w_178 w_179 w_180 w_172 w_177) 2 rfl (by decide +kernel) rfl rfl ⟨Nat.le_of_ble_eq_true rfl, Nat.le_of_ble_eq_true rfl⟩ rfl rfl (by decide) (by decide) (by decide) (by decide) (fun _ _ => rfl) hl.1 rfl (Nat.le_of_ble_eq_true rfl) d_Co_fill_34 ⟨Nat.le_of_ble_eq_true rfl, Nat.le_of_ble_eq_true rfl⟩ (fun v_1 _ H locs h hP hD hS => ?_)
    have hP : va_P (dC, dI) cls (W_Co_fill cI cC cB qu qu_table qv qv_placeBases qv_joinFrom qv_joinTo qw qw_bases qv_segmentNames qv_sideStarts qv_placeSides qv_followers qv_pathNames qv_stepCounts qv_steps v_1 fv_segments fv_links fv_paths fv_places fv_joins av_placeBases av_joinFrom av_joinTo fw_length aw_bases) H := hP
    have hD : va_D A (W_Co_fill cI cC cB qu qu_table qv qv_placeBases qv_joinFrom qv_joinTo qw qw_bases qv_segmentNames qv_sideStarts qv_placeSides qv_followers qv_pathNames qv_stepCounts qv_steps v_1 fv_segments fv_links fv_paths fv_places fv_joins av_placeBases av_joinFrom av_joinTo fw_length aw_bases) := hD
    obtain ⟨x4_3, ex4_3⟩ : ∃ y : Int32, y = x4 + 1 := ⟨_, rfl⟩
    have h := h x4_3 ex4_3
    refine lv_iinc (v := x4_3) (lv' := [(4, .int x4_3), (0, .ref qu), (1, .ref qv), (2, .ref qw), (3, .int p3)]) hx hb d_Co_fill_37 hl (k := 4) rfl (by rw [ex4_3]; rfl) (by decide) rfl (fun ls hl => ?_)
    refine lv_goto (tgt := 3) hx hb d_Co_fill_40 (by decide) ?_
    exact hK_3 _ _ _ _ _ h hP hD hS (lv_sub hl [1, 2, 3, 4, 0] rfl)
  have blk_3 : ∀  (n : Nat) (x4 : Int32) (au_table : Nat → Int32)  (H : Heap) (locs : List Loc) (ls : Array Slot), w_Co_fill_3 Q  p3 fv_places fv_joins av_placeBases av_joinFrom av_joinTo aw_bases n x4 au_table → va_P (dC, dI) cls (W_Co_fill cI cC cB qu qu_table qv qv_placeBases qv_joinFrom qv_joinTo qw qw_bases qv_segmentNames qv_sideStarts qv_placeSides qv_followers qv_pathNames qv_stepCounts qv_steps au_table fv_segments fv_links fv_paths fv_places fv_joins av_placeBases av_joinFrom av_joinTo fw_length aw_bases) H → va_D A (W_Co_fill cI cC cB qu qu_table qv qv_placeBases qv_joinFrom qv_joinTo qw qw_bases qv_segmentNames qv_sideStarts qv_placeSides qv_followers qv_pathNames qv_stepCounts qv_steps au_table fv_segments fv_links fv_paths fv_places fv_joins av_placeBases av_joinFrom av_joinTo fw_length aw_bases) → va_S A s.heap H locs → lv_has ls 5 [(0, .ref qu), (1, .ref qv), (2, .ref qw), (3, .int p3), (4, .int x4)] → W p l e rm_Co_fill s m args below meth c H locs 0 0 QF (F0 m 3 ls []) := by
    intro  n
    induction n with
    | zero => intro x4 au_table  H locs ls h; exact (show False from h).elim
    | succ n ih =>
      intro x4 au_table  H locs ls h hP hD hS hl
      have h : w_Co_fill_3B Q  (w_Co_fill_3 Q  p3 fv_places fv_joins av_placeBases av_joinFrom av_joinTo aw_bases n) p3 fv_places fv_joins av_placeBases av_joinFrom av_joinTo aw_bases x4 au_table := h
      generalize w_Co_fill_3 Q  p3 fv_places fv_joins av_placeBases av_joinFrom av_joinTo aw_bases n = K_3 at h ih
      unfold w_Co_fill_3B at h
      refine lv_iload hx hb d_Co_fill_3 (lv_at hl 4 rfl) ?_
      refine lv_iload_n hx hb d_Co_fill_5 rfl (lv_at hl 3 rfl) ?_
      refine lv_icmp_gt (tgt := 43) hx hb d_Co_fill_6 (by decide) (fun c_4 => ?_) (fun c_4 => ?_)
      · have h := h.1 c_4
        exact hret au_table () _ _ _ _ h hP hD hS d_Co_fill_43
      · have h := h.2 c_4
        refine lv_aload_n hx hb d_Co_fill_9 rfl (lv_at hl 0 rfl) ?_
        refine lv_aload_n hx hb d_Co_fill_10 rfl (lv_at hl 1 rfl) ?_
        refine lv_aload_n hx hb d_Co_fill_11 rfl (lv_at hl 2 rfl) ?_
        refine lv_iload hx hb d_Co_fill_12 (lv_at hl 4 rfl) ?_
        refine call_V_v (As := [.ref qv, .ref qw, .int x4]) (rest := []) C0 hP hD hS [0, 1, 2, 3, 6, 7] [4, 5] [2, 3, 4, 5, 0, 1, 6, 7] [(qv_joinFrom, .inl (cI, 72, .inl av_joinFrom)), (qv_joinTo, .inl (cI, 72, .inl av_joinTo))] (fun (v : (Nat → Int32)) (b : Unit) => (W_Co_fill cI cC cB qu qu_table qv qv_placeBases qv_joinFrom qv_joinTo qw qw_bases qv_segmentNames qv_sideStarts qv_placeSides qv_followers qv_pathNames qv_stepCounts qv_steps v fv_segments fv_links fv_paths fv_places fv_joins av_placeBases av_joinFrom av_joinTo fw_length aw_bases)) (ci := 3) rfl rfl (k_Co_beginRow l dC dI cI cC cB _ qu qu_table qv qv_placeBases qw qw_bases qv_segmentNames qv_sideStarts qv_placeSides qv_followers qv_pathNames qv_stepCounts qv_steps qv_joinFrom qv_joinTo au_table fv_segments fv_links fv_paths fv_places fv_joins av_placeBases fw_length aw_bases x4 h) (g_V w_196 w_197 w_198 w_172 w_195) 3 rfl (by decide +kernel) rfl rfl ⟨Nat.le_of_ble_eq_true rfl, Nat.le_of_ble_eq_true rfl⟩ rfl rfl (by decide) (by decide) (by decide) (by decide) (fun _ _ => rfl) hl.1 rfl (Nat.le_of_ble_eq_true rfl) d_Co_fill_14 ⟨Nat.le_of_ble_eq_true rfl, Nat.le_of_ble_eq_true rfl⟩ (fun v_5 _ H locs h hP hD hS => ?_)
        have hP : va_P (dC, dI) cls (W_Co_fill cI cC cB qu qu_table qv qv_placeBases qv_joinFrom qv_joinTo qw qw_bases qv_segmentNames qv_sideStarts qv_placeSides qv_followers qv_pathNames qv_stepCounts qv_steps v_5 fv_segments fv_links fv_paths fv_places fv_joins av_placeBases av_joinFrom av_joinTo fw_length aw_bases) H := hP
        have hD : va_D A (W_Co_fill cI cC cB qu qu_table qv qv_placeBases qv_joinFrom qv_joinTo qw qw_bases qv_segmentNames qv_sideStarts qv_placeSides qv_followers qv_pathNames qv_stepCounts qv_steps v_5 fv_segments fv_links fv_paths fv_places fv_joins av_placeBases av_joinFrom av_joinTo fw_length aw_bases) := hD
        refine lv_iload hx hb d_Co_fill_17 (lv_at hl 4 rfl) ?_
        refine lv_if_le (tgt := 30) hx hb d_Co_fill_19 (by decide) (fun c_7 => ?_) (fun c_7 => ?_)
        · have h := h.1 c_7
          exact blk_30 _ ih _ _ _ _ _ h hP hD hS (lv_sub hl [0, 1, 2, 3, 4] rfl)
        · have h := h.2 c_7
          refine lv_aload_n hx hb d_Co_fill_22 rfl (lv_at hl 0 rfl) ?_
          refine lv_aload_n hx hb d_Co_fill_23 rfl (lv_at hl 1 rfl) ?_
          refine lv_aload_n hx hb d_Co_fill_24 rfl (lv_at hl 2 rfl) ?_
          refine lv_iload hx hb d_Co_fill_25 (lv_at hl 4 rfl) ?_
          refine call_V_v (As := [.ref qv, .ref qw, .int x4]) (rest := []) C0 hP hD hS [0, 1, 2, 3, 4, 5, 6, 7] [] [0, 1, 2, 3, 4, 5, 6, 7] [] (fun (v : (Nat → Int32)) (b : Unit) => (W_Co_fill cI cC cB qu qu_table qv qv_placeBases qv_joinFrom qv_joinTo qw qw_bases qv_segmentNames qv_sideStarts qv_placeSides qv_followers qv_pathNames qv_stepCounts qv_steps v fv_segments fv_links fv_paths fv_places fv_joins av_placeBases av_joinFrom av_joinTo fw_length aw_bases)) (ci := 3) rfl rfl (k_Co_comeFromRowBefore l dC dI cI cC cB _ qu qu_table qv qv_placeBases qv_joinFrom qv_joinTo qw qw_bases qv_segmentNames qv_sideStarts qv_placeSides qv_followers qv_pathNames qv_stepCounts qv_steps v_5 fv_segments fv_links fv_paths fv_places fv_joins av_placeBases av_joinFrom av_joinTo fw_length aw_bases x4 h) (g_V w_192 w_193 w_194 w_172 w_191) 3 rfl (by decide +kernel) rfl rfl ⟨Nat.le_of_ble_eq_true rfl, Nat.le_of_ble_eq_true rfl⟩ rfl rfl (by decide) (by decide) (by decide) (by decide) (fun _ _ => rfl) hl.1 rfl (Nat.le_of_ble_eq_true rfl) d_Co_fill_27 ⟨Nat.le_of_ble_eq_true rfl, Nat.le_of_ble_eq_true rfl⟩ (fun v_8 _ H locs h hP hD hS => ?_)
          have hP : va_P (dC, dI) cls (W_Co_fill cI cC cB qu qu_table qv qv_placeBases qv_joinFrom qv_joinTo qw qw_bases qv_segmentNames qv_sideStarts qv_placeSides qv_followers qv_pathNames qv_stepCounts qv_steps v_8 fv_segments fv_links fv_paths fv_places fv_joins av_placeBases av_joinFrom av_joinTo fw_length aw_bases) H := hP
          have hD : va_D A (W_Co_fill cI cC cB qu qu_table qv qv_placeBases qv_joinFrom qv_joinTo qw qw_bases qv_segmentNames qv_sideStarts qv_placeSides qv_followers qv_pathNames qv_stepCounts qv_steps v_8 fv_segments fv_links fv_paths fv_places fv_joins av_placeBases av_joinFrom av_joinTo fw_length aw_bases) := hD
          exact blk_30 _ ih _ _ _ _ _ h hP hD hS (lv_sub hl [0, 1, 2, 3, 4] rfl)
  unfold wp_Co_fill at h
  refine lv_iconst (v := 0) hx hb d_Co_fill_0 (by decide) ?_
  refine lv_istore (lv' := [(4, .int 0), (0, .ref qu), (1, .ref qv), (2, .ref qw), (3, .int p3)]) hx hb d_Co_fill_1 hl (by decide) rfl (fun ls hl => ?_)
  obtain ⟨fu_3, h⟩ := h
  exact blk_3  _ _ _ _ _ _ h hP hD hS (lv_sub hl [1, 2, 3, 4, 0] rfl)
abbrev W_Co_bestPlace (cI cC cB : ClassId) (qu : Nat) (qu_table : Nat) (qv : Nat) (qv_segmentNames : Nat) (qv_sideStarts : Nat) (qv_placeBases : Nat) (qv_placeSides : Nat) (qv_followers : Nat) (qv_pathNames : Nat) (qv_stepCounts : Nat) (qv_steps : Nat) (qv_joinFrom : Nat) (qv_joinTo : Nat) (au_table : Nat → Int32) (fv_segments : Int32) (fv_links : Int32) (fv_paths : Int32) (fv_places : Int32) (fv_joins : Int32) : va_W := [(qu, .inr (3, [.ref qu_table])), (qu_table, .inl (cI, 832, .inl au_table)), (qv, .inr (5, [.int fv_segments, .int fv_links, .int fv_paths, .int fv_places, .int fv_joins, .ref qv_segmentNames, .ref qv_sideStarts, .ref qv_placeBases, .ref qv_placeSides, .ref qv_followers, .ref qv_pathNames, .ref qv_stepCounts, .ref qv_steps, .ref qv_joinFrom, .ref qv_joinTo]))]
def w_Co_bestPlace_33 (Q : Int32 → Unit → Prop) (K_5 : Int32 → Int32 → Prop) (p2 : Int32) (au_table : Nat → Int32) (fv_places : Int32) (x3 : Int32) (x4 : Int32) : Prop := ∀ x4_1 : Int32, x4_1 = x4 + 1 → (K_5 x3 x4_1)
def w_Co_bestPlace_5B (Q : Int32 → Unit → Prop)  (K_5 : Int32 → Int32 → Prop) (p2 : Int32) (au_table : Nat → Int32) (fv_places : Int32) (x3 : Int32) (x4 : Int32) : Prop := ((fv_places ≤ x4 → (Q x3 ())) ∧ (¬ fv_places ≤ x4 → (wp_Co_at (fun r_4 v_3 => wp_Co_at (fun r_6 v_5 => ((r_6 ≤ r_4 → (w_Co_bestPlace_33 Q K_5 p2 au_table fv_places x3 x4)) ∧ (¬ r_6 ≤ r_4 → (w_Co_bestPlace_33 Q K_5 p2 au_table fv_places x4 x4)))) p2 x3 au_table) p2 x4 au_table)))
def w_Co_bestPlace_5 (Q : Int32 → Unit → Prop)  (p2 : Int32) (au_table : Nat → Int32) (fv_places : Int32) : Nat → Int32 → Int32 → Prop
  | 0 => fun _ _ => False
  | n + 1 => fun x3 x4 => w_Co_bestPlace_5B Q  (w_Co_bestPlace_5 Q  p2 au_table fv_places n) p2 au_table fv_places x3 x4
def wp_Co_bestPlace (Q : Int32 → Unit → Prop) (p2 : Int32) (au_table : Nat → Int32) (fv_places : Int32) : Prop := ∃ fu_5 : Nat, w_Co_bestPlace_5 Q p2 au_table fv_places fu_5 0 1
abbrev rm_Co_bestPlace : Room := { frames := 1, cells := 0, slots := 0, locals := 22 }
set_option maxHeartbeats 4000000 in
set_option maxRecDepth 100000 in
theorem k_Co_bestPlace (l : Launch) (dC : Nat → ClassId) (dI : Nat → Nat → Nat) (cI cC cB : ClassId) (sz : Nat) (qu : Nat) (qu_table : Nat) (qv : Nat) (qv_segmentNames : Nat) (qv_sideStarts : Nat) (qv_placeBases : Nat) (qv_placeSides : Nat) (qv_followers : Nat) (qv_pathNames : Nat) (qv_stepCounts : Nat) (qv_steps : Nat) (qv_joinFrom : Nat) (qv_joinTo : Nat) (au_table : Nat → Int32) (fv_segments : Int32) (fv_links : Int32) (fv_paths : Int32) (fv_places : Int32) (fv_joins : Int32) (p2 : Int32) {Q : Int32 → Unit → Prop} (h : wp_Co_bestPlace Q p2 au_table fv_places) :
    CTi l y_Co_bestPlace (wM y_Co_bestPlace c_Co_bestPlace 5 (some .int)) rm_Co_bestPlace 0 0 (dC, dI) (tysL cI cC cB) [.ref qu, .ref qv, .int p2] (W_Co_bestPlace cI cC cB qu qu_table qv qv_segmentNames qv_sideStarts qv_placeBases qv_placeSides qv_followers qv_pathNames qv_stepCounts qv_steps qv_joinFrom qv_joinTo au_table fv_segments fv_links fv_paths fv_places fv_joins) sz Q (fun (v : Unit) (b : Unit) => (W_Co_bestPlace cI cC cB qu qu_table qv qv_segmentNames qv_sideStarts qv_placeBases qv_placeSides qv_followers qv_pathNames qv_stepCounts qv_steps qv_joinFrom qv_joinTo au_table fv_segments fv_links fv_paths fv_places fv_joins)) := by
  refine CTi.std (by decide) (Nat.le_of_ble_eq_true rfl) ?_
  intro p e s m args below meth c A ls QF C0 hP hD hl hS hsz hnm hret
  obtain ⟨hx, hb, hr, hml, hown, hts, hlocks, hN, hA, hK⟩ := id C0
  have hown : s.vm.findClass R_Co = some m.cls := hown
  have hl : lv_has ls 5 [(0, .ref qu), (1, .ref qv), (2, .int p2)] := hl
  clear hsz hnm
  have blk_33 : ∀ (K_5 : Int32 → Int32 → Prop) (hK_5 : ∀ (x3 : Int32) (x4 : Int32)  (H : Heap) (locs : List Loc) (ls : Array Slot), K_5 x3 x4 → va_P (dC, dI) cls (W_Co_bestPlace cI cC cB qu qu_table qv qv_segmentNames qv_sideStarts qv_placeBases qv_placeSides qv_followers qv_pathNames qv_stepCounts qv_steps qv_joinFrom qv_joinTo au_table fv_segments fv_links fv_paths fv_places fv_joins) H → va_D A (W_Co_bestPlace cI cC cB qu qu_table qv qv_segmentNames qv_sideStarts qv_placeBases qv_placeSides qv_followers qv_pathNames qv_stepCounts qv_steps qv_joinFrom qv_joinTo au_table fv_segments fv_links fv_paths fv_places fv_joins) → va_S A s.heap H locs → lv_has ls 5 [(0, .ref qu), (1, .ref qv), (2, .int p2), (3, .int x3), (4, .int x4)] → W p l e rm_Co_bestPlace s m args below meth c H locs 0 0 QF (F0 m 5 ls [])) (x3 : Int32) (x4 : Int32)  (H : Heap) (locs : List Loc) (ls : Array Slot), w_Co_bestPlace_33 Q K_5 p2 au_table fv_places x3 x4 → va_P (dC, dI) cls (W_Co_bestPlace cI cC cB qu qu_table qv qv_segmentNames qv_sideStarts qv_placeBases qv_placeSides qv_followers qv_pathNames qv_stepCounts qv_steps qv_joinFrom qv_joinTo au_table fv_segments fv_links fv_paths fv_places fv_joins) H → va_D A (W_Co_bestPlace cI cC cB qu qu_table qv qv_segmentNames qv_sideStarts qv_placeBases qv_placeSides qv_followers qv_pathNames qv_stepCounts qv_steps qv_joinFrom qv_joinTo au_table fv_segments fv_links fv_paths fv_places fv_joins) → va_S A s.heap H locs → lv_has ls 5 [(0, .ref qu), (1, .ref qv), (2, .int p2), (3, .int x3), (4, .int x4)] → W p l e rm_Co_bestPlace s m args below meth c H locs 0 0 QF (F0 m 33 ls []) := by
    intro K_5 hK_5 x3 x4  H locs ls h hP hD hS hl
    unfold w_Co_bestPlace_33 at h
    obtain ⟨x4_1, ex4_1⟩ : ∃ y : Int32, y = x4 + 1 := ⟨_, rfl⟩
    have h := h x4_1 ex4_1
    refine lv_iinc (v := x4_1) (lv' := [(4, .int x4_1), (0, .ref qu), (1, .ref qv), (2, .int p2), (3, .int x3)]) hx hb d_Co_bestPlace_33 hl (k := 4) rfl (by rw [ex4_1]; rfl) (by decide) rfl (fun ls hl => ?_)
    refine lv_goto (tgt := 5) hx hb d_Co_bestPlace_36 (by decide) ?_
    exact hK_5 _ _ _ _ _ h hP hD hS (lv_sub hl [1, 2, 3, 4, 0] rfl)
  have blk_5 : ∀  (n : Nat) (x3 : Int32) (x4 : Int32)  (H : Heap) (locs : List Loc) (ls : Array Slot), w_Co_bestPlace_5 Q  p2 au_table fv_places n x3 x4 → va_P (dC, dI) cls (W_Co_bestPlace cI cC cB qu qu_table qv qv_segmentNames qv_sideStarts qv_placeBases qv_placeSides qv_followers qv_pathNames qv_stepCounts qv_steps qv_joinFrom qv_joinTo au_table fv_segments fv_links fv_paths fv_places fv_joins) H → va_D A (W_Co_bestPlace cI cC cB qu qu_table qv qv_segmentNames qv_sideStarts qv_placeBases qv_placeSides qv_followers qv_pathNames qv_stepCounts qv_steps qv_joinFrom qv_joinTo au_table fv_segments fv_links fv_paths fv_places fv_joins) → va_S A s.heap H locs → lv_has ls 5 [(0, .ref qu), (1, .ref qv), (2, .int p2), (3, .int x3), (4, .int x4)] → W p l e rm_Co_bestPlace s m args below meth c H locs 0 0 QF (F0 m 5 ls []) := by
    intro  n
    induction n with
    | zero => intro x3 x4  H locs ls h; exact (show False from h).elim
    | succ n ih =>
      intro x3 x4  H locs ls h hP hD hS hl
      have h : w_Co_bestPlace_5B Q  (w_Co_bestPlace_5 Q  p2 au_table fv_places n) p2 au_table fv_places x3 x4 := h
      generalize w_Co_bestPlace_5 Q  p2 au_table fv_places n = K_5 at h ih
      unfold w_Co_bestPlace_5B at h
      refine lv_iload hx hb d_Co_bestPlace_5 (lv_at hl 4 rfl) ?_
      refine lv_aload_n hx hb d_Co_bestPlace_7 rfl (lv_at hl 1 rfl) ?_
      refine va_get (D := (dC, dI)) (ci := 5) (v := .int fv_places) (C := R_Gr) (T := T_Gr) (N := 15) hx hb hts in_Gr hown hK hP 2 rfl rfl 3 (by decide) (hts _ w_181) (fun _ h9 => h9) rfl d_Co_bestPlace_8 ?_
      refine lv_icmp_ge (tgt := 39) hx hb d_Co_bestPlace_11 (by decide) (fun c_2 => ?_) (fun c_2 => ?_)
      · have h := h.1 c_2
        refine lv_iload_n hx hb d_Co_bestPlace_39 rfl (lv_at hl 3 rfl) ?_
        exact hret () () x3 _ _ _ _ rfl h hP hD hS d_Co_bestPlace_40
      · have h := h.2 c_2
        refine lv_aload_n hx hb d_Co_bestPlace_14 rfl (lv_at hl 0 rfl) ?_
        refine lv_iload_n hx hb d_Co_bestPlace_15 rfl (lv_at hl 2 rfl) ?_
        refine lv_iload hx hb d_Co_bestPlace_16 (lv_at hl 4 rfl) ?_
        refine call_V_i (As := [.int p2, .int x4]) (rest := []) C0 hP hD hS [0, 1] [2] [1, 2, 0] [(qv, .inr (5, [.int fv_segments, .int fv_links, .int fv_paths, .int fv_places, .int fv_joins, .ref qv_segmentNames, .ref qv_sideStarts, .ref qv_placeBases, .ref qv_placeSides, .ref qv_followers, .ref qv_pathNames, .ref qv_stepCounts, .ref qv_steps, .ref qv_joinFrom, .ref qv_joinTo]))] (fun (v : Unit) (b : Unit) => (W_Co_bestPlace cI cC cB qu qu_table qv qv_segmentNames qv_sideStarts qv_placeBases qv_placeSides qv_followers qv_pathNames qv_stepCounts qv_steps qv_joinFrom qv_joinTo au_table fv_segments fv_links fv_paths fv_places fv_joins)) (ci := 3) rfl rfl (k_Co_at l dC dI cI cC cB _ qu qu_table au_table p2 x4 h) (g_V w_169 w_170 w_171 w_172 w_168) 2 rfl (by decide +kernel) rfl rfl ⟨Nat.le_of_ble_eq_true rfl, Nat.le_of_ble_eq_true rfl⟩ rfl rfl (by decide) (by decide) (by decide) (by decide) (fun _ _ => rfl) hl.1 rfl (Nat.le_of_ble_eq_true rfl) d_Co_bestPlace_18 ⟨Nat.le_of_ble_eq_true rfl, Nat.le_of_ble_eq_true rfl⟩ (fun r_4 v_3 _ H locs h hP hD hS => ?_)
        have hP : va_P (dC, dI) cls (W_Co_bestPlace cI cC cB qu qu_table qv qv_segmentNames qv_sideStarts qv_placeBases qv_placeSides qv_followers qv_pathNames qv_stepCounts qv_steps qv_joinFrom qv_joinTo au_table fv_segments fv_links fv_paths fv_places fv_joins) H := hP
        have hD : va_D A (W_Co_bestPlace cI cC cB qu qu_table qv qv_segmentNames qv_sideStarts qv_placeBases qv_placeSides qv_followers qv_pathNames qv_stepCounts qv_steps qv_joinFrom qv_joinTo au_table fv_segments fv_links fv_paths fv_places fv_joins) := hD
        refine lv_aload_n hx hb d_Co_bestPlace_21 rfl (lv_at hl 0 rfl) ?_
        refine lv_iload_n hx hb d_Co_bestPlace_22 rfl (lv_at hl 2 rfl) ?_
        refine lv_iload_n hx hb d_Co_bestPlace_23 rfl (lv_at hl 3 rfl) ?_
        refine call_V_i (As := [.int p2, .int x3]) (rest := [.int r_4]) C0 hP hD hS [0, 1] [2] [1, 2, 0] [(qv, .inr (5, [.int fv_segments, .int fv_links, .int fv_paths, .int fv_places, .int fv_joins, .ref qv_segmentNames, .ref qv_sideStarts, .ref qv_placeBases, .ref qv_placeSides, .ref qv_followers, .ref qv_pathNames, .ref qv_stepCounts, .ref qv_steps, .ref qv_joinFrom, .ref qv_joinTo]))] (fun (v : Unit) (b : Unit) => (W_Co_bestPlace cI cC cB qu qu_table qv qv_segmentNames qv_sideStarts qv_placeBases qv_placeSides qv_followers qv_pathNames qv_stepCounts qv_steps qv_joinFrom qv_joinTo au_table fv_segments fv_links fv_paths fv_places fv_joins)) (ci := 3) rfl rfl (k_Co_at l dC dI cI cC cB _ qu qu_table au_table p2 x3 h) (g_V w_169 w_170 w_171 w_172 w_168) 2 rfl (by decide +kernel) rfl rfl ⟨Nat.le_of_ble_eq_true rfl, Nat.le_of_ble_eq_true rfl⟩ rfl rfl (by decide) (by decide) (by decide) (by decide) (fun _ _ => rfl) hl.1 rfl (Nat.le_of_ble_eq_true rfl) d_Co_bestPlace_24 ⟨Nat.le_of_ble_eq_true rfl, Nat.le_of_ble_eq_true rfl⟩ (fun r_6 v_5 _ H locs h hP hD hS => ?_)
        have hP : va_P (dC, dI) cls (W_Co_bestPlace cI cC cB qu qu_table qv qv_segmentNames qv_sideStarts qv_placeBases qv_placeSides qv_followers qv_pathNames qv_stepCounts qv_steps qv_joinFrom qv_joinTo au_table fv_segments fv_links fv_paths fv_places fv_joins) H := hP
        have hD : va_D A (W_Co_bestPlace cI cC cB qu qu_table qv qv_segmentNames qv_sideStarts qv_placeBases qv_placeSides qv_followers qv_pathNames qv_stepCounts qv_steps qv_joinFrom qv_joinTo au_table fv_segments fv_links fv_paths fv_places fv_joins) := hD
        refine lv_icmp_ge (tgt := 33) hx hb d_Co_bestPlace_27 (by decide) (fun c_7 => ?_) (fun c_7 => ?_)
        · have h := h.1 c_7
          exact blk_33 _ ih _ _ _ _ _ h hP hD hS (lv_sub hl [0, 1, 2, 3, 4] rfl)
        · have h := h.2 c_7
          refine lv_iload hx hb d_Co_bestPlace_30 (lv_at hl 4 rfl) ?_
          refine lv_istore_n (lv' := [(3, .int x4), (0, .ref qu), (1, .ref qv), (2, .int p2), (4, .int x4)]) hx hb d_Co_bestPlace_32 rfl hl (by decide) rfl (fun ls hl => ?_)
          exact blk_33 _ ih _ _ _ _ _ h hP hD hS (lv_sub hl [1, 2, 3, 0, 4] rfl)
  unfold wp_Co_bestPlace at h
  refine lv_iconst (v := 0) hx hb d_Co_bestPlace_0 (by decide) ?_
  refine lv_istore_n (lv' := [(3, .int 0), (0, .ref qu), (1, .ref qv), (2, .int p2)]) hx hb d_Co_bestPlace_1 rfl hl (by decide) rfl (fun ls hl => ?_)
  refine lv_iconst (v := 1) hx hb d_Co_bestPlace_2 (by decide) ?_
  refine lv_istore (lv' := [(4, .int 1), (3, .int 0), (0, .ref qu), (1, .ref qv), (2, .int p2)]) hx hb d_Co_bestPlace_3 hl (by decide) rfl (fun ls hl => ?_)
  obtain ⟨fu_5, h⟩ := h
  exact blk_5  _ _ _ _ _ _ h hP hD hS (lv_sub hl [2, 3, 4, 1, 0] rfl)
abbrev W_Rs_addEdit (cI cC cB : ClassId) (qu : Nat) (qu_editsBackwards : Nat) (qu_sides : Nat) (qu_walkBackwards : Nat) (fu_found : Int32) (fu_cost : Int32) (fu_walkLength : Int32) (fu_editCount : Int32) (fu_sideCount : Int32) (fu_basesLeft : Int32) (fu_place : Int32) (au_editsBackwards : Nat → Int32) : va_W := [(qu, .inr (4, [.int fu_found, .int fu_cost, .int fu_walkLength, .int fu_editCount, .int fu_sideCount, .ref qu_sides, .ref qu_walkBackwards, .ref qu_editsBackwards, .int fu_basesLeft, .int fu_place])), (qu_editsBackwards, .inl (cC, 25, .inl au_editsBackwards))]
def wp_Rs_addEdit (Q : (Int32 × (Nat → Int32)) → Prop) (p1 : Int32) (fu_editCount : Int32) (au_editsBackwards : Nat → Int32) : Prop := ((25 ≤ fu_editCount → (Q (fu_editCount, au_editsBackwards))) ∧ (¬ 25 ≤ fu_editCount → (vp_in fu_editCount 25 ∧ (∀ au_editsBackwards_3 : Nat → Int32, au_editsBackwards_3 = upd au_editsBackwards fu_editCount.toNatClampNeg (vp_nar .char p1) → (∀ x_4 : Int32, x_4 = fu_editCount + 1 → (Q (x_4, au_editsBackwards_3)))))))
abbrev rm_Rs_addEdit : Room := { frames := 0, cells := 0, slots := 0, locals := 0 }
set_option maxHeartbeats 4000000 in
set_option maxRecDepth 100000 in
theorem k_Rs_addEdit (l : Launch) (dC : Nat → ClassId) (dI : Nat → Nat → Nat) (cI cC cB : ClassId) (sz : Nat) (qu : Nat) (qu_editsBackwards : Nat) (qu_sides : Nat) (qu_walkBackwards : Nat) (fu_found : Int32) (fu_cost : Int32) (fu_walkLength : Int32) (fu_editCount : Int32) (fu_sideCount : Int32) (fu_basesLeft : Int32) (fu_place : Int32) (au_editsBackwards : Nat → Int32) (p1 : Int32) {Q : (Int32 × (Nat → Int32)) → Prop} (h : wp_Rs_addEdit Q p1 fu_editCount au_editsBackwards) :
    CTv l y_Rs_addEdit (wM y_Rs_addEdit c_Rs_addEdit 2 none) rm_Rs_addEdit 0 0 (dC, dI) (tysL cI cC cB) [.ref qu, .int p1] (W_Rs_addEdit cI cC cB qu qu_editsBackwards qu_sides qu_walkBackwards fu_found fu_cost fu_walkLength fu_editCount fu_sideCount fu_basesLeft fu_place au_editsBackwards) sz Q (fun (v : Int32 × (Nat → Int32)) (b : Unit) => (W_Rs_addEdit cI cC cB qu qu_editsBackwards qu_sides qu_walkBackwards fu_found fu_cost fu_walkLength v.1 fu_sideCount fu_basesLeft fu_place v.2)) := by
  refine CTv.std (by decide) (Nat.le_of_ble_eq_true rfl) ?_
  intro p e s m args below meth c A ls QF C0 hP hD hl hS hsz hnm hret
  obtain ⟨hx, hb, hr, hml, hown, hts, hlocks, hN, hA, hK⟩ := id C0
  have hown : s.vm.findClass R_Rs = some m.cls := hown
  have hl : lv_has ls 2 [(0, .ref qu), (1, .int p1)] := hl
  clear hsz hnm
  unfold wp_Rs_addEdit at h
  refine lv_aload_n hx hb d_Rs_addEdit_0 rfl (lv_at hl 0 rfl) ?_
  refine va_get (D := (dC, dI)) (ci := 4) (v := .int fu_editCount) (C := R_Rs) (T := T_Rs) (N := 10) hx hb hts in_Rs hown hK hP 0 rfl rfl 3 (by decide) (hts _ w_218) (fun _ h9 => h9) rfl d_Rs_addEdit_1 ?_
  refine lv_bipush (v := 25) hx hb d_Rs_addEdit_4 (by decide) ?_
  refine lv_icmp_ge (tgt := 29) hx hb d_Rs_addEdit_6 (by decide) (fun c_1 => ?_) (fun c_1 => ?_)
  · have h := h.1 c_1
    exact hret (fu_editCount, au_editsBackwards) () _ _ _ _ h hP hD hS d_Rs_addEdit_29
  · have h := h.2 c_1
    refine lv_aload_n hx hb d_Rs_addEdit_9 rfl (lv_at hl 0 rfl) ?_
    refine va_get (D := (dC, dI)) (ci := 4) (v := .ref qu_editsBackwards) (C := R_Rs) (T := T_Rs) (N := 10) hx hb hts in_Rs hown hK hP 0 rfl rfl 7 (by decide) (hts _ w_219) (fun _ h9 => h9) rfl d_Rs_addEdit_10 ?_
    refine lv_aload_n hx hb d_Rs_addEdit_13 rfl (lv_at hl 0 rfl) ?_
    refine va_get (D := (dC, dI)) (ci := 4) (v := .int fu_editCount) (C := R_Rs) (T := T_Rs) (N := 10) hx hb hts in_Rs hown hK hP 0 rfl rfl 3 (by decide) (hts _ w_218) (fun _ h9 => h9) rfl d_Rs_addEdit_14 ?_
    refine lv_iload_n hx hb d_Rs_addEdit_17 rfl (lv_at hl 1 rfl) ?_
    have hi_2 := h.1
    have h := h.2
    refine va_cast hx hb hK hP hD hS 1 1 rfl rfl hi_2 d_Rs_addEdit_18 (fun H locs hP hD hS => ?_)
    obtain ⟨au_editsBackwards_3, eau_editsBackwards_3⟩ : ∃ z : Nat → Int32, z = upd au_editsBackwards fu_editCount.toNatClampNeg (vp_nar .char p1) := ⟨_, rfl⟩
    have h := h au_editsBackwards_3 eau_editsBackwards_3
    have hP : va_P (dC, dI) cls (W_Rs_addEdit cI cC cB qu qu_editsBackwards qu_sides qu_walkBackwards fu_found fu_cost fu_walkLength fu_editCount fu_sideCount fu_basesLeft fu_place au_editsBackwards_3) H := by rw [eau_editsBackwards_3]; exact hP
    have hD : va_D A (W_Rs_addEdit cI cC cB qu qu_editsBackwards qu_sides qu_walkBackwards fu_found fu_cost fu_walkLength fu_editCount fu_sideCount fu_basesLeft fu_place au_editsBackwards_3) := by rw [eau_editsBackwards_3]; exact hD
    refine lv_aload_n hx hb d_Rs_addEdit_19 rfl (lv_at hl 0 rfl) ?_
    refine lv_dup hx hb d_Rs_addEdit_20 rfl ?_
    refine va_get (D := (dC, dI)) (ci := 4) (v := .int fu_editCount) (C := R_Rs) (T := T_Rs) (N := 10) hx hb hts in_Rs hown hK hP 0 rfl rfl 3 (by decide) (hts _ w_218) (fun _ h9 => h9) rfl d_Rs_addEdit_21 ?_
    refine lv_iconst (v := 1) hx hb d_Rs_addEdit_24 (by decide) ?_
    refine lv_iadd hx hb d_Rs_addEdit_25 ?_
    refine lv_topi (fun x_4 ex_4 => ?_)
    have h := h x_4 ex_4
    refine va_put (D := (dC, dI)) (ci := 4) (v := .int x_4) (ty := .int) (C := R_Rs) (T := T_Rs) (N := 10) hx hb hts in_Rs t_Rs t_Rs_ok n_Rs hown hK hP hD hS 0 rfl rfl 3 (by decide) (hts _ w_218) (fun _ h9 => h9) rfl (by decide +kernel) rfl rfl (Nat.le_of_ble_eq_true rfl) d_Rs_addEdit_26 (fun H locs hP hD hS => ?_)
    have hP : va_P (dC, dI) cls (W_Rs_addEdit cI cC cB qu qu_editsBackwards qu_sides qu_walkBackwards fu_found fu_cost fu_walkLength x_4 fu_sideCount fu_basesLeft fu_place au_editsBackwards_3) H := hP
    have hD : va_D A (W_Rs_addEdit cI cC cB qu qu_editsBackwards qu_sides qu_walkBackwards fu_found fu_cost fu_walkLength x_4 fu_sideCount fu_basesLeft fu_place au_editsBackwards_3) := hD
    exact hret (x_4, au_editsBackwards_3) () _ _ _ _ h hP hD hS d_Rs_addEdit_29
abbrev W_Rs_usePlace (cI cC cB : ClassId) (qu : Nat) (qu_walkBackwards : Nat) (qu_editsBackwards : Nat) (qu_sides : Nat) (fu_found : Int32) (fu_cost : Int32) (fu_walkLength : Int32) (fu_editCount : Int32) (fu_sideCount : Int32) (fu_basesLeft : Int32) (fu_place : Int32) (au_walkBackwards : Nat → Int32) (au_editsBackwards : Nat → Int32) : va_W := [(qu, .inr (4, [.int fu_found, .int fu_cost, .int fu_walkLength, .int fu_editCount, .int fu_sideCount, .ref qu_sides, .ref qu_walkBackwards, .ref qu_editsBackwards, .int fu_basesLeft, .int fu_place])), (qu_walkBackwards, .inl (cI, 25, .inl au_walkBackwards)), (qu_editsBackwards, .inl (cC, 25, .inl au_editsBackwards))]
def wp_Rs_usePlace (Q : (Int32 × Int32 × (Nat → Int32) × (Nat → Int32)) → Prop) (p1 : Int32) (fu_walkLength : Int32) (fu_editCount : Int32) (fu_place : Int32) (au_walkBackwards : Nat → Int32) (au_editsBackwards : Nat → Int32) : Prop := wp_Rs_addEdit (fun v_1 => ((25 ≤ fu_walkLength → (Q (fu_walkLength, v_1.1, au_walkBackwards, v_1.2))) ∧ (¬ 25 ≤ fu_walkLength → (vp_in fu_walkLength 25 ∧ (∀ au_walkBackwards_5 : Nat → Int32, au_walkBackwards_5 = upd au_walkBackwards fu_walkLength.toNatClampNeg fu_place → (∀ x_6 : Int32, x_6 = fu_walkLength + 1 → (Q (x_6, v_1.1, au_walkBackwards_5, v_1.2)))))))) p1 fu_editCount au_editsBackwards
abbrev rm_Rs_usePlace : Room := { frames := 1, cells := 0, slots := 0, locals := 21 }
set_option maxHeartbeats 4000000 in
set_option maxRecDepth 100000 in
theorem k_Rs_usePlace (l : Launch) (dC : Nat → ClassId) (dI : Nat → Nat → Nat) (cI cC cB : ClassId) (sz : Nat) (qu : Nat) (qu_walkBackwards : Nat) (qu_editsBackwards : Nat) (qu_sides : Nat) (fu_found : Int32) (fu_cost : Int32) (fu_walkLength : Int32) (fu_editCount : Int32) (fu_sideCount : Int32) (fu_basesLeft : Int32) (fu_place : Int32) (au_walkBackwards : Nat → Int32) (au_editsBackwards : Nat → Int32) (p1 : Int32) {Q : (Int32 × Int32 × (Nat → Int32) × (Nat → Int32)) → Prop} (h : wp_Rs_usePlace Q p1 fu_walkLength fu_editCount fu_place au_walkBackwards au_editsBackwards) :
    CTv l y_Rs_usePlace (wM y_Rs_usePlace c_Rs_usePlace 2 none) rm_Rs_usePlace 0 0 (dC, dI) (tysL cI cC cB) [.ref qu, .int p1] (W_Rs_usePlace cI cC cB qu qu_walkBackwards qu_editsBackwards qu_sides fu_found fu_cost fu_walkLength fu_editCount fu_sideCount fu_basesLeft fu_place au_walkBackwards au_editsBackwards) sz Q (fun (v : Int32 × Int32 × (Nat → Int32) × (Nat → Int32)) (b : Unit) => (W_Rs_usePlace cI cC cB qu qu_walkBackwards qu_editsBackwards qu_sides fu_found fu_cost v.1 v.2.1 fu_sideCount fu_basesLeft fu_place v.2.2.1 v.2.2.2)) := by
  refine CTv.std (by decide) (Nat.le_of_ble_eq_true rfl) ?_
  intro p e s m args below meth c A ls QF C0 hP hD hl hS hsz hnm hret
  obtain ⟨hx, hb, hr, hml, hown, hts, hlocks, hN, hA, hK⟩ := id C0
  have hown : s.vm.findClass R_Rs = some m.cls := hown
  have hl : lv_has ls 2 [(0, .ref qu), (1, .int p1)] := hl
  clear hsz hnm
  unfold wp_Rs_usePlace at h
  refine lv_aload_n hx hb d_Rs_usePlace_0 rfl (lv_at hl 0 rfl) ?_
  refine lv_iload_n hx hb d_Rs_usePlace_1 rfl (lv_at hl 1 rfl) ?_
  refine call_V_v (As := [.int p1]) (rest := []) C0 hP hD hS [0, 2] [1] [1, 0, 2] [(qu_walkBackwards, .inl (cI, 25, .inl au_walkBackwards))] (fun (v : Int32 × (Nat → Int32)) (b : Unit) => (W_Rs_usePlace cI cC cB qu qu_walkBackwards qu_editsBackwards qu_sides fu_found fu_cost fu_walkLength v.1 fu_sideCount fu_basesLeft fu_place au_walkBackwards v.2)) (ci := 4) rfl rfl (k_Rs_addEdit l dC dI cI cC cB _ qu qu_editsBackwards qu_sides qu_walkBackwards fu_found fu_cost fu_walkLength fu_editCount fu_sideCount fu_basesLeft fu_place au_editsBackwards p1 h) (g_V w_222 w_223 w_224 w_212 w_221) 1 rfl (by decide +kernel) rfl rfl ⟨Nat.le_of_ble_eq_true rfl, Nat.le_of_ble_eq_true rfl⟩ rfl rfl (by decide) (by decide) (by decide) (by decide) (fun _ _ => rfl) hl.1 rfl (Nat.le_of_ble_eq_true rfl) d_Rs_usePlace_2 ⟨Nat.le_of_ble_eq_true rfl, Nat.le_of_ble_eq_true rfl⟩ (fun v_1 _ H locs h hP hD hS => ?_)
  have hP : va_P (dC, dI) cls (W_Rs_usePlace cI cC cB qu qu_walkBackwards qu_editsBackwards qu_sides fu_found fu_cost fu_walkLength v_1.1 fu_sideCount fu_basesLeft fu_place au_walkBackwards v_1.2) H := hP
  have hD : va_D A (W_Rs_usePlace cI cC cB qu qu_walkBackwards qu_editsBackwards qu_sides fu_found fu_cost fu_walkLength v_1.1 fu_sideCount fu_basesLeft fu_place au_walkBackwards v_1.2) := hD
  refine lv_aload_n hx hb d_Rs_usePlace_5 rfl (lv_at hl 0 rfl) ?_
  refine va_get (D := (dC, dI)) (ci := 4) (v := .int fu_walkLength) (C := R_Rs) (T := T_Rs) (N := 10) hx hb hts in_Rs hown hK hP 0 rfl rfl 2 (by decide) (hts _ w_202) (fun _ h9 => h9) rfl d_Rs_usePlace_6 ?_
  refine lv_bipush (v := 25) hx hb d_Rs_usePlace_9 (by decide) ?_
  refine lv_icmp_ge (tgt := 37) hx hb d_Rs_usePlace_11 (by decide) (fun c_3 => ?_) (fun c_3 => ?_)
  · have h := h.1 c_3
    exact hret (fu_walkLength, v_1.1, au_walkBackwards, v_1.2) () _ _ _ _ h hP hD hS d_Rs_usePlace_37
  · have h := h.2 c_3
    refine lv_aload_n hx hb d_Rs_usePlace_14 rfl (lv_at hl 0 rfl) ?_
    refine va_get (D := (dC, dI)) (ci := 4) (v := .ref qu_walkBackwards) (C := R_Rs) (T := T_Rs) (N := 10) hx hb hts in_Rs hown hK hP 0 rfl rfl 6 (by decide) (hts _ w_203) (fun _ h9 => h9) rfl d_Rs_usePlace_15 ?_
    refine lv_aload_n hx hb d_Rs_usePlace_18 rfl (lv_at hl 0 rfl) ?_
    refine va_get (D := (dC, dI)) (ci := 4) (v := .int fu_walkLength) (C := R_Rs) (T := T_Rs) (N := 10) hx hb hts in_Rs hown hK hP 0 rfl rfl 2 (by decide) (hts _ w_202) (fun _ h9 => h9) rfl d_Rs_usePlace_19 ?_
    refine lv_aload_n hx hb d_Rs_usePlace_22 rfl (lv_at hl 0 rfl) ?_
    refine va_get (D := (dC, dI)) (ci := 4) (v := .int fu_place) (C := R_Rs) (T := T_Rs) (N := 10) hx hb hts in_Rs hown hK hP 0 rfl rfl 9 (by decide) (hts _ w_220) (fun _ h9 => h9) rfl d_Rs_usePlace_23 ?_
    have hi_4 := h.1
    have h := h.2
    refine va_iast hx hb hK hP hD hS 1 0 rfl rfl hi_4 d_Rs_usePlace_26 (fun H locs hP hD hS => ?_)
    obtain ⟨au_walkBackwards_5, eau_walkBackwards_5⟩ : ∃ z : Nat → Int32, z = upd au_walkBackwards fu_walkLength.toNatClampNeg fu_place := ⟨_, rfl⟩
    have h := h au_walkBackwards_5 eau_walkBackwards_5
    have hP : va_P (dC, dI) cls (W_Rs_usePlace cI cC cB qu qu_walkBackwards qu_editsBackwards qu_sides fu_found fu_cost fu_walkLength v_1.1 fu_sideCount fu_basesLeft fu_place au_walkBackwards_5 v_1.2) H := by rw [eau_walkBackwards_5]; exact hP
    have hD : va_D A (W_Rs_usePlace cI cC cB qu qu_walkBackwards qu_editsBackwards qu_sides fu_found fu_cost fu_walkLength v_1.1 fu_sideCount fu_basesLeft fu_place au_walkBackwards_5 v_1.2) := by rw [eau_walkBackwards_5]; exact hD
    refine lv_aload_n hx hb d_Rs_usePlace_27 rfl (lv_at hl 0 rfl) ?_
    refine lv_dup hx hb d_Rs_usePlace_28 rfl ?_
    refine va_get (D := (dC, dI)) (ci := 4) (v := .int fu_walkLength) (C := R_Rs) (T := T_Rs) (N := 10) hx hb hts in_Rs hown hK hP 0 rfl rfl 2 (by decide) (hts _ w_202) (fun _ h9 => h9) rfl d_Rs_usePlace_29 ?_
    refine lv_iconst (v := 1) hx hb d_Rs_usePlace_32 (by decide) ?_
    refine lv_iadd hx hb d_Rs_usePlace_33 ?_
    refine lv_topi (fun x_6 ex_6 => ?_)
    have h := h x_6 ex_6
    refine va_put (D := (dC, dI)) (ci := 4) (v := .int x_6) (ty := .int) (C := R_Rs) (T := T_Rs) (N := 10) hx hb hts in_Rs t_Rs t_Rs_ok n_Rs hown hK hP hD hS 0 rfl rfl 2 (by decide) (hts _ w_202) (fun _ h9 => h9) rfl (by decide +kernel) rfl rfl (Nat.le_of_ble_eq_true rfl) d_Rs_usePlace_34 (fun H locs hP hD hS => ?_)
    have hP : va_P (dC, dI) cls (W_Rs_usePlace cI cC cB qu qu_walkBackwards qu_editsBackwards qu_sides fu_found fu_cost x_6 v_1.1 fu_sideCount fu_basesLeft fu_place au_walkBackwards_5 v_1.2) H := hP
    have hD : va_D A (W_Rs_usePlace cI cC cB qu qu_walkBackwards qu_editsBackwards qu_sides fu_found fu_cost x_6 v_1.1 fu_sideCount fu_basesLeft fu_place au_walkBackwards_5 v_1.2) := hD
    exact hret (x_6, v_1.1, au_walkBackwards_5, v_1.2) () _ _ _ _ h hP hD hS d_Rs_usePlace_37
abbrev W_Rs_insertFirst (cI cC cB : ClassId) (qu : Nat) (qu_editsBackwards : Nat) (qu_sides : Nat) (qu_walkBackwards : Nat) (fu_found : Int32) (fu_cost : Int32) (fu_walkLength : Int32) (fu_editCount : Int32) (fu_sideCount : Int32) (fu_basesLeft : Int32) (fu_place : Int32) (au_editsBackwards : Nat → Int32) : va_W := [(qu, .inr (4, [.int fu_found, .int fu_cost, .int fu_walkLength, .int fu_editCount, .int fu_sideCount, .ref qu_sides, .ref qu_walkBackwards, .ref qu_editsBackwards, .int fu_basesLeft, .int fu_place])), (qu_editsBackwards, .inl (cC, 25, .inl au_editsBackwards))]
def w_Rs_insertFirst_2B (Q : (Int32 × (Nat → Int32)) → Prop)  (K_2 : Int32 → Int32 → (Nat → Int32) → Prop) (p1 : Int32) (x2 : Int32) (fu_editCount : Int32) (au_editsBackwards : Nat → Int32) : Prop := ((p1 ≤ x2 → (Q (fu_editCount, au_editsBackwards))) ∧ (¬ p1 ≤ x2 → (wp_Rs_addEdit (fun v_2 => ∀ x2_4 : Int32, x2_4 = x2 + 1 → (K_2 x2_4 v_2.1 v_2.2)) 73 fu_editCount au_editsBackwards)))
def w_Rs_insertFirst_2 (Q : (Int32 × (Nat → Int32)) → Prop)  (p1 : Int32) : Nat → Int32 → Int32 → (Nat → Int32) → Prop
  | 0 => fun _ _ _ => False
  | n + 1 => fun x2 fu_editCount au_editsBackwards => w_Rs_insertFirst_2B Q  (w_Rs_insertFirst_2 Q  p1 n) p1 x2 fu_editCount au_editsBackwards
def wp_Rs_insertFirst (Q : (Int32 × (Nat → Int32)) → Prop) (p1 : Int32) (fu_editCount : Int32) (au_editsBackwards : Nat → Int32) : Prop := ∃ fu_2 : Nat, w_Rs_insertFirst_2 Q p1 fu_2 0 fu_editCount au_editsBackwards
abbrev rm_Rs_insertFirst : Room := { frames := 1, cells := 0, slots := 0, locals := 21 }
set_option maxHeartbeats 4000000 in
set_option maxRecDepth 100000 in
theorem k_Rs_insertFirst (l : Launch) (dC : Nat → ClassId) (dI : Nat → Nat → Nat) (cI cC cB : ClassId) (sz : Nat) (qu : Nat) (qu_editsBackwards : Nat) (qu_sides : Nat) (qu_walkBackwards : Nat) (fu_found : Int32) (fu_cost : Int32) (fu_walkLength : Int32) (fu_editCount : Int32) (fu_sideCount : Int32) (fu_basesLeft : Int32) (fu_place : Int32) (au_editsBackwards : Nat → Int32) (p1 : Int32) {Q : (Int32 × (Nat → Int32)) → Prop} (h : wp_Rs_insertFirst Q p1 fu_editCount au_editsBackwards) :
    CTv l y_Rs_insertFirst (wM y_Rs_insertFirst c_Rs_insertFirst 3 none) rm_Rs_insertFirst 0 0 (dC, dI) (tysL cI cC cB) [.ref qu, .int p1] (W_Rs_insertFirst cI cC cB qu qu_editsBackwards qu_sides qu_walkBackwards fu_found fu_cost fu_walkLength fu_editCount fu_sideCount fu_basesLeft fu_place au_editsBackwards) sz Q (fun (v : Int32 × (Nat → Int32)) (b : Unit) => (W_Rs_insertFirst cI cC cB qu qu_editsBackwards qu_sides qu_walkBackwards fu_found fu_cost fu_walkLength v.1 fu_sideCount fu_basesLeft fu_place v.2)) := by
  refine CTv.std (by decide) (Nat.le_of_ble_eq_true rfl) ?_
  intro p e s m args below meth c A ls QF C0 hP hD hl hS hsz hnm hret
  obtain ⟨hx, hb, hr, hml, hown, hts, hlocks, hN, hA, hK⟩ := id C0
  have hown : s.vm.findClass R_Rs = some m.cls := hown
  have hl : lv_has ls 3 [(0, .ref qu), (1, .int p1)] := hl
  clear hsz hnm
  have blk_2 : ∀  (n : Nat) (x2 : Int32) (fu_editCount : Int32) (au_editsBackwards : Nat → Int32)  (H : Heap) (locs : List Loc) (ls : Array Slot), w_Rs_insertFirst_2 Q  p1 n x2 fu_editCount au_editsBackwards → va_P (dC, dI) cls (W_Rs_insertFirst cI cC cB qu qu_editsBackwards qu_sides qu_walkBackwards fu_found fu_cost fu_walkLength fu_editCount fu_sideCount fu_basesLeft fu_place au_editsBackwards) H → va_D A (W_Rs_insertFirst cI cC cB qu qu_editsBackwards qu_sides qu_walkBackwards fu_found fu_cost fu_walkLength fu_editCount fu_sideCount fu_basesLeft fu_place au_editsBackwards) → va_S A s.heap H locs → lv_has ls 3 [(0, .ref qu), (1, .int p1), (2, .int x2)] → W p l e rm_Rs_insertFirst s m args below meth c H locs 0 0 QF (F0 m 2 ls []) := by
    intro  n
    induction n with
    | zero => intro x2 fu_editCount au_editsBackwards  H locs ls h; exact (show False from h).elim
    | succ n ih =>
      intro x2 fu_editCount au_editsBackwards  H locs ls h hP hD hS hl
      have h : w_Rs_insertFirst_2B Q  (w_Rs_insertFirst_2 Q  p1 n) p1 x2 fu_editCount au_editsBackwards := h
      generalize w_Rs_insertFirst_2 Q  p1 n = K_2 at h ih
      unfold w_Rs_insertFirst_2B at h
      refine lv_iload_n hx hb d_Rs_insertFirst_2 rfl (lv_at hl 2 rfl) ?_
      refine lv_iload_n hx hb d_Rs_insertFirst_3 rfl (lv_at hl 1 rfl) ?_
      refine lv_icmp_ge (tgt := 19) hx hb d_Rs_insertFirst_4 (by decide) (fun c_1 => ?_) (fun c_1 => ?_)
      · have h := h.1 c_1
        exact hret (fu_editCount, au_editsBackwards) () _ _ _ _ h hP hD hS d_Rs_insertFirst_19
      · have h := h.2 c_1
        refine lv_aload_n hx hb d_Rs_insertFirst_7 rfl (lv_at hl 0 rfl) ?_
        refine lv_bipush (v := 73) hx hb d_Rs_insertFirst_8 (by decide) ?_
        refine call_V_v (As := [.int 73]) (rest := []) C0 hP hD hS [0, 1] [] [0, 1] [] (fun (v : Int32 × (Nat → Int32)) (b : Unit) => (W_Rs_insertFirst cI cC cB qu qu_editsBackwards qu_sides qu_walkBackwards fu_found fu_cost fu_walkLength v.1 fu_sideCount fu_basesLeft fu_place v.2)) (ci := 4) rfl rfl (k_Rs_addEdit l dC dI cI cC cB _ qu qu_editsBackwards qu_sides qu_walkBackwards fu_found fu_cost fu_walkLength fu_editCount fu_sideCount fu_basesLeft fu_place au_editsBackwards 73 h) (g_V w_222 w_223 w_224 w_212 w_221) 1 rfl (by decide +kernel) rfl rfl ⟨Nat.le_of_ble_eq_true rfl, Nat.le_of_ble_eq_true rfl⟩ rfl rfl (by decide) (by decide) (by decide) (by decide) (fun _ _ => rfl) hl.1 rfl (Nat.le_of_ble_eq_true rfl) d_Rs_insertFirst_10 ⟨Nat.le_of_ble_eq_true rfl, Nat.le_of_ble_eq_true rfl⟩ (fun v_2 _ H locs h hP hD hS => ?_)
        have hP : va_P (dC, dI) cls (W_Rs_insertFirst cI cC cB qu qu_editsBackwards qu_sides qu_walkBackwards fu_found fu_cost fu_walkLength v_2.1 fu_sideCount fu_basesLeft fu_place v_2.2) H := hP
        have hD : va_D A (W_Rs_insertFirst cI cC cB qu qu_editsBackwards qu_sides qu_walkBackwards fu_found fu_cost fu_walkLength v_2.1 fu_sideCount fu_basesLeft fu_place v_2.2) := hD
        obtain ⟨x2_4, ex2_4⟩ : ∃ y : Int32, y = x2 + 1 := ⟨_, rfl⟩
        have h := h x2_4 ex2_4
        refine lv_iinc (v := x2_4) (lv' := [(2, .int x2_4), (0, .ref qu), (1, .int p1)]) hx hb d_Rs_insertFirst_13 hl (k := 2) rfl (by rw [ex2_4]; rfl) (by decide) rfl (fun ls hl => ?_)
        refine lv_goto (tgt := 2) hx hb d_Rs_insertFirst_16 (by decide) ?_
        exact ih _ _ _ _ _ _ h hP hD hS (lv_sub hl [1, 2, 0] rfl)
  unfold wp_Rs_insertFirst at h
  refine lv_iconst (v := 0) hx hb d_Rs_insertFirst_0 (by decide) ?_
  refine lv_istore_n (lv' := [(2, .int 0), (0, .ref qu), (1, .int p1)]) hx hb d_Rs_insertFirst_1 rfl hl (by decide) rfl (fun ls hl => ?_)
  obtain ⟨fu_2, h⟩ := h
  exact blk_2  _ _ _ _ _ _ _ h hP hD hS (lv_sub hl [1, 2, 0] rfl)
