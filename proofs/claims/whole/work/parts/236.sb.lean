/-! a builder of letters: its capacity, letter by letter; what a writing method does -/
theorem sb_b128 : ∀ c, c < 128 → sb_b c = nI c := by decide +kernel
theorem gd_lo {l x : List Nat} {j : Nat} (h : j < l.length) : (l ++ x).getD j 0 = l.getD j 0 := by
  simp [List.getD, List.getElem?_append_left h]
theorem gd_hi {l x : List Nat} {j : Nat} : (l ++ x).getD (l.length + j) 0 = x.getD j 0 := by
  unfold List.getD
  rw [List.getElem?_append_right (Nat.le_add_right _ _), Nat.add_sub_cancel_left]
/-- the capacity when n letters have been written one by one -/
def gr (nv : Nat) : Nat → Nat
  | 0 => nv
  | n + 1 => if n + 1 ≤ gr nv n then gr nv n else 2 * gr nv n + 2
theorem gr_s {nv n : Nat} : gr nv (n + 1) = if n + 1 ≤ gr nv n then gr nv n else 2 * gr nv n + 2 := rfl
theorem gr_ge {nv : Nat} : ∀ {n : Nat}, nv ≤ gr nv n := by
  intro n
  induction n with
  | zero => exact Nat.le_refl _
  | succ n ih => rw [gr_s]; split <;> omega
theorem gr_le {nv : Nat} : ∀ {n : Nat}, n ≤ gr nv n := by
  intro n
  induction n with
  | zero => exact Nat.zero_le _
  | succ n ih => rw [gr_s]; split <;> omega
theorem gr_600 {nv : Nat} (h : nv ≤ 600) : ∀ {n : Nat}, n ≤ 300 → gr nv n ≤ 600 := by
  intro n
  induction n with
  | zero => exact fun _ => h
  | succ n ih => intro hn; have := ih (by omega); rw [gr_s]; split <;> omega
theorem gr_id {nv : Nat} : ∀ {n : Nat}, n ≤ nv → gr nv n = nv := by
  intro n
  induction n with
  | zero => exact fun _ => rfl
  | succ n ih =>
    intro hn
    show (if n + 1 ≤ gr nv n then gr nv n else 2 * gr nv n + 2) = nv
    rw [ih (by omega), if_pos hn]
theorem gr_gr {nv n : Nat} : ∀ {m : Nat}, n ≤ m → gr (gr nv n) m = gr nv m := by
  intro m
  induction m with
  | zero =>
    intro h
    obtain rfl : n = 0 := by omega
    rfl
  | succ m ih =>
    intro h
    by_cases w : n ≤ m
    · show (if m + 1 ≤ gr (gr nv n) m then gr (gr nv n) m else 2 * gr (gr nv n) m + 2) = (if m + 1 ≤ gr nv m then gr nv m else 2 * gr nv m + 2)
      rw [ih w]
    · obtain rfl : n = m + 1 := by omega
      exact gr_id gr_le
theorem gr_1 {nv n : Nat} (h : n ≤ nv) : gr nv (n + 1) = if n + 1 ≤ nv then nv else 2 * nv + 2 := by
  show (if n + 1 ≤ gr nv n then gr nv n else 2 * gr nv n + 2) = _
  rw [gr_id h]
theorem gr_2 {nv n : Nat} (h : n ≤ nv) : gr nv (n + 2) = if n + 2 ≤ nv then nv else 2 * nv + 2 := by
  show (if n + 1 + 1 ≤ gr nv (n + 1) then gr nv (n + 1) else 2 * gr nv (n + 1) + 2) = _
  rw [gr_1 h]
  by_cases w : n + 1 ≤ nv
  · rw [if_pos w]
  · rw [if_neg w, if_pos (by omega), if_neg (by omega)]
def SBv (nv : Nat) (av : Nat → Int32) (l : List Nat) : Prop := l.length ≤ nv ∧ 16 ≤ nv ∧ nv ≤ 600 ∧ sb_Fit av ∧ ∀ j, j < l.length → l.getD j 0 < 128 ∧ av j = nI (l.getD j 0)
theorem SBv.nil {nv : Nat} {av : Nat → Int32} {l : List Nat} (h : SBv nv av l) : SBv nv av [] := ⟨Nat.zero_le _, h.2.1, h.2.2.1, h.2.2.2.1, fun j hj => absurd hj (Nat.not_lt_zero j)⟩
theorem SBv.ext {nv nv' : Nat} {av av' : Nat → Int32} {l x : List Nat} (h : SBv nv av l) (h1 : (l ++ x).length ≤ nv') (h2 : 16 ≤ nv') (h3 : nv' ≤ 600) (h4 : sb_Fit av') (h5 : ∀ j, j < l.length → av' j = av j) (h6 : ∀ j, j < x.length → x.getD j 0 < 128 ∧ av' (l.length + j) = nI (x.getD j 0)) : SBv nv' av' (l ++ x) := by
  refine ⟨h1, h2, h3, h4, fun j hj => ?_⟩
  rw [List.length_append] at hj
  by_cases w : j < l.length
  · rw [gd_lo w, h5 j w]
    exact h.2.2.2.2 j w
  · obtain ⟨i, rfl⟩ : ∃ i, j = l.length + i := ⟨j - l.length, by omega⟩
    rw [gd_hi]
    exact h6 i (by omega)
theorem s_ensure {Q : Nat × (Nat → Int32) → Prop} {mc ms nv q : Nat} {av : Nat → Int32} (hf : sb_Fit av) (h16 : 16 ≤ nv) (h6 : nv ≤ 600) (hq : q ≤ nv + 2) (hb : q ≤ nv ∨ (1 ≤ mc ∧ 2 * nv + 2 ≤ ms)) (k : ∀ av', sb_Fit av' → (∀ j, j < nv → av' j = av j) → Q (if q ≤ nv then nv else 2 * nv + 2, av')) : wp_AB_ensureCapacityInternal Q mc ms (nI q) 0 nv av := by
  have e1 : (nI q - Int32.ofNat nv).toInt = (q : Int) - nv := pk_sub_toInt (by omega) (by omega)
  unfold wp_AB_ensureCapacityInternal
  refine nm_r (sb_shr0 (Int32.ofNat nv)) (nm_e ?_)
  by_cases h : q ≤ nv
  · refine br_t (by rw [Int32.le_iff_toInt_le, e1, Int32.toInt_zero]; omega) ?_
    have := k av hf (fun _ _ => rfl)
    rw [if_pos h] at this
    exact this
  · obtain ⟨hm1, hm2⟩ := hb.resolve_left h
    refine br_f (fun hc => h (by rw [Int32.le_iff_toInt_le, e1, Int32.toInt_zero] at hc; omega)) ?_
    unfold wp_AB_newCapacity
    refine nm_r (sb_shl0 (nI q)) (nm_r (show nI q - nI nv = nI (q - nv) from pk_sub (by omega)) (nm_r (e' := nI (nv + 2)) (by rw [sb_shl0]; exact nI_add nv 2) ?_))
    unfold wp_AS_newLength
    refine nm_r (e' := nI (nv + 2)) (if_pos (nI_lt (by omega) (by omega))) (nm_r (e' := nI (2 * nv + 2)) (by rw [show 2 * nv + 2 = nv + (nv + 2) by omega]; exact nI_add nv (nv + 2)) ?_)
    refine br_f (nI_nle (by omega) (by omega)) (br_f (show ¬ nI 2147483639 < nI (2 * nv + 2) from nI_nlt (by omega) (by decide)) ?_)
    refine br_f (fun z9 => by have := (nI_eq (by omega) (by decide)).mp (show nI (2 * nv + 2) = nI 2147483647 from z9); omega) ?_
    refine nm_r (sb_shr0 _) (nm_r (sb_shl0 _) ?_)
    unfold wp_Ar_copyOf
    refine br_f (fun z => by have := (nI_eq (by omega) (by omega)).mp (show nI (2 * nv + 2) = nI nv from z); omega) ⟨nI_pos (by omega), nm_r (nI_clamp (by omega)) ⟨by omega, by omega, by omega, ?_⟩⟩
    refine nm_r (e' := nI nv) (if_neg (nI_nlt (by omega) (by omega))) ?_
    rw [nI_clamp (by omega)]
    refine ⟨nI_pos (by omega), Nat.le_refl _, by omega, fun i _ => hf i, ?_⟩
    have := k (va_cpy av (fun _ => 0) 0 0 nv) (sb_fitC hf sb_fit0) (fun j hj => sb_cpy0 hj)
    rw [if_neg h] at this
    exact this
abbrev QT : Type := (Int32 × Nat × (Nat → Int32)) → Prop
/-- M, from capacity nv, leaves the text l -/
def Wr (M : QT → Nat → Nat → Prop) (nv : Nat) (l : List Nat) : Prop := ∀ (Q : QT) (mc ms : Nat), gr nv l.length - nv ≤ mc → 2 * (gr nv l.length - nv) ≤ ms → (∀ av', SBv (gr nv l.length) av' l → Q (nI l.length, gr nv l.length, av')) → M Q mc ms
def SBk (N C MC MS kc ks nv : Nat) (av : Nat → Int32) (l : List Nat) : Prop := SBv nv av l ∧ gr nv N = C ∧ kc + (C - nv) ≤ MC ∧ ks + 2 * (C - nv) ≤ MS
theorem SBk.run {M : QT → Nat → Nat → Prop} {N C MC MS kc ks nv : Nat} {av : Nat → Int32} {l l' : List Nat} {F : Nat → Nat → QT} (h : SBk N C MC MS kc ks nv av l) (hN : l'.length ≤ N) (hM : Wr M nv l') (k : ∀ m1 m2 nv1 av1, SBk N C MC MS (kc + m1) (ks + m2) nv1 av1 l' → F m1 m2 (nI l'.length, nv1, av1)) : ∃ m1 m2, kc + m1 ≤ MC ∧ ks + m2 ≤ MS ∧ M (F m1 m2) m1 m2 := by
  obtain ⟨h1, h2, h3, h4⟩ := h
  have e := gr_gr (nv := nv) hN
  have g1 := gr_ge (nv := nv) (n := l'.length)
  have g2 := gr_ge (nv := gr nv l'.length) (n := N)
  rw [e, h2] at g2
  exact ⟨gr nv l'.length - nv, 2 * (gr nv l'.length - nv), by omega, by omega, hM _ _ _ (Nat.le_refl _) (Nat.le_refl _) (fun av' h => k _ _ _ _ ⟨h, by rw [e, h2], by omega, by omega⟩)⟩
theorem Wr.mk {M : QT → Nat → Nat → Prop} {nv : Nat} {av : Nat → Int32} {l l' : List Nat} (hv : SBv nv av l) (h : ∀ (Q : QT) (mc ms : Nat), SBk l'.length (gr nv l'.length) mc ms 0 0 nv av l → (∀ kc ks nv1 av1, SBk l'.length (gr nv l'.length) mc ms kc ks nv1 av1 l' → Q (nI l'.length, nv1, av1)) → M Q mc ms) : Wr M nv l' := by
  intro Q mc ms h1 h2 k
  refine h Q mc ms ⟨hv, rfl, by omega, by omega⟩ (fun kc ks nv1 av1 h3 => ?_)
  have e : nv1 = gr nv l'.length := by rw [← h3.2.1]; exact (gr_id h3.1.1).symm
  rw [e] at h3 ⊢
  exact k _ h3.1
theorem w_ac {nv c : Nat} {av : Nat → Int32} {l : List Nat} (h : SBv nv av l) (hl : l.length < 299) (hc : c < 128) : Wr (fun Q mc ms => wp_SB_append_C Q mc ms (nI c) 0 (nI l.length) nv av) nv (l ++ [c]) := by
  intro Q mc ms hb hs k
  obtain ⟨h1, h2, h3, h4, h5⟩ := h
  have el : (l ++ [c]).length = l.length + 1 := by simp
  rw [el] at hb hs k
  have eg := gr_1 h1
  have hg6 := gr_600 h3 (n := l.length + 1) (by omega)
  have hgl := gr_le (nv := nv) (n := l.length + 1)
  have hgg := gr_ge (nv := nv) (n := l.length + 1)
  unfold wp_SB_append_C wp_AB_append_C
  refine ⟨mc, ms, by omega, by omega, nm_r (nI_1 _) ⟨mc, ms, by omega, by omega, ?_⟩⟩
  refine s_ensure h4 h2 h3 (by omega) ?_ (fun a' f' k' => ?_)
  · by_cases w : l.length + 1 ≤ nv
    · exact Or.inl w
    · rw [eg, if_neg w] at hb hs
      exact Or.inr ⟨by omega, by omega⟩
  rw [← eg]
  refine br_f (by decide) (br_t rfl (br_f (by decide) ?_))
  refine br_f (show ¬ nI 255 < nI c from nI_nlt (by omega) (by decide)) (br_f (by decide) ?_)
  refine nm_r (nI_1 _) ⟨vp_in_nI (by omega) (by omega), nm_r (e' := upd a' l.length (nI c)) (by rw [nI_clamp (by omega), pk_vb]; exact congrArg _ (sb_b128 c hc)) ?_⟩
  refine k (upd a' l.length (nI c)) (SBv.ext ⟨h1, h2, h3, h4, h5⟩ (by rw [el]; exact hgl) (by omega) hg6 (sb_fitU f' (by rw [← sb_b128 c hc]; exact sb_fitB c)) (fun j hj => ?_) (fun j hj => ?_))
  · rw [pk_un (by omega)]
    exact k' j (by omega)
  · obtain rfl : j = 0 := by simpa using hj
    exact ⟨hc, pk_us⟩
def num (n : Nat) : List Nat := if n < 10 then [48 + n] else [48 + n / 10, 48 + n % 10]
theorem num_le {n : Nat} : 1 ≤ (num n).length ∧ (num n).length ≤ 2 := by unfold num; split <;> simp
theorem s_size {Q : Int32 → Unit → Prop} {v : Nat} (hv : v < 100) (k : Q (nI (num v).length) ()) : wp_In_stringSize Q (nI v) := by
  unfold wp_In_stringSize
  refine br_f (nI_pos (by omega)) (nm_e ?_)
  unfold w_In_stringSize_11
  refine ⟨2, ?_⟩
  unfold w_In_stringSize_16 w_In_stringSize_16B
  refine br_f (by decide) ⟨fun h => ?_, fun h => ?_⟩
  · have h10 : 10 ≤ v := (sb_nle (by omega) (by decide)).mp (show -nI v ≤ -nI 10 from h)
    refine nm_e (nm_e ?_)
    unfold w_In_stringSize_16 w_In_stringSize_16B
    refine br_f (by decide) (br_f (fun z => by have := (sb_nle (by omega) (by decide)).mp (show -nI v ≤ -nI 100 from z); omega) (nm_e ?_))
    have e : num v = [48 + v / 10, 48 + v % 10] := if_neg (by omega)
    rw [e] at k
    exact k
  · have h10 : v < 10 := Nat.lt_of_not_le (fun w => h (show -nI v ≤ -nI 10 from (sb_nle (by omega) (by decide)).mpr w))
    have e : num v = [48 + v] := if_pos h10
    rw [e] at k
    exact nm_e k
theorem s_tab : ∀ k, k < 100 → vp_nar .byte (tabO.getD k 0) = nI (48 + k % 10) ∧ vp_nar .byte (tabT.getD k 0) = nI (48 + k / 10) := by decide +kernel
theorem s_chars {Q : Int32 → (Nat → Int32) → Prop} {v p nw : Nat} {aw : Nat → Int32} (hv : v < 100) (hn : nw ≤ 600) (hp : p + (num v).length ≤ nw) (hf : sb_Fit aw) (k : ∀ aw', sb_Fit aw' → (∀ j, j < p → aw' j = aw j) → (∀ j, j < (num v).length → (num v).getD j 0 < 128 ∧ aw' (p + j) = nI ((num v).getD j 0)) → Q (nI p) aw') : wp_In_getChars Q (nI v) (nI (p + (num v).length)) nw aw := by
  have e1 : -(-nI v) = nI v := Int32.neg_neg
  obtain ⟨t1, t2⟩ := s_tab v hv
  have fb : ∀ c, c < 128 → fits .byte (.int (nI c)) = true := fun c hc => by rw [← sb_b128 c hc]; exact sb_fitB c
  have hnl := num_le (n := v)
  unfold wp_In_getChars w_In_getChars_12
  refine br_t (nI_pos' (by omega)) (br_t rfl (nm_e ⟨1, ?_⟩))
  unfold w_In_getChars_22 w_In_getChars_22B
  refine br_t (show -nI 100 < -nI v from (sb_nlt (by decide) (by omega)).mpr hv) (nm_r (sb_m1 (by omega)) (nm_r e1 ⟨vp_in_nI hv (by decide), nm_e ⟨vp_in_nI (by omega) (by omega), nm_r (e' := upd aw (p + (num v).length - 1) (nI (48 + v % 10))) (by rw [nI_clamp (by omega), nI_clamp (by omega), t1]) ?_⟩⟩))
  by_cases h9 : v < 10
  · have e : num v = [48 + v] := if_pos h9
    refine br_t (show -nI 9 ≤ -nI v from (sb_nle (by decide) (by omega)).mpr (by omega)) ?_
    rw [e] at k ⊢
    refine br_t rfl (k _ (sb_fitU hf (fb _ (by omega))) (fun j hj => pk_un (by simp; omega)) (fun j hj => ?_))
    obtain rfl : j = 0 := by simpa using hj
    refine ⟨by simp; omega, ?_⟩
    show upd aw p _ p = _
    rw [pk_us, show v % 10 = v by omega]
    rfl
  · have e : num v = [48 + v / 10, 48 + v % 10] := if_neg h9
    refine br_f (fun z => by have := (sb_nle (by decide) (by omega)).mp (show -nI 9 ≤ -nI v from z); omega) ?_
    rw [e] at k ⊢
    refine nm_r (e' := nI p) (sb_m1 (by simp)) (nm_r e1 ⟨vp_in_nI hv (by decide), nm_e ⟨vp_in_nI (by omega) (by omega), nm_r (e' := upd (upd aw (p + 1) (nI (48 + v % 10))) p (nI (48 + v / 10))) (by rw [nI_clamp (by omega), nI_clamp (by omega), t2]; rfl) (br_t rfl ?_)⟩⟩)
    refine k _ (sb_fitU (sb_fitU hf (fb _ (by omega))) (fb _ (by omega))) (fun j hj => by rw [pk_un (by omega), pk_un (by omega)]) (fun j hj => ?_)
    obtain rfl | rfl : j = 0 ∨ j = 1 := by simp at hj; omega
    · exact ⟨by simp; omega, pk_us⟩
    · refine ⟨by simp; omega, ?_⟩
      rw [pk_un (by omega), pk_us]
      rfl
theorem w_ai {nv v : Nat} {av : Nat → Int32} {l : List Nat} (h : SBv nv av l) (hl : l.length < 299) (hv : v < 100) : Wr (fun Q mc ms => wp_SB_append_I Q mc ms (nI v) 0 (nI l.length) nv av) nv (l ++ num v) := by
  intro Q mc ms hb hs k
  have el : (l ++ num v).length = l.length + (num v).length := List.length_append
  have hnl := num_le (n := v)
  have h0 := h
  obtain ⟨h1, h2, h3, h4, h5⟩ := h
  have eg : gr nv (l.length + (num v).length) = if l.length + (num v).length ≤ nv then nv else 2 * nv + 2 := by
    rcases (by omega : (num v).length = 1 ∨ (num v).length = 2) with w | w
    · rw [w]; exact gr_1 h1
    · rw [w]; exact gr_2 h1
  rw [el] at hb hs k
  have hg6 := gr_600 h3 (n := l.length + (num v).length) (by omega)
  have hgl := gr_le (nv := nv) (n := l.length + (num v).length)
  have hgg := gr_ge (nv := nv) (n := l.length + (num v).length)
  unfold wp_SB_append_I wp_AB_append_I
  refine ⟨mc, ms, by omega, by omega, s_size hv (nm_r (nI_add _ _) ⟨mc, ms, by omega, by omega, ?_⟩)⟩
  refine s_ensure h4 h2 h3 (by omega) ?_ (fun a' f' k' => ?_)
  · by_cases w : l.length + (num v).length ≤ nv
    · exact Or.inl w
    · rw [eg, if_neg w] at hb hs
      exact Or.inr ⟨by omega, by omega⟩
  rw [← eg]
  refine br_f (by decide) (br_t rfl (br_f (by decide) ?_))
  refine s_chars hv hg6 hgl f' (fun a2 g1 g2 g3 => ?_)
  exact k a2 (SBv.ext h0 (by rw [el]; exact hgl) (by omega) hg6 g1 (fun j hj => by rw [g2 j hj]; exact k' j (by omega)) g3)
