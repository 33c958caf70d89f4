/-! the sides of a result, and the paths it lies on -/
theorem Fo.last {G : GD} {u v x i : Nat} (h : Fo G u v) (hA : At G.ln G.S u x i) : (i + 1 = G.ln (x / 2)) ↔ bgB G v = true := by
  obtain ⟨x', i', y, j, h1, h2, h3⟩ := h
  obtain ⟨rfl, rfl⟩ := hA.uniq h1
  rcases h3 with ⟨h3, h4⟩ | ⟨h3, h4, _⟩
  · have h5 : At G.ln G.S v x (i + 1) := ⟨h1.1, h3, by have := h1.2.2; omega⟩
    refine ⟨fun w => by omega, fun w => ?_⟩
    have := (bg_At h5).mp w
    omega
  · exact ⟨fun _ => (bg_At h2).mpr h4, fun _ => h3⟩
def Li (G : GD) (Sd : Nat → Nat) (n p : Nat) : Prop := ∃ o, o + n ≤ G.sn p ∧ ((∀ k, k < n → G.sp p (o + k) = Sd k) ∨ ∀ k, k < n → G.sp p (o + k) = tn (Sd (n - 1 - k)))
theorem neg_sub : ∀ a, a < 9 → ∀ b, b < 26 → a < b → (nI a - nI b < 0) := by decide +kernel
theorem s_liesForwards {Q : Int32 → Unit → Prop} {G : GD} {Sd : Nat → Nat} {n p o : Nat} {sides aT : Nat → Int32} (hn : n ≤ 24) (hSd : NT sides Sd n) (hlt : ∀ j, j < n → Sd j < 16) (ho : o + n ≤ G.sn p) (hsn : G.sn p ≤ 8) (hp : p < 4) (hT : ∀ j, j < G.sn p → aT (8 * p + j) = nI (G.sp p j) ∧ G.sp p j < 16)
    (h1 : (∀ k, k < n → G.sp p (o + k) = Sd k) → Q 1 ()) (h0 : ¬ (∀ k, k < n → G.sp p (o + k) = Sd k) → Q 0 ()) : wp_X_liesForwards Q (nI (8 * p + o)) (nI n) sides aT := by
  have L : ∀ (j k : Nat), k + j = n → (∀ l, l < k → G.sp p (o + l) = Sd l) → ∃ m, w_X_liesForwards_2 Q (nI (8 * p + o)) (nI n) sides aT m (nI k) := by
    intro j
    induction j with
    | zero =>
      intro k hk hl
      refine ⟨1, ?_⟩
      show w_X_liesForwards_2B Q _ (nI (8 * p + o)) (nI n) sides aT _
      unfold w_X_liesForwards_2B
      exact ⟨fun _ => h1 (fun l hl' => hl l (by omega)), fun q => absurd (nI_le (by omega) (by omega)) q⟩
    | succ j ih =>
      intro k hk hl
      have hk1 := hT (o + k) (by omega)
      have hk2 := hlt k (by omega)
      by_cases e : G.sp p (o + k) = Sd k
      · obtain ⟨m, hm⟩ := ih (k + 1) (by omega) (fun l hl' => by
          by_cases e1 : l = k
          · subst e1; exact e
          · exact hl l (by omega))
        refine ⟨m + 1, ?_⟩
        show w_X_liesForwards_2B Q _ (nI (8 * p + o)) (nI n) sides aT _
        unfold w_X_liesForwards_2B
        refine ⟨fun q => absurd ((nI_leI (by omega) (by omega)).mp q) (by omega), fun _ => ?_⟩
        simp only [forall_eq]
        rw [nI_add, nI_clamp (by omega), nI_clamp (by omega), hSd k (by omega), show 8 * p + o + k = 8 * p + (o + k) by omega, hk1.1, nI_1]
        exact ⟨vp_in_nI (by omega) (by omega), vp_in_nI (by omega) (by omega), fun _ => hm, fun q => absurd (congrArg nI e) q⟩
      · refine ⟨1, ?_⟩
        show w_X_liesForwards_2B Q _ (nI (8 * p + o)) (nI n) sides aT _
        unfold w_X_liesForwards_2B
        refine ⟨fun q => absurd ((nI_leI (by omega) (by omega)).mp q) (by omega), fun _ => ?_⟩
        simp only [forall_eq]
        rw [nI_add, nI_clamp (by omega), nI_clamp (by omega), hSd k (by omega), show 8 * p + o + k = 8 * p + (o + k) by omega, hk1.1, nI_1]
        exact ⟨vp_in_nI (by omega) (by omega), vp_in_nI (by omega) (by omega), fun q => absurd ((nI_eq (by omega) (by omega)).mp q) e, fun _ => h0 (fun w => e (w k (by omega)))⟩
  exact L n 0 (by omega) (fun l hl => absurd hl (Nat.not_lt_zero _))
theorem s_liesTurned {Q : Int32 → Unit → Prop} {G : GD} {Sd : Nat → Nat} {n p o : Nat} {sides aT : Nat → Int32} (hn1 : 1 ≤ n) (hn : n ≤ 24) (hSd : NT sides Sd n) (hlt : ∀ j, j < n → Sd j < 16) (ho : o + n ≤ G.sn p) (hsn : G.sn p ≤ 8) (hp : p < 4) (hT : ∀ j, j < G.sn p → aT (8 * p + j) = nI (G.sp p j) ∧ G.sp p j < 16)
    (h1 : (∀ k, k < n → G.sp p (o + k) = tn (Sd (n - 1 - k))) → Q 1 ()) (h0 : ¬ (∀ k, k < n → G.sp p (o + k) = tn (Sd (n - 1 - k))) → Q 0 ()) : wp_X_liesTurned Q (nI (8 * p + o)) (nI n) sides aT := by
  have L : ∀ (j k : Nat), k + j = n → (∀ l, l < k → G.sp p (o + l) = tn (Sd (n - 1 - l))) → ∃ m, w_X_liesTurned_12 Q (nI (8 * p + o)) (nI n) sides aT m (nI (n - 1)) (nI k) := by
    intro j
    induction j with
    | zero =>
      intro k hk hl
      refine ⟨1, ?_⟩
      show w_X_liesTurned_12B Q _ (nI (8 * p + o)) (nI n) sides aT _ _
      unfold w_X_liesTurned_12B
      exact ⟨fun _ => h1 (fun l hl' => hl l (by omega)), fun q => absurd (nI_lt (by omega) (by omega)) q⟩
    | succ j ih =>
      intro k hk hl
      have hk1 := hT (o + k) (by omega)
      have hk2 := hlt (n - 1 - k) (by omega)
      have htn := tn16 hk2
      have body : ∀ m, (G.sp p (o + k) = tn (Sd (n - 1 - k)) → w_X_liesTurned_12 Q (nI (8 * p + o)) (nI n) sides aT m (nI (n - 1)) (nI (k + 1))) → w_X_liesTurned_12 Q (nI (8 * p + o)) (nI n) sides aT (m + 1) (nI (n - 1)) (nI k) := by
        intro m hm
        show w_X_liesTurned_12B Q _ (nI (8 * p + o)) (nI n) sides aT _ _
        unfold w_X_liesTurned_12B
        refine ⟨fun q => absurd ((nI_ltI (by omega) (by omega)).mp q) (by omega), fun _ => ?_⟩
        simp only [forall_eq]
        rw [nI_add, nI_clamp (by omega), pk_sub (by omega), nI_clamp (by omega), hSd (n - 1 - k) (by omega), show 8 * p + o + k = 8 * p + (o + k) by omega, hk1.1, nI_1]
        refine ⟨vp_in_nI (by omega) (by omega), vp_in_nI (by omega) (by omega), s_turned (by omega) ⟨fun q => hm ((nI_eq (by omega) (by omega)).mp q), fun q => h0 (fun w => q (congrArg nI (w k (by omega))))⟩⟩
      by_cases e : G.sp p (o + k) = tn (Sd (n - 1 - k))
      · obtain ⟨m, hm⟩ := ih (k + 1) (by omega) (fun l hl' => by
          by_cases e1 : l = k
          · subst e1; exact e
          · exact hl l (by omega))
        exact ⟨m + 1, body m (fun _ => hm)⟩
      · exact ⟨1, body 0 (fun w => absurd w e)⟩
  unfold wp_X_liesTurned
  simp only [forall_eq]
  rw [show (1 : Int32) = nI 1 from rfl, pk_sub hn1]
  exact L n 0 (by omega) (fun l hl => absurd hl (Nat.not_lt_zero _))
theorem s_X_lies {Q : Int32 → Unit → Prop} {G : GD} {Sd : Nat → Nat} {n p : Nat} {sides aQ aC aT : Nat → Int32} (hG : G.ok) (hn1 : 1 ≤ n) (hn : n ≤ 24) (hSd : NT sides Sd n) (hlt : ∀ j, j < n → Sd j < 16) (hXP : XP G.S G.P G.pn G.sn G.sp aQ aC aT) (hp : p < G.P) (h1 : Li G Sd n p → Q 1 ()) (h0 : ¬ Li G Sd n p → Q 0 ()) : wp_X_lies Q (nI p) 1 (nI n) sides (nI G.P) aC aT := by
  have hP4 := hG.hP
  have hS := hG.hS
  obtain ⟨_, _, ⟨_, hsn⟩, hC, hT⟩ := hXP p hp
  have hT' : ∀ j, j < G.sn p → aT (8 * p + j) = nI (G.sp p j) ∧ G.sp p j < 16 := fun j hj => ⟨(hT j hj).1, by have := (hT j hj).2; omega⟩
  unfold wp_X_lies
  refine ⟨fun q => absurd q (by decide), fun _ => ⟨fun q => absurd q (nI_pos (by omega)), fun _ => ⟨fun _ => ?_, fun q => absurd (nI_lt hp (by omega)) q⟩⟩⟩
  simp only [forall_eq]
  rw [nI_clamp (by omega), hC]
  refine ⟨vp_in_nI (by omega) (by omega), ?_⟩
  rcases Nat.lt_or_ge (G.sn p) n with w | w
  · refine ⟨1, ?_⟩
    show w_X_lies_47B Q _ (nI p) 1 (nI n) sides (nI G.P) aC aT _ _
    unfold w_X_lies_47B
    exact ⟨fun _ => h0 (fun ⟨o, ho, _⟩ => by omega), fun q => absurd (neg_sub _ (by omega) _ (by omega) w) q⟩
  rw [pk_sub w]
  have L : ∀ (j o : Nat), o + j = G.sn p - n + 1 → (∀ o', o' < o → ¬ ((∀ k, k < n → G.sp p (o' + k) = Sd k) ∨ ∀ k, k < n → G.sp p (o' + k) = tn (Sd (n - 1 - k)))) → ∃ m, w_X_lies_47 Q (nI p) 1 (nI n) sides (nI G.P) aC aT m (nI (G.sn p - n)) (nI o) := by
    intro j
    induction j with
    | zero =>
      intro o ho hl
      refine ⟨1, ?_⟩
      show w_X_lies_47B Q _ (nI p) 1 (nI n) sides (nI G.P) aC aT _ _
      unfold w_X_lies_47B
      exact ⟨fun _ => h0 (fun ⟨o', ho', hh⟩ => hl o' (by omega) hh), fun q => absurd (nI_lt (by omega) (by omega)) q⟩
    | succ j ih =>
      intro o ho hl
      have body : ∀ m, (¬ ((∀ k, k < n → G.sp p (o + k) = Sd k) ∨ ∀ k, k < n → G.sp p (o + k) = tn (Sd (n - 1 - k))) → w_X_lies_47 Q (nI p) 1 (nI n) sides (nI G.P) aC aT m (nI (G.sn p - n)) (nI (o + 1))) → w_X_lies_47 Q (nI p) 1 (nI n) sides (nI G.P) aC aT (m + 1) (nI (G.sn p - n)) (nI o) := by
        intro m hm
        show w_X_lies_47B Q _ (nI p) 1 (nI n) sides (nI G.P) aC aT _ _
        unfold w_X_lies_47B
        refine ⟨fun q => absurd ((nI_ltI (by omega) (by omega)).mp q) (by omega), fun _ => ?_⟩
        simp only [forall_eq]
        rw [show (8 : Int32) = nI 8 from rfl, pk_mul, nI_add, Nat.mul_comm p 8]
        refine s_liesForwards hn hSd hlt (by omega) hsn (by omega) hT' (fun w1 => ⟨fun q => absurd q (by decide), fun _ => h1 ⟨o, by omega, Or.inl w1⟩⟩) (fun w1 => ⟨fun _ => ?_, fun q => absurd rfl q⟩)
        refine s_liesTurned hn1 hn hSd hlt (by omega) hsn (by omega) hT' (fun w2 => ⟨fun q => absurd q (by decide), fun _ => h1 ⟨o, by omega, Or.inr w2⟩⟩) (fun w2 => ⟨fun _ => ?_, fun q => absurd rfl q⟩)
        rw [nI_1]
        exact hm (fun z => z.elim w1 w2)
      by_cases hh : (∀ k, k < n → G.sp p (o + k) = Sd k) ∨ ∀ k, k < n → G.sp p (o + k) = tn (Sd (n - 1 - k))
      · exact ⟨1, body 0 (fun z => absurd hh z)⟩
      · obtain ⟨m, hm⟩ := ih (o + 1) (by omega) (fun o' ho' => by
          by_cases e1 : o' = o
          · subst e1; exact hh
          · exact hl o' (by omega))
        exact ⟨m + 1, body m (fun _ => hm)⟩
  exact L (G.sn p - n + 1) 0 (by omega) (fun o' ho' => absurd ho' (Nat.not_lt_zero _))
section REF
variable {G : GD} {bases length lk fa ta so wi walk : Nat → Int32} {wk : Nat → Nat} {NW : Nat}
theorem s_Mo_walk {Q : Int32 → Unit → Prop} {k : Nat} (hN : NW ≤ 24) (hW : NT walk wk NW) (hk : k < NW) (h : Q (nI (wk (NW - 1 - k))) ()) : wp_Mo_walk Q (nI k) 1 (nI NW) walk := by
  unfold wp_Mo_walk
  refine ⟨fun q => absurd q (by decide), fun _ => ⟨fun q => absurd q (nI_pos (by omega)), fun _ => ⟨fun q => absurd ((nI_leI (by omega) (by omega)).mp q) (by omega), fun _ => ?_⟩⟩⟩
  simp only [forall_eq]
  rw [show (1 : Int32) = nI 1 from rfl, pk_sub (by omega), pk_sub (by omega), nI_clamp (by omega), hW _ (by omega)]
  exact ⟨vp_in_nI (by omega) (by omega), h⟩
theorem s_leaves {Q : Int32 → Unit → Prop} {k : Nat} (hG : G.ok) (hR : RP G (nI G.N) bases length lk fa ta so wi) (hN : NW ≤ 24) (hW : NT walk wk NW) (hch : ∀ j, j + 1 < NW → Fo G (wk (j + 1)) (wk j)) (hk : k + 1 < NW) (h1 : bgB G (Wf wk NW (k + 1)) = true → Q 1 ()) (h0 : bgB G (Wf wk NW (k + 1)) = false → Q 0 ()) : wp_Mo_leaves Q (nI k) 1 (nI NW) length so wi walk := by
  have hF := hch (NW - 1 - (k + 1)) (by omega)
  rw [show NW - 1 - (k + 1) + 1 = NW - 1 - k by omega] at hF
  obtain ⟨x, i, hA⟩ := At.ex (S := G.S) (ln := G.ln) (v := wk (NW - 1 - k)) hF.lt.1
  have hl := hF.last hA
  unfold wp_Mo_leaves
  refine s_Mo_walk hN hW (by omega) (s_isLast hG hR hA (fun w => ⟨rfl, h1 (hl.mp w)⟩) (fun w => ⟨rfl, h0 ?_⟩))
  rcases Bool.eq_false_or_eq_true (bgB G (Wf wk NW (k + 1))) with z | z
  · exact absurd (hl.mpr z) w
  · exact z
theorem s_Mo_sides {Q : Int32 → Unit → Prop} (hG : G.ok) (hR : RP G (nI G.N) bases length lk fa ta so wi) (hN1 : 1 ≤ NW) (hN : NW ≤ 24) (hW : NT walk wk NW) (hch : ∀ j, j + 1 < NW → Fo G (wk (j + 1)) (wk j)) (h : Q (nI (scf G (Wf wk NW) (NW - 1) + 1)) ()) : wp_Mo_sides Q 1 (nI NW) length so wi walk := by
  have L : ∀ (j k : Nat), k + j = NW - 1 → ∃ m, w_Mo_sides_4 Q 1 (nI NW) length so wi walk m (nI (scf G (Wf wk NW) k + 1)) (nI k) := by
    intro j
    induction j with
    | zero =>
      intro k hk
      obtain rfl : k = NW - 1 := by omega
      refine ⟨1, ?_⟩
      show w_Mo_sides_4B Q _ 1 (nI NW) length so wi walk _ _
      unfold w_Mo_sides_4B
      simp only [forall_eq]
      rw [nI_1]
      exact ⟨fun _ => h, fun q => absurd (nI_le (by omega) (by omega)) q⟩
    | succ j ih =>
      intro k hk
      obtain ⟨m, hm⟩ := ih (k + 1) (by omega)
      have hsc : scf G (Wf wk NW) (k + 1) = scf G (Wf wk NW) k + (if bgB G (Wf wk NW (k + 1)) = true then 1 else 0) := rfl
      refine ⟨m + 1, ?_⟩
      show w_Mo_sides_4B Q _ 1 (nI NW) length so wi walk _ _
      unfold w_Mo_sides_4B
      simp only [forall_eq]
      rw [nI_1]
      refine ⟨fun q => absurd ((nI_leI (by omega) (by omega)).mp q) (by omega), fun _ => ?_⟩
      refine s_leaves hG hR hN hW hch (by omega) (fun w => ⟨fun q => absurd q (by decide), fun _ => ?_⟩) (fun w => ⟨fun _ => ?_, fun q => absurd rfl q⟩)
      · rw [w, if_pos rfl] at hsc
        unfold w_Mo_sides_28
        simp only [forall_eq]
        rw [nI_1, nI_1, ← hsc]
        exact hm
      · rw [w, if_neg (by decide)] at hsc
        unfold w_Mo_sides_28
        simp only [forall_eq]
        rw [show (0 : Int32) = nI 0 from rfl, nI_add, nI_1, Nat.add_zero, show scf G (Wf wk NW) k = scf G (Wf wk NW) (k + 1) by omega]
        exact hm
  exact L (NW - 1) 0 (by omega)
theorem s_Mo_side {Q : Int32 → Unit → Prop} {Sd : Nat → Nat} {n : Nat} (hG : G.ok) (hR : RP G (nI G.N) bases length lk fa ta so wi) (hN1 : 1 ≤ NW) (hN : NW ≤ 24) (hW : NT walk wk NW) (hlt : ∀ j, j < NW → wk j < G.N) (hch : ∀ j, j + 1 < NW → Fo G (wk (j + 1)) (wk j)) (hSD : SDp G wk NW Sd) (hn : n ≤ scf G (Wf wk NW) (NW - 1)) (h : Q (nI (Sd n)) ()) : wp_Mo_side Q (nI n) 1 (nI NW) length so wi walk := by
  have h64 := hG.n64
  have hle := scf_le (G := G) (W := Wf wk NW) (k := NW - 1)
  have L : ∀ (j k : Nat), k + j = NW - 1 → scf G (Wf wk NW) k ≤ n → ∃ m, w_Mo_side_4 Q 1 (nI NW) length so wi walk m (nI (n - scf G (Wf wk NW) k)) (nI k) := by
    have stop : ∀ k, k < NW → scf G (Wf wk NW) k = n → ∃ m, w_Mo_side_4 Q 1 (nI NW) length so wi walk m (nI (n - scf G (Wf wk NW) k)) (nI k) := by
      intro k hk he
      refine ⟨1, ?_⟩
      show w_Mo_side_4B Q _ 1 (nI NW) length so wi walk _ _
      unfold w_Mo_side_4B
      rw [he, Nat.sub_self]
      refine ⟨fun _ => s_Mo_walk hN hW hk ?_, fun q => absurd (by decide) q⟩
      have hv := hlt (NW - 1 - k) (by omega)
      obtain ⟨x, i, hA⟩ := At.ex hv
      simp only [forall_eq]
      rw [nI_clamp (by omega), (hR.2.2.2 _ x i hA).1, ← sx_At hA, ← hSD k hk, he]
      exact ⟨vp_in_nI (by omega) (by omega), h⟩
    intro j
    induction j with
    | zero =>
      intro k hk hs
      obtain rfl : k = NW - 1 := by omega
      exact stop _ (by omega) (by omega)
    | succ j ih =>
      intro k hk hs
      rcases Nat.eq_or_lt_of_le hs with e | e
      · exact stop k (by omega) e
      have hsc : scf G (Wf wk NW) (k + 1) = scf G (Wf wk NW) k + (if bgB G (Wf wk NW (k + 1)) = true then 1 else 0) := rfl
      obtain ⟨m, hm⟩ := ih (k + 1) (by omega) (by rw [hsc]; split <;> omega)
      refine ⟨m + 1, ?_⟩
      show w_Mo_side_4B Q _ 1 (nI NW) length so wi walk _ _
      unfold w_Mo_side_4B
      refine ⟨fun q => absurd ((nI_leI (b := 0) (by omega) (by omega)).mp q) (by omega), fun _ => ?_⟩
      refine s_leaves hG hR hN hW hch (by omega) (fun w => ⟨fun q => absurd q (by decide), fun _ => ?_⟩) (fun w => ⟨fun _ => ?_, fun q => absurd rfl q⟩)
      · rw [w, if_pos rfl] at hsc
        unfold w_Mo_side_22
        simp only [forall_eq]
        rw [show (1 : Int32) = nI 1 from rfl, pk_sub (by omega), nI_add, show n - scf G (Wf wk NW) k - 1 = n - scf G (Wf wk NW) (k + 1) by omega]
        exact hm
      · rw [w, if_neg (by decide)] at hsc
        unfold w_Mo_side_22
        simp only [forall_eq]
        rw [show (0 : Int32) = nI 0 from rfl, pk_sub (by omega), nI_1, Nat.sub_zero, show scf G (Wf wk NW) k = scf G (Wf wk NW) (k + 1) by omega]
        exact hm
  exact L (NW - 1) 0 (by omega) (Nat.zero_le _)
theorem s_Mo_lies {Q : Int32 → Unit → Prop} {Sd : Nat → Nat} {p : Nat} {pa sc st : Nat → Int32} (hG : G.ok) (hR : RP G (nI G.N) bases length lk fa ta so wi) (hN1 : 1 ≤ NW) (hN : NW ≤ 24) (hW : NT walk wk NW) (hlt : ∀ j, j < NW → wk j < G.N) (hch : ∀ j, j + 1 < NW → Fo G (wk (j + 1)) (wk j)) (hSD : SDp G wk NW Sd) (hSl : ∀ j, j ≤ scf G (Wf wk NW) (NW - 1) → Sd j < 16) (hpa : pa 0 = nI G.P) (hst : ∀ p, p < G.P → sc p = nI (G.sn p) ∧ ∀ j, j < G.sn p → st (8 * p + j) = nI (G.sp p j)) (hp : p < G.P)
    (h1 : Li G Sd (scf G (Wf wk NW) (NW - 1) + 1) p → Q 1 ()) (h0 : ¬ Li G Sd (scf G (Wf wk NW) (NW - 1) + 1) p → Q 0 ()) : wp_Mo_lies Q (nI p) 1 (nI NW) length pa sc st so wi walk := by
  have hP4 := hG.hP
  have hS := hG.hS
  have hsn := (hG.hsn p hp).2
  have hle := scf_le (G := G) (W := Wf wk NW) (k := NW - 1)
  unfold wp_Mo_lies
  simp only [forall_eq]
  rw [show (0 : Int32).toNatClampNeg = 0 by decide, hpa]
  refine ⟨fun q => absurd q (by decide), fun _ => ⟨fun q => absurd q (nI_pos (by omega)), fun _ => ⟨vp_in_nI (n := 0) (by omega) (by omega), fun _ => ?_, fun q => absurd (nI_lt hp (by omega)) q⟩⟩⟩
  refine s_Mo_sides hG hR hN1 hN hW hch ?_
  generalize hn : scf G (Wf wk NW) (NW - 1) + 1 = n at h1 h0
  have L33 : ∀ (m o f : Nat), G.sn p + 1 - o < m → o ≤ G.sn p + 1 → f < 2 → (f = 1 ↔ ∃ o', o' < o ∧ o' + n ≤ G.sn p ∧ ((∀ k, k < n → G.sp p (o' + k) = Sd k) ∨ ∀ k, k < n → G.sp p (o' + k) = tn (Sd (n - 1 - k)))) → w_Mo_lies_33 Q (nI p) 1 (nI NW) length pa sc st so wi walk m (nI n) (nI f) (nI o) := by
    intro m
    induction m with
    | zero => intro o f h1; omega
    | succ m ih =>
      intro o f hm ho hf hff
      show w_Mo_lies_33B Q _ (nI p) 1 (nI NW) length pa sc st so wi walk _ _ _
      unfold w_Mo_lies_33B
      simp only [forall_eq]
      rw [nI_clamp (by omega), (hst p hp).1, nI_add]
      refine ⟨vp_in_nI (by omega) (by omega), fun q => ?_, fun q => ?_⟩
      · have hlt' : G.sn p < o + n := (nI_ltI (by omega) (by omega)).mp q
        have hfb : f = 0 ∨ f = 1 := by omega
        rcases hfb with rfl | rfl
        · refine ⟨rfl, h0 (fun ⟨o', ho', hh⟩ => ?_)⟩
          have := hff.mpr ⟨o', by omega, ho', hh⟩
          omega
        · obtain ⟨o', _, ho', hh⟩ := hff.mp rfl
          exact ⟨rfl, h1 ⟨o', ho', hh⟩⟩
      have hon : o + n ≤ G.sn p := by
        rcases Nat.lt_or_ge (G.sn p) (o + n) with w | w
        · exact absurd (nI_lt w (by omega)) q
        · exact w
      have L55 : ∀ (j k s t : Nat), k + j = n → s < 2 → t < 2 → (s = 1 ↔ ∀ k', k' < k → G.sp p (o + k') = Sd k') → (t = 1 ↔ ∀ k', k' < k → G.sp p (o + k') = tn (Sd (n - 1 - k'))) → ∃ u, w_Mo_lies_55 Q (w_Mo_lies_33 Q (nI p) 1 (nI NW) length pa sc st so wi walk m) (nI p) 1 (nI NW) length pa sc st so wi walk u (nI n) (nI f) (nI o) (nI s) (nI t) (nI k) := by
        intro j
        induction j with
        | zero =>
          intro k s t hk hs ht hss htt
          obtain rfl : k = n := by omega
          have fin : ∀ f', f' < 2 → (f' = 1 ↔ (f = 1 ∨ s = 1 ∨ t = 1)) → w_Mo_lies_164 Q (w_Mo_lies_33 Q (nI p) 1 (nI NW) length pa sc st so wi walk m) (nI p) 1 (nI NW) length pa sc st so wi walk (nI k) (nI o) (nI f') := by
            intro f' hf' hiff
            unfold w_Mo_lies_164
            simp only [forall_eq]
            rw [nI_1]
            have o1 : G.sn p + 1 - (o + 1) < m := by clear hiff hff hss htt; omega
            have o2 : o + 1 ≤ G.sn p + 1 := by clear hiff hff hss htt; omega
            refine ih (o + 1) f' o1 o2 hf' (hiff.trans ⟨fun w => ?_, fun ⟨o', g1, g2, g3⟩ => ?_⟩)
            · rcases w with w | w | w
              · obtain ⟨o', g1, g2, g3⟩ := hff.mp w
                exact ⟨o', by omega, g2, g3⟩
              · exact ⟨o, by omega, hon, Or.inl (hss.mp w)⟩
              · exact ⟨o, by omega, hon, Or.inr (htt.mp w)⟩
            · by_cases e1 : o' = o
              · subst e1
                rcases g3 with g3 | g3
                · exact Or.inr (Or.inl (hss.mpr g3))
                · exact Or.inr (Or.inr (htt.mpr g3))
              · exact Or.inl (hff.mpr ⟨o', by omega, g2, g3⟩)
          refine ⟨1, ?_⟩
          show w_Mo_lies_55B Q _ _ (nI p) 1 (nI NW) length pa sc st so wi walk _ _ _ _ _ _
          unfold w_Mo_lies_55B w_Mo_lies_159
          refine ⟨fun _ => ⟨fun q1 => ⟨fun q2 => ⟨fun q3 => ?_, fun q3 => ?_⟩, fun q2 => ?_⟩, fun q1 => ?_⟩, fun q => absurd (nI_le (by omega) (by omega)) q⟩
          · have e1 : f = 0 := (nI_eq (b := 0) (by omega) (by omega)).mp q1
            have e2 : s = 0 := (nI_eq (b := 0) (by omega) (by omega)).mp q2
            have e3 : t = 0 := (nI_eq (b := 0) (by omega) (by omega)).mp q3
            exact fin 0 (by omega) (by omega)
          · have e3 : t ≠ 0 := fun w => q3 (congrArg nI w)
            exact fin 1 (by omega) (by omega)
          · have e3 : s ≠ 0 := fun w => q2 (congrArg nI w)
            exact fin 1 (by omega) (by omega)
          · have e3 : f ≠ 0 := fun w => q1 (congrArg nI w)
            exact fin 1 (by omega) (by omega)
        | succ j ihj =>
          intro k s t hk hs ht hss htt
          have hstk := (hst p hp).2 (o + k) (by omega)
          have hspk := hG.hsp p hp (o + k) (by omega)
          have hS1 := hSl k (by omega)
          have hS2 := hSl (n - 1 - k) (by omega)
          have ht2 := tn16 hS2
          have go : ∃ u, ∀ s' t', s' < 2 → t' < 2 → (s' = 1 ↔ (s = 1 ∧ G.sp p (o + k) = Sd k)) → (t' = 1 ↔ (t = 1 ∧ G.sp p (o + k) = tn (Sd (n - 1 - k)))) → w_Mo_lies_55 Q (w_Mo_lies_33 Q (nI p) 1 (nI NW) length pa sc st so wi walk m) (nI p) 1 (nI NW) length pa sc st so wi walk u (nI n) (nI f) (nI o) (nI s') (nI t') (nI (k + 1)) := by
            have ex1 : ∃ s', s' < 2 ∧ (s' = 1 ↔ (s = 1 ∧ G.sp p (o + k) = Sd k)) := by
              by_cases e : s = 1 ∧ G.sp p (o + k) = Sd k
              · exact ⟨1, by omega, fun _ => e, fun _ => rfl⟩
              · exact ⟨0, by omega, fun w => by omega, fun w => absurd w e⟩
            have ex2 : ∃ t', t' < 2 ∧ (t' = 1 ↔ (t = 1 ∧ G.sp p (o + k) = tn (Sd (n - 1 - k)))) := by
              by_cases e : t = 1 ∧ G.sp p (o + k) = tn (Sd (n - 1 - k))
              · exact ⟨1, by omega, fun _ => e, fun _ => rfl⟩
              · exact ⟨0, by omega, fun w => by omega, fun w => absurd w e⟩
            obtain ⟨s1, s2, s3⟩ := ex1
            obtain ⟨t1, t2, t3⟩ := ex2
            obtain ⟨u, hu⟩ := ihj (k + 1) s1 t1 (by omega) s2 t2 (s3.trans ⟨fun ⟨w1, w2⟩ k' hk' => by
              by_cases e1 : k' = k
              · subst e1; exact w2
              · exact hss.mp w1 k' (by omega), fun w => ⟨hss.mpr (fun k' hk' => w k' (by omega)), w k (by omega)⟩⟩) (t3.trans ⟨fun ⟨w1, w2⟩ k' hk' => by
              by_cases e1 : k' = k
              · subst e1; exact w2
              · exact htt.mp w1 k' (by omega), fun w => ⟨htt.mpr (fun k' hk' => w k' (by omega)), w k (by omega)⟩⟩)
            refine ⟨u, fun s' t' g1 g2 g3 g4 => ?_⟩
            have e1 : s' = s1 := by
              have := g3.trans s3.symm
              omega
            have e2 : t' = t1 := by
              have := g4.trans t3.symm
              omega
            rw [e1, e2]
            exact hu
          obtain ⟨u, hu⟩ := go
          have h95 : ∀ s', s' < 2 → (s' = 1 ↔ (s = 1 ∧ G.sp p (o + k) = Sd k)) → w_Mo_lies_95 Q (w_Mo_lies_33 Q (nI p) 1 (nI NW) length pa sc st so wi walk m) (w_Mo_lies_55 Q (w_Mo_lies_33 Q (nI p) 1 (nI NW) length pa sc st so wi walk m) (nI p) 1 (nI NW) length pa sc st so wi walk u) (nI p) 1 (nI NW) length pa sc st so wi walk (nI n) (nI f) (nI o) (nI t) (nI k) (nI s') := by
            intro s' hs' hs''
            unfold w_Mo_lies_95 w_Mo_lies_136 w_Mo_lies_137
            simp only [forall_eq]
            rw [nI_1]
            refine ⟨fun q => ?_, fun q => ?_⟩
            · have e1 : t = 0 := (nI_eq (b := 0) (by omega) (by omega)).mp q
              exact hu s' 0 hs' (by omega) hs'' ⟨fun w => by omega, fun w => by omega⟩
            · have e1 : t = 1 := by
                have : t ≠ 0 := fun w => q (congrArg nI w)
                omega
              rw [show (8 : Int32) = nI 8 from rfl, pk_mul, nI_add, nI_add, nI_clamp (by omega), show 8 * p + o + k = 8 * p + (o + k) by omega, hstk, show (1 : Int32) = nI 1 from rfl, pk_sub (by omega), pk_sub (by omega)]
              refine ⟨vp_in_nI (by omega) (by omega), s_Mo_side hG hR hN1 hN hW hlt hch hSD (by omega) ?_⟩
              rw [show (nI 1 : Int32) = 1 from rfl, tn_x _ (by omega)]
              refine ⟨fun q => hu s' 1 hs' (by omega) hs'' ⟨fun _ => ⟨e1, (nI_eq (by omega) (by omega)).mp q⟩, fun _ => rfl⟩, fun q => hu s' 0 hs' (by omega) hs'' ⟨fun w => by omega, fun w => absurd (congrArg nI w.2) q⟩⟩
          refine ⟨u + 1, ?_⟩
          show w_Mo_lies_55B Q _ _ (nI p) 1 (nI NW) length pa sc st so wi walk _ _ _ _ _ _
          unfold w_Mo_lies_55B w_Mo_lies_94
          refine ⟨fun q => absurd ((nI_leI (by omega) (by omega)).mp q) (by omega), fun _ => ⟨fun q => ?_, fun q => ?_⟩⟩
          · have e1 : s = 0 := (nI_eq (b := 0) (by omega) (by omega)).mp q
            exact h95 0 (by omega) ⟨fun w => by omega, fun w => by omega⟩
          · have e1 : s = 1 := by
              have : s ≠ 0 := fun w => q (congrArg nI w)
              omega
            simp only [forall_eq]
            rw [show (8 : Int32) = nI 8 from rfl, pk_mul, nI_add, nI_add, nI_clamp (by omega), show 8 * p + o + k = 8 * p + (o + k) by omega, hstk]
            refine ⟨vp_in_nI (by omega) (by omega), s_Mo_side hG hR hN1 hN hW hlt hch hSD (by omega) ?_⟩
            exact ⟨fun q => h95 1 (by omega) ⟨fun _ => ⟨e1, (nI_eq (by omega) (by omega)).mp q⟩, fun _ => rfl⟩, fun q => h95 0 (by omega) ⟨fun w => by omega, fun w => absurd (congrArg nI w.2) q⟩⟩
      exact L55 n 0 1 1 (by omega) (by omega) (by omega) ⟨fun _ k' hk' => absurd hk' (Nat.not_lt_zero _), fun _ => rfl⟩ ⟨fun _ k' hk' => absurd hk' (Nat.not_lt_zero _), fun _ => rfl⟩
  exact ⟨G.sn p + 2, L33 (G.sn p + 2) 0 0 (by omega) (by omega) (by omega) ⟨fun w => by omega, fun ⟨o', w, _⟩ => absurd w (Nat.not_lt_zero _)⟩⟩
end REF
