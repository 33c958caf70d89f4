/-! the class finds its result -/
theorem s_byDelete {Q : Int32 → (Int32 × Int32 × Int32 × (Nat → Int32) × (Nat → Int32)) → Prop} {G : GD} {tb : Nat → Int32} {i v ne nw c : Nat} {E : Nat → Nat → Nat} {jf jt f g : Nat → Nat} {aJ aK wb eb : Nat → Int32} (hG : G.ok) (hJ : JS G c jf jt aJ aK) (hC : JC G c jf jt) (hc : c ≤ 72) (hi : i ≤ 12) (hW : RW G tb i (E i)) (hT : ∀ v, v < G.N → E i v < 100) (hv : v < G.N) (hne : ne < 25) (hnw : nw < 25) (hE : NT eb f ne) (hWk : NT wb g nw) (hF0 : (∀ u, ¬ Bf G E i 1 (E i v) v u) → ne + 1 + i ≤ 25)
    (h1 : ∀ u, Lst (Bf G E i 1 (E i v) v) u → Q 1 (nI (nw + 1), nI (ne + 1), nI u, upd wb nw (nI v), upd eb ne (nI 68)))
    (h0 : (∀ u, ¬ Bf G E i 1 (E i v) v u) → ∀ f' eb', NT eb' f' (ne + 1 + i) → (∀ j, j < ne → f' j = f j) → f' ne = 68 → (∀ j, j < i → f' (ne + 1 + j) = 73) → Q 0 (nI (nw + 1), nI (ne + 1 + i), nI v, upd wb nw (nI v), eb')) : wp_Rs_stepBackByDelete Q (nI (E i v)) (nI nw) (nI ne) (nI i) (nI v) wb eb (nI c) aJ aK tb := by
  have h64 := hG.n64
  unfold wp_Rs_stepBackByDelete
  refine s_usePlace (c := 68) (by omega) hne hnw ?_
  simp only [forall_eq]
  rw [show (1 : Int32) = nI 1 from rfl]
  refine s_placeBefore hG hJ hC hc hi hW hT (by omega) (hT v hv) hv (fun u hu => ⟨fun _ => h1 u hu, fun q => absurd (nI_pos' (by have : u < G.N := hu.1.1.lt.1; omega)) q⟩) (fun hno => ⟨fun q => absurd q (by decide), fun _ => ?_⟩)
  refine s_insertFirst (f := fu f ne 68) (hF0 hno) hE.add (fun f' eb' k1 k2 k3 => h0 hno f' eb' k1 (fun j hj => ?_) ?_ k3)
  · rw [k2 j (by omega), fu_n (by omega)]
  · rw [k2 ne (by omega), fu_s]
theorem s_stepBack {Q : Int32 → (Int32 × Int32 × Int32 × Int32 × (Nat → Int32) × (Nat → Int32)) → Prop} {G : GD} {tb : Nat → Int32} {R i v ne nw c : Nat} {E : Nat → Nat → Nat} {rd jf jt f g : Nat → Nat} {re aN aS aB aP aJ aK wb eb : Nat → Int32} (hG : G.ok) (hX : XS G.S G.nm G.ln G.bs aN aS aB aP) (hJ : JS G c jf jt aJ aK) (hC : JC G c jf jt) (hc : c ≤ 72) (hr : RDp re rd R) (hF : FixT G rd R E) (hTB : TBp G tb R E) (hi : i ≤ R) (hv : v < G.N) (hK : ne + i + E i v ≤ 24) (hnw : nw ≤ ne) (hE : NT eb f ne) (hWk : NT wb g nw)
    (h1 : ∀ i' v' nw' f' g' wb' eb', v' < G.N → i' ≤ i → nw' ≤ ne + 1 → nw ≤ nw' → NT eb' f' (ne + 1) → NT wb' g' nw' → (∀ j, j < ne → f' j = f j) → (∀ j, j < nw → g' j = g j) → ne + 1 + i' + E i' v' ≤ 24 → (∀ ed wk NE NW k, (∀ j, j < ne + 1 → ed j = f' j) → (∀ j, j < nw' → wk j = g' j) → Tr G rd E ed wk NE NW k i' v' (ne + 1) nw' → Tr G rd E ed wk NE NW (k + 1) i v ne nw) → Q 1 (nI nw', nI (ne + 1), nI i', nI v', wb', eb'))
    (h0 : ∀ ne' nw' f' g' wb' eb' (x y : Int32), ne' ≤ 24 → nw' ≤ ne' → 1 ≤ nw' → NT eb' f' ne' → NT wb' g' nw' → (∀ j, j < ne → f' j = f j) → (∀ j, j < nw → g' j = g j) → (∀ ed wk, (∀ j, j < ne' → ed j = f' j) → (∀ j, j < nw' → wk j = g' j) → Tr G rd E ed wk ne' nw' 1 i v ne nw) → Q 0 (nI nw', nI ne', x, y, wb', eb')) : wp_Rs_stepBack Q (nI nw) (nI ne) (nI i) (nI v) wb eb (nI c) aB aJ aK re tb := by
  have h64 := hG.n64
  have h12 := hr.1
  have hFi := hF i hi
  have hT : ∀ v, v < G.N → E i v < 100 := fun v hv => by have := (hFi.le hv).1; omega
  have hpos := hFi.pos hv
  have hm := mm_le (G := G) (rd := rd) (i := i) (v := v)
  -- a delete
  have del : (1 ≤ i → i - 1 + mm rd G i v ≠ E i v ∧ (∀ u, ¬ Bf G E (i - 1) (mm rd G i v) (E i v) v u) ∧ E (i - 1) v + 1 ≠ E i v) → w_Rs_stepBack_176 Q (nI c) aB aJ aK re tb (nI (E i v)) (nI nw) (nI ne) (nI i) (nI v) wb eb := by
    intro hn
    unfold w_Rs_stepBack_176
    refine s_byDelete hG hJ hC hc (by omega) (hTB i hi) hT hv (by omega) (by omega) hE hWk (fun hno => by have := hFi.last hv hn hno; omega) (fun u hu => ⟨rfl, ?_⟩) (fun hno f' eb' k1 k2 k3 k4 => ⟨rfl, ?_⟩)
    · have e1 := hu.1.2
      exact h1 i u (nw + 1) (fu f ne 68) (fu g nw v) _ _ hu.1.1.lt.1 (Nat.le_refl _) (by omega) (by omega) hE.add hWk.add (fun j hj => fu_n (by omega)) (fun j hj => fu_n (by omega)) (by omega) (fun ed wk NE NW k g1 g2 g3 => Or.inr (Or.inr (Or.inr (Or.inl ⟨hn, u, hu, by rw [g1 ne (by omega), fu_s], by rw [g2 nw (by omega), fu_s], g3⟩))))
    · have i0 := hFi.last hv hn hno
      exact h0 (ne + 1 + i) (nw + 1) f' (fu g nw v) _ _ _ _ (by omega) (by omega) (by omega) k1 hWk.add k2 (fun j hj => fu_n (by omega)) (fun ed wk g1 g2 => Or.inr (Or.inr (Or.inr (Or.inr ⟨hn, hno, by rw [g1 ne (by omega), k3], by rw [g2 nw (by omega), fu_s], fun j hj => by rw [g1 _ (by omega), k4 j hj], rfl, rfl⟩))))
  unfold wp_Rs_stepBack
  refine s_Co_at hG (by omega) hv (hTB i hi) ⟨fun q => ?_, fun q => ?_⟩
  · have i0 : i = 0 := by have := (nI_leI (b := 0) (by omega) (by omega)).mp q; omega
    exact del (fun w => by omega)
  have hi1 : 1 ≤ i := by
    rcases Nat.eq_zero_or_pos i with w | w
    · subst w; exact absurd (by decide) q
    · exact w
  have hFi' := hF (i - 1) (by omega)
  have hT' : ∀ v, v < G.N → E (i - 1) v < 100 := fun v hv => by have := (hFi'.le hv).1; omega
  have hTv := hT v hv
  have hTv' := hT' v hv
  -- with the edit known
  have main : ∀ e, e = edc (mm rd G i v) → e < 65536 → w_Rs_stepBack_52 Q (nI c) aB aJ aK re tb (nI (E i v)) (nI (mm rd G i v)) (nI e) (nI nw) (nI ne) (nI i) (nI v) wb eb := by
    intro e he he2
    unfold w_Rs_stepBack_52
    simp only [forall_eq]
    rw [show (1 : Int32) = nI 1 from rfl, pk_sub (by omega), nI_add]
    refine ⟨fun q => ?_, fun q => ?_⟩
    · have e1 : i - 1 + mm rd G i v = E i v := (nI_eq (by omega) (by omega)).mp q
      refine s_usePlace he2 (by omega) (by omega) ?_
      refine s_insertFirst (f := fu f ne e) (by omega) hE.add (fun f' eb' k1 k2 k3 => ?_)
      refine h0 (ne + 1 + (i - 1)) (nw + 1) f' (fu g nw v) _ _ _ _ (by omega) (by omega) (by omega) k1 hWk.add (fun j hj => by rw [k2 j (by omega), fu_n (by omega)]) (fun j hj => fu_n (by omega)) (fun ed wk g1 g2 => Or.inl ⟨hi1, e1, by rw [g1 ne (by omega), k2 ne (by omega), fu_s, he], by rw [g2 nw (by omega), fu_s], fun j hj => by rw [g1 _ (by omega), k3 j hj], rfl, rfl⟩)
    have n1 : i - 1 + mm rd G i v ≠ E i v := fun w => q (congrArg nI w)
    refine s_placeBefore hG hJ hC hc (by omega) (hTB (i - 1) (by omega)) hT' hm hTv hv (fun u hu => ⟨fun q => absurd q (nI_pos (by have : u < G.N := hu.1.1.lt.1; omega)), fun _ => ?_⟩) (fun hno => ⟨fun _ => ?_, fun q => absurd (by decide) q⟩)
    · refine s_usePlace he2 (by omega) (by omega) ?_
      have e1 := hu.1.2
      exact h1 (i - 1) u (nw + 1) (fu f ne e) (fu g nw v) _ _ hu.1.1.lt.1 (by omega) (by omega) (by omega) hE.add hWk.add (fun j hj => fu_n (by omega)) (fun j hj => fu_n (by omega)) (by omega) (fun ed wk NE NW k g1 g2 g3 => Or.inr (Or.inl ⟨hi1, n1, u, hu, by rw [g1 ne (by omega), fu_s, he], by rw [g2 nw (by omega), fu_s], g3⟩))
    · refine s_Co_at (T := E (i - 1)) hG (by omega) hv (hTB (i - 1) (by omega)) ?_
      rw [nI_add]
      refine ⟨fun q => ?_, fun q => del (fun _ => ⟨n1, hno, fun w => q (congrArg nI w)⟩)⟩
      have e1 : E (i - 1) v + 1 = E i v := (nI_eq (by omega) (by omega)).mp q
      refine s_addEdit (c := 73) (by omega) (by omega) ?_
      exact h1 (i - 1) v nw (fu f ne 73) g _ _ hv (by omega) (by omega) (Nat.le_refl _) hE.add hWk (fun j hj => fu_n (by omega)) (fun j hj => rfl) (by omega) (fun ed wk NE NW k g1 g2 g3 => Or.inr (Or.inr (Or.inl ⟨hi1, n1, hno, e1, by rw [g1 ne (by omega), fu_s], g3⟩)))
  simp only [forall_eq]
  rw [nI_clamp (by omega), hX.base hv]
  refine ⟨vp_in_nI (by omega) (by omega), s_costOn hG hr hi1 hi hv ⟨fun q => ?_, fun q => ?_⟩⟩
  · have : mm rd G i v = 0 := (nI_eq (b := 0) (by omega) (by omega)).mp q
    exact main 61 (by unfold edc; rw [if_pos this]) (by omega)
  · have : mm rd G i v ≠ 0 := fun w => q (congrArg nI w)
    exact main 88 (by unfold edc; rw [if_neg this]) (by omega)
/-! sides of a walk -/
def sx (G : GD) (v : Nat) : Nat := fs G.ln v (2 * G.S)
def bgB (G : GD) (v : Nat) : Bool := decide (v = ps G.ln (sx G v))
theorem sx_At {G : GD} {v x i : Nat} (h : At G.ln G.S v x i) : sx G v = x := fs_At h
theorem bg_At {G : GD} {v x i : Nat} (h : At G.ln G.S v x i) : bgB G v = true ↔ i = 0 := by
  unfold bgB
  rw [sx_At h, decide_eq_true_eq]
  have := h.2.2
  omega
theorem Fo.side {G : GD} {u v : Nat} (h : Fo G u v) : bgB G v = false → sx G v = sx G u := by
  obtain ⟨x, i, y, j, h1, h2, h3⟩ := h
  intro hb
  rcases h3 with ⟨h3, h4⟩ | ⟨_, h4, _⟩
  · have h5 : At G.ln G.S v x (i + 1) := ⟨h1.1, h3, by have := h1.2.2; omega⟩
    rw [sx_At h5, sx_At h1]
  · have := (bg_At h2).mpr h4
    rw [hb] at this
    exact absurd this (by decide)
def scf (G : GD) (W : Nat → Nat) : Nat → Nat
  | 0 => 0
  | k + 1 => scf G W k + (if bgB G (W (k + 1)) = true then 1 else 0)
theorem scf_le {G : GD} {W : Nat → Nat} : ∀ {k : Nat}, scf G W k ≤ k := by
  intro k
  induction k with
  | zero => exact Nat.le_refl _
  | succ k ih => show scf G W k + _ ≤ _; split <;> omega
theorem scf_mono {G : GD} {W : Nat → Nat} {j k : Nat} (h : j ≤ k) : scf G W j ≤ scf G W k := by
  induction k with
  | zero => obtain rfl : j = 0 := by omega
            exact Nat.le_refl _
  | succ k ih =>
    rcases Nat.lt_or_ge k j with w | w
    · obtain rfl : j = k + 1 := by omega
      exact Nat.le_refl _
    · have := ih w
      show scf G W j ≤ scf G W k + _
      omega
theorem s_listSides {Q : (Int32 × (Nat → Int32)) → Prop} {G : GD} {NW : Nat} {sc0 : Int32} {wk : Nat → Nat} {sides wb aN aS aB aP : Nat → Int32} (hG : G.ok) (hX : XS G.S G.nm G.ln G.bs aN aS aB aP) (hN1 : 1 ≤ NW) (hN2 : NW ≤ 24) (hW : NT wb wk NW) (hlt : ∀ j, j < NW → wk j < G.N) (hch : ∀ j, j + 1 < NW → Fo G (wk (j + 1)) (wk j))
    (h : ∀ sides' Sd, NT sides' Sd (scf G (fun k => wk (NW - 1 - k)) (NW - 1) + 1) → (∀ k, k < NW → Sd (scf G (fun k => wk (NW - 1 - k)) k) = sx G (wk (NW - 1 - k))) → Q (nI (scf G (fun k => wk (NW - 1 - k)) (NW - 1) + 1), sides')) : wp_Rs_listSides Q (nI NW) sc0 sides wb aS aP := by
  have h64 := hG.n64
  have hS := hG.hS
  generalize hWd : (fun k => wk (NW - 1 - k)) = W at h
  have hWk : ∀ k, W k = wk (NW - 1 - k) := fun k => by rw [← hWd]
  have L : ∀ (j k : Nat) (Sd : Nat → Nat) (sides : Nat → Int32), k + j = NW → 1 ≤ k → NT sides Sd (scf G W (k - 1) + 1) → (∀ l, l < k → Sd (scf G W l) = sx G (W l)) → ∃ m, w_Rs_listSides_7 Q (nI NW) wb aS aP m (nI k) (nI (scf G W (k - 1) + 1)) sides := by
    intro j
    induction j with
    | zero =>
      intro k Sd sides hk h1 h2 h3
      obtain rfl : k = NW := by omega
      refine ⟨1, ?_⟩
      show w_Rs_listSides_7B Q _ (nI k) wb aS aP _ _ _
      unfold w_Rs_listSides_7B
      exact ⟨fun _ => h sides Sd h2 (fun l hl => by rw [h3 l hl, hWk]), fun q => absurd (nI_le (by omega) (by omega)) q⟩
    | succ j ih =>
      intro k Sd sides hk h1 h2 h3
      have hlk : W k < G.N := by rw [hWk]; exact hlt _ (by omega)
      have hFo : Fo G (W (k - 1)) (W k) := by
        rw [hWk, hWk]
        have := hch (NW - 1 - k) (by omega)
        rw [show NW - 1 - (k - 1) = NW - 1 - k + 1 by omega]
        exact this
      obtain ⟨x, i, hA⟩ := At.ex hlk
      have hx := hA.1
      have hv := hX.view hx
      have hvi := hv.2 i hA.2.1
      rw [← hA.2.2] at hvi
      have hsc : scf G W k = scf G W (k - 1) + (if bgB G (W k) = true then 1 else 0) := by
        obtain ⟨k', rfl⟩ : ∃ k', k = k' + 1 := ⟨k - 1, by omega⟩
        rfl
      have hle := scf_le (G := G) (W := W) (k := k - 1)
      have hle' := scf_le (G := G) (W := W) (k := k)
      -- the body
      have body : ∀ m, (bgB G (W k) = true → w_Rs_listSides_7 Q (nI NW) wb aS aP m (nI (k + 1)) (nI (scf G W k + 1)) (upd sides (scf G W k) (nI x))) → (bgB G (W k) = false → w_Rs_listSides_7 Q (nI NW) wb aS aP m (nI (k + 1)) (nI (scf G W k + 1)) sides) → w_Rs_listSides_7 Q (nI NW) wb aS aP (m + 1) (nI k) (nI (scf G W (k - 1) + 1)) sides := by
        intro m m1 m0
        show w_Rs_listSides_7B Q _ (nI NW) wb aS aP _ _ _
        unfold w_Rs_listSides_7B
        refine ⟨fun q => absurd ((nI_leI (by omega) (by omega)).mp q) (by omega), fun _ => ?_⟩
        unfold wp_Rs_placeAt
        simp only [forall_eq]
        rw [show (1 : Int32) = nI 1 from rfl, pk_sub (by omega), pk_sub (by omega), nI_clamp (by omega), hW _ (by omega), ← hWk]
        refine ⟨vp_in_nI (by omega) (by omega), fun q => absurd ((nI_eq (b := 0) (by omega) (by omega)).mp q) (by omega), fun _ => ?_⟩
        unfold wp_Gr_beginsSide wp_Gr_firstPlace
        simp only [forall_eq]
        rw [nI_clamp (by omega), hvi.1, nI_clamp (by omega), hv.1]
        have hpsx : ps G.ln x ≤ W k := by have := hA.2.2; omega
        refine ⟨vp_in_nI (by omega) (by omega), vp_in_nI (by omega) (by omega), fun q => ⟨fun q => absurd q (by decide), fun _ => ?_⟩, fun q => ⟨fun _ => ?_, fun q => absurd trivial q⟩⟩
        · have e1 : W k = ps G.ln x := (nI_eq (by omega) (by omega)).mp q
          have hb : bgB G (W k) = true := (bg_At hA).mpr (by have := hA.2.2; omega)
          rw [hb, if_pos rfl] at hsc
          unfold w_Rs_listSides_33 w_Rs_listSides_58
          simp only [forall_eq]
          rw [nI_clamp (n := W k) (by omega), hvi.1, nI_clamp (by omega), nI_1, nI_1, ← hsc]
          exact ⟨vp_in_nI (by omega) (by omega), vp_in_nI (by omega) (by omega), m1 hb⟩
        · have hb : bgB G (W k) = false := by
            rcases Bool.eq_false_or_eq_true (bgB G (W k)) with w | w
            · have := (bg_At hA).mp w
              exact absurd (congrArg nI (by have := hA.2.2; omega)) q
            · exact w
          have e0 := hsc
          rw [hb, if_neg (by decide), Nat.add_zero] at e0
          unfold w_Rs_listSides_58
          simp only [forall_eq]
          rw [nI_1, ← e0]
          exact m0 hb
      rcases Bool.eq_false_or_eq_true (bgB G (W k)) with hb | hb
      · have e0 := hsc
        rw [hb, if_pos rfl] at e0
        obtain ⟨m, hm⟩ := ih (k + 1) (fu Sd (scf G W k) x) (upd sides (scf G W k) (nI x)) (by omega) (by omega) (by rw [show k + 1 - 1 = k by omega, e0]; exact h2.add) (fun l hl => by
          by_cases e1 : l = k
          · subst e1; rw [fu_s, sx_At hA]
          · have := scf_mono (G := G) (W := W) (j := l) (k := k - 1) (by omega)
            rw [fu_n (by omega)]
            exact h3 l (by omega))
        exact ⟨m + 1, body m (fun _ => hm) (fun w => by rw [hb] at w; exact absurd w (by decide))⟩
      · have e0 := hsc
        rw [hb, if_neg (by decide), Nat.add_zero] at e0
        obtain ⟨m, hm⟩ := ih (k + 1) Sd sides (by omega) (by omega) (by rw [show k + 1 - 1 = k by omega, e0]; exact h2) (fun l hl => by
          by_cases e1 : l = k
          · subst e1
            rw [e0, h3 (l - 1) (by omega), hFo.side hb]
          · exact h3 l (by omega))
        exact ⟨m + 1, body m (fun w => by rw [hb] at w; exact absurd w (by decide)) (fun _ => hm)⟩
  -- the first place
  have hl0 : W 0 < G.N := by rw [hWk]; exact hlt _ (by omega)
  obtain ⟨x, i, hA⟩ := At.ex hl0
  have hx := hA.1
  have hv := hX.view hx
  have hvi := hv.2 i hA.2.1
  rw [← hA.2.2] at hvi
  obtain ⟨m, hm⟩ := L (NW - 1) 1 (fu (fun _ => 0) 0 x) (upd sides 0 (nI x)) (by omega) (by omega) (NT.add (n := 0) (fun j hj => absurd hj (Nat.not_lt_zero _))) (fun l hl => by
    obtain rfl : l = 0 := by omega
    show fu _ 0 x 0 = _
    rw [fu_s, sx_At hA])
  refine ⟨m + 1, ?_⟩
  show w_Rs_listSides_7B Q _ (nI NW) wb aS aP _ _ _
  unfold w_Rs_listSides_7B
  refine ⟨fun q => absurd ((nI_leI (b := 0) (by omega) (by omega)).mp q) (by omega), fun _ => ?_⟩
  unfold wp_Rs_placeAt
  simp only [forall_eq]
  rw [show (1 : Int32) = nI 1 from rfl, pk_sub (by omega), show (0 : Int32) = nI 0 from rfl, pk_sub (by omega), nI_clamp (by omega), hW _ (by omega), ← hWk]
  refine ⟨vp_in_nI (by omega) (by omega), fun _ => ?_, fun q => absurd trivial q⟩
  unfold w_Rs_listSides_33 w_Rs_listSides_58
  simp only [forall_eq]
  rw [nI_clamp (n := W 0) (by omega), hvi.1, nI_clamp (by omega), nI_1]
  exact ⟨vp_in_nI (by omega) (by omega), vp_in_nI (by omega) (by omega), hm⟩
