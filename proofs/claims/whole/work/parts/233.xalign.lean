/-! the class aligns -/
theorem Tr.eds {G : GD} {rd : Nat → Nat} {E : Nat → Nat → Nat} {ed wk : Nat → Nat} {NE NW : Nat} : ∀ {k i v ne nw : Nat}, Tr G rd E ed wk NE NW k i v ne nw → ne < NE ∧ ∀ j, ne ≤ j → j < NE → ed j = 61 ∨ ed j = 88 ∨ ed j = 73 ∨ ed j = 68 := by
  have hedc : ∀ m, edc m = 61 ∨ edc m = 88 ∨ edc m = 73 ∨ edc m = 68 := fun m => by unfold edc; split <;> omega
  intro k
  induction k with
  | zero => intro i v ne nw h; exact h.elim
  | succ k ih =>
    intro i v ne nw h
    have more : ∀ i' v' nw' c, (c = 61 ∨ c = 88 ∨ c = 73 ∨ c = 68) → ed ne = c → Tr G rd E ed wk NE NW k i' v' (ne + 1) nw' → ne < NE ∧ ∀ j, ne ≤ j → j < NE → ed j = 61 ∨ ed j = 88 ∨ ed j = 73 ∨ ed j = 68 := fun i' v' nw' c hc he hT => by
      obtain ⟨g1, g2⟩ := ih hT
      refine ⟨by omega, fun j j1 j2 => ?_⟩
      by_cases e1 : j = ne
      · subst e1; rw [he]; exact hc
      · exact g2 j (by omega) j2
    have last : ∀ n c, (c = 61 ∨ c = 88 ∨ c = 73 ∨ c = 68) → ed ne = c → (∀ j, j < n → ed (ne + 1 + j) = 73) → NE = ne + 1 + n → ne < NE ∧ ∀ j, ne ≤ j → j < NE → ed j = 61 ∨ ed j = 88 ∨ ed j = 73 ∨ ed j = 68 := fun n c hc he h7 hN => by
      refine ⟨by omega, fun j j1 j2 => ?_⟩
      by_cases e1 : j = ne
      · subst e1; rw [he]; exact hc
      · have := h7 (j - (ne + 1)) (by omega)
        rw [show ne + 1 + (j - (ne + 1)) = j by omega] at this
        exact Or.inr (Or.inr (Or.inl this))
    rcases h with ⟨h1, h2, h3, h4, h5, h6, h7⟩ | ⟨h1, h2, u, h3, h4, h5, h6⟩ | ⟨h1, h2, h3, h4, h5, h6⟩ | ⟨h1, u, h3, h4, h5, h6⟩ | ⟨h1, h2, h3, h4, h5, h6, h7⟩
    · exact last _ _ (hedc _) h3 h5 h6
    · exact more _ _ _ _ (hedc _) h4 h6
    · exact more _ _ _ _ (Or.inr (Or.inr (Or.inl rfl))) h5 h6
    · exact more _ _ _ _ (Or.inr (Or.inr (Or.inr rfl))) h4 h6
    · exact last _ _ (Or.inr (Or.inr (Or.inr rfl))) h3 h5 h6
/-- a result: its walk and its edits, both from the last to the first -/
def Res (G : GD) (ed wk : Nat → Nat) (NE NW co : Nat) : Prop := 1 ≤ NW ∧ NW ≤ 24 ∧ 1 ≤ NE ∧ NE ≤ 24 ∧ co ≤ 13 ∧ (∀ j, j < NW → wk j < G.N) ∧ (∀ j, j + 1 < NW → Fo G (wk (j + 1)) (wk j)) ∧ ∀ j, j < NE → ed j = 61 ∨ ed j = 88 ∨ ed j = 73 ∨ ed j = 68
abbrev Wf (wk : Nat → Nat) (NW : Nat) : Nat → Nat := fun k => wk (NW - 1 - k)
def SDp (G : GD) (wk : Nat → Nat) (NW : Nat) (Sd : Nat → Nat) : Prop := ∀ k, k < NW → Sd (scf G (Wf wk NW) k) = sx G (wk (NW - 1 - k))
theorem s_find {Q : (Int32 × Int32 × Int32 × Int32 × Int32 × Int32 × Int32 × (Nat → Int32) × (Nat → Int32) × (Nat → Int32)) → Prop} {G : GD} {tb : Nat → Int32} {R c : Nat} {E : Nat → Nat → Nat} {rd jf jt : Nat → Nat} {fo co wl ec sc bl pla : Int32} {re aN aS aB aP aJ aK sides wb eb : Nat → Int32} (hG : G.ok) (hS1 : 1 ≤ G.S) (hX : XS G.S G.nm G.ln G.bs aN aS aB aP) (hJ : JS G c jf jt aJ aK) (hC : JC G c jf jt) (hc : c ≤ 72) (hr : RDp re rd R) (hF : FixT G rd R E) (hTB : TBp G tb R E)
    (h : ∀ b ed wk NE NW Sd k (x y : Int32) sides' wb' eb', Best G (E R) b → Tr G rd E ed wk NE NW k R b 0 0 → Res G ed wk NE NW (E R b) → NT eb' ed NE → NT wb' wk NW → NT sides' Sd (scf G (Wf wk NW) (NW - 1) + 1) → SDp G wk NW Sd → Q (1, nI (E R b), nI NW, nI NE, nI (scf G (Wf wk NW) (NW - 1) + 1), x, y, sides', wb', eb')) : wp_Rs_find Q fo co wl ec sc bl pla sides wb eb (nI G.N) (nI c) aS aB aP aJ aK (nI R) re tb := by
  have h64 := hG.n64
  have h12 := hr.1
  have hFR := hF R (Nat.le_refl _)
  have hN1 : 1 ≤ G.N := by
    have := (hG.hln 0 (by omega)).1
    have h2 := st0_mono (ln := G.ln) (r := 0) (s := G.S) (by omega)
    show 1 ≤ st0 G.ln G.S
    omega
  unfold wp_Rs_find
  refine s_bestPlace hG h12 hN1 (hTB R (Nat.le_refl _)) (fun v hv => by have := (hFR.le hv).1; omega) (fun b hb => ?_)
  refine s_Co_at hG h12 hb.1 (hTB R (Nat.le_refl _)) ?_
  have hEb := hFR.le hb.1
  have L : ∀ (m i v ne nw : Nat) (f g : Nat → Nat) (wb eb : Nat → Int32), 25 - ne < m → v < G.N → i ≤ R → nw ≤ ne → NT eb f ne → NT wb g nw → ne + i + E i v ≤ 24 → (∀ ed wk NE NW k, (∀ j, j < ne → ed j = f j) → (∀ j, j < nw → wk j = g j) → Tr G rd E ed wk NE NW k i v ne nw → ∃ k', Tr G rd E ed wk NE NW k' R b 0 0) → w_Rs_find_53 Q (nI G.N) (nI c) aS aB aP aJ aK (nI R) re tb m 1 (nI ne) fo (nI (E R b)) (nI nw) (nI ne) sc (nI i) (nI v) sides wb eb := by
    intro m
    induction m with
    | zero => intro i v ne nw f g wb eb h1; omega
    | succ m ih =>
      intro i v ne nw f g wb eb hm hv hi hnw hE hWk hK hacc
      have hpos := (hF i hi).pos hv
      show w_Rs_find_53B Q _ (nI G.N) (nI c) aS aB aP aJ aK (nI R) re tb _ _ _ _ _ _ _ _ _ _ _ _
      unfold w_Rs_find_53B
      refine ⟨fun q => absurd q (by decide), fun _ => ⟨fun q => absurd ((nI_leI (a := 25) (by omega) (by omega)).mp q) (by omega), fun _ => ?_⟩⟩
      refine s_stepBack hG hX hJ hC hc hr hF hTB hi hv hK hnw hE hWk (fun i' v' nw' f' g' wb' eb' k1 k2 k3 k4 k5 k6 k7 k8 k9 k10 => ?_) (fun ne' nw' f' g' wb' eb' x y k1 k2 k3 k4 k5 k6 k7 k8 => ?_)
      · simp only [forall_eq]
        rw [nI_1]
        exact ih i' v' (ne + 1) nw' f' g' wb' eb' (by omega) k1 (by omega) k3 k5 k6 (by omega) (fun ed wk NE NW k g1 g2 g3 => hacc ed wk NE NW (k + 1) (fun j hj => by rw [g1 j (by omega)]; exact k7 j hj) (fun j hj => by rw [g2 j (by omega)]; exact k8 j hj) (k10 ed wk NE NW k g1 g2 g3))
      · simp only [forall_eq]
        obtain ⟨m', rfl⟩ : ∃ m', m = m' + 1 := ⟨m - 1, by omega⟩
        show w_Rs_find_53B Q _ (nI G.N) (nI c) aS aB aP aJ aK (nI R) re tb _ _ _ _ _ _ _ _ _ _ _ _
        unfold w_Rs_find_53B
        refine ⟨fun _ => ?_, fun q => absurd rfl q⟩
        obtain ⟨k', hT⟩ := hacc f' g' ne' nw' 1 k6 k7 (k8 f' g' (fun _ _ => rfl) (fun _ _ => rfl))
        obtain ⟨c1, c2, c3, c4⟩ := hT.chain hb.1
        obtain ⟨d1, d2⟩ := hT.eds
        unfold w_Rs_find_80
        refine s_listSides hG hX k3 (by omega) k5 (fun j hj => c3 j (Nat.zero_le _) hj) (fun j hj => c4 j (Nat.zero_le _) hj) (fun sides' Sd s1 s2 => ?_)
        exact h b f' g' ne' nw' Sd k' _ _ sides' wb' eb' hb hT ⟨k3, by omega, by omega, k1, by omega, fun j hj => c3 j (Nat.zero_le _) hj, fun j hj => c4 j (Nat.zero_le _) hj, fun j hj => d2 j (Nat.zero_le _) hj⟩ k4 k5 s1 s2
  refine ⟨26, L 26 R b 0 0 (fun _ => 0) (fun _ => 0) wb eb (by omega) hb.1 (Nat.le_refl _) (Nat.le_refl _) (fun j hj => absurd hj (Nat.not_lt_zero _)) (fun j hj => absurd hj (Nat.not_lt_zero _)) ?_ (fun ed wk NE NW k _ _ hT => ⟨k, hT⟩)⟩
  rcases Nat.eq_zero_or_pos R with w | w
  · omega
  · have := hEb.2 w
    omega
theorem s_X_align {Q : Int32 → ((Nat → Int32) × Int32 × Int32 × Int32 × Int32 × Int32 × Int32 × Int32 × (Nat → Int32) × (Nat → Int32) × (Nat → Int32)) → Prop} {G : GD} {tb : Nat → Int32} {R c : Nat} {rd jf jt : Nat → Nat} {fo co wl ec sc bl pla : Int32} {re aN aS aB aP aJ aK sides wb eb : Nat → Int32} (hG : G.ok) (hX : XS G.S G.nm G.ln G.bs aN aS aB aP) (hJ : JS G c jf jt aJ aK) (hC : JC G c jf jt) (hc : c ≤ 72) (hr : RDp re rd R)
    (h1 : 1 ≤ G.S → ∀ tb' E b ed wk NE NW Sd k (x y : Int32) sides' wb' eb', FixT G rd R E → Best G (E R) b → Tr G rd E ed wk NE NW k R b 0 0 → Res G ed wk NE NW (E R b) → NT eb' ed NE → NT wb' wk NW → NT sides' Sd (scf G (Wf wk NW) (NW - 1) + 1) → SDp G wk NW Sd → Q (nI (E R b)) (tb', 1, nI (E R b), nI NW, nI NE, nI (scf G (Wf wk NW) (NW - 1) + 1), x, y, sides', wb', eb'))
    (h0 : G.S = 0 → Q (-2) (tb, fo, co, wl, ec, sc, bl, pla, sides, wb, eb)) : wp_X_align Q (nI R) re tb fo co wl ec sc bl pla sides wb eb (nI G.S) (nI G.N) (nI c) aS aB aP aJ aK := by
  have hS := hG.hS
  unfold wp_X_align
  refine ⟨fun q => h0 ((nI_eq (b := 0) (by omega) (by omega)).mp q), fun q => ?_⟩
  have hS1 : 1 ≤ G.S := by
    rcases Nat.eq_zero_or_pos G.S with w | w
    · exact absurd (congrArg nI w) q
    · exact w
  refine s_fill hG hX hJ hC hc hr (Nat.le_refl _) (fun tb' E hF hTB => ?_)
  exact s_find hG hS1 hX hJ hC hc hr hF hTB (fun b ed wk NE NW Sd k x y sides' wb' eb' g1 g2 g3 g4 g5 g6 g7 => h1 hS1 tb' E b ed wk NE NW Sd k x y sides' wb' eb' hF g1 g2 g3 g4 g5 g6 g7)
