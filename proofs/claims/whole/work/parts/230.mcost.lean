/-! the reference's costs -/
def Att (G : GD) (rd P T : Nat → Nat) (i v c : Nat) : Prop := c = i + 1 ∨ Bc G rd P i v c ∨ ∃ u, Fo G u v ∧ T u + 1 ≤ c
section REF
variable {G : GD} {bases length lk fa ta so wi re : Nat → Int32} {rd : Nat → Nat} {R : Nat}
theorem s_Mo_lower {Q : Int32 → Unit → Prop} {tb : Nat → Int32} {P T : Nat → Nat} {i v : Nat} (hG : G.ok) (hR : RP G (nI G.N) bases length lk fa ta so wi) (hr : RDp re rd R) (hiR : i ≤ R) (hv : v < G.N) (hP : 1 ≤ i → RW G tb (i - 1) P ∧ ∀ v, v < G.N → P v < 100) (hW : RW G tb i T) (hT : ∀ v, v < G.N → T v < 100)
    (h : ∀ c, c ≤ i + 1 → (∀ d, Bc G rd P i v d → c ≤ d) → (∀ u, Fo G u v → c ≤ T u + 1) → Att G rd P T i v c → Q (nI c) ()) : wp_Mo_lower Q (nI i) (nI v) (nI G.N) bases length lk fa ta so wi re tb := by
  have h64 := hG.n64
  have h12 := hr.1
  -- deletes
  have L154 : ∀ (j u b : Nat), u + j = G.N → b ≤ i + 1 → (∀ d, Bc G rd P i v d → b ≤ d) → (∀ u', u' < u → Fo G u' v → b ≤ T u' + 1) → Att G rd P T i v b → ∃ m, w_Mo_lower_154 Q (nI i) (nI v) (nI G.N) bases length lk fa ta so wi re tb m (nI b) (nI u) := by
    intro j
    induction j with
    | zero =>
      intro u b hu h1 h2 h3 h4
      refine ⟨1, ?_⟩
      show w_Mo_lower_154B Q _ (nI i) (nI v) (nI G.N) bases length lk fa ta so wi re tb _ _
      unfold w_Mo_lower_154B
      exact ⟨fun _ => h b h1 h2 (fun u' hF => h3 u' (by have : u' < G.N := hF.lt.1; omega) hF) h4, fun q => absurd (nI_le (by omega) (by omega)) q⟩
    | succ j ih =>
      intro u b hu h1 h2 h3 h4
      have huN : u < G.N := by omega
      have hTu := hT u huN
      have go : ∀ b', b' ≤ i + 1 → b' ≤ b → (Fo G u v → b' ≤ T u + 1) → Att G rd P T i v b' → ∃ m, w_Mo_lower_154 Q (nI i) (nI v) (nI G.N) bases length lk fa ta so wi re tb m (nI b') (nI (u + 1)) := fun b' g1 g2 g3 g4 => ih (u + 1) b' (by omega) g1 (fun d hd => Nat.le_trans g2 (h2 d hd)) (fun u' hu' hF => by
        by_cases e1 : u' = u
        · subst e1; exact g3 hF
        · exact Nat.le_trans g2 (h3 u' (by omega) hF)) g4
      by_cases hF : Fo G u v
      · rcases Nat.lt_or_ge (T u + 1) b with w | w
        · obtain ⟨m, hm⟩ := go (T u + 1) (by omega) (by omega) (fun _ => Nat.le_refl _) (Or.inr (Or.inr ⟨u, hF, Nat.le_refl _⟩))
          refine ⟨m + 1, ?_⟩
          show w_Mo_lower_154B Q _ (nI i) (nI v) (nI G.N) bases length lk fa ta so wi re tb _ _
          unfold w_Mo_lower_154B
          refine ⟨fun q => absurd ((nI_leI (by omega) (by omega)).mp q) (by omega), fun _ => ?_⟩
          refine s_after hG hR huN hv (fun _ => ⟨fun q => absurd q (by decide), fun _ => ?_⟩) (fun z => absurd hF z)
          simp only [forall_eq]
          rw [show (64 : Int32) = nI 64 from rfl, pk_mul, nI_add, nI_clamp (by omega), hW u huN, nI_1]
          refine ⟨vp_in_nI (by omega) (by omega), fun q => absurd ((nI_leI (by omega) (by omega)).mp q) (by omega), fun _ => ⟨vp_in_nI (by omega) (by omega), ?_⟩⟩
          unfold w_Mo_lower_209 w_Mo_lower_210
          simp only [forall_eq]
          rw [nI_1]
          exact hm
        · obtain ⟨m, hm⟩ := go b h1 (Nat.le_refl _) (fun _ => w) h4
          refine ⟨m + 1, ?_⟩
          show w_Mo_lower_154B Q _ (nI i) (nI v) (nI G.N) bases length lk fa ta so wi re tb _ _
          unfold w_Mo_lower_154B
          refine ⟨fun q => absurd ((nI_leI (by omega) (by omega)).mp q) (by omega), fun _ => ?_⟩
          refine s_after hG hR huN hv (fun _ => ⟨fun q => absurd q (by decide), fun _ => ?_⟩) (fun z => absurd hF z)
          simp only [forall_eq]
          rw [show (64 : Int32) = nI 64 from rfl, pk_mul, nI_add, nI_clamp (by omega), hW u huN, nI_1]
          refine ⟨vp_in_nI (by omega) (by omega), fun _ => ?_, fun q => absurd (nI_le w (by omega)) q⟩
          unfold w_Mo_lower_209 w_Mo_lower_210
          simp only [forall_eq]
          rw [nI_1]
          exact hm
      · obtain ⟨m, hm⟩ := go b h1 (Nat.le_refl _) (fun z => absurd z hF) h4
        refine ⟨m + 1, ?_⟩
        show w_Mo_lower_154B Q _ (nI i) (nI v) (nI G.N) bases length lk fa ta so wi re tb _ _
        unfold w_Mo_lower_154B
        refine ⟨fun q => absurd ((nI_leI (by omega) (by omega)).mp q) (by omega), fun _ => ?_⟩
        refine s_after hG hR huN hv (fun z => absurd z hF) (fun _ => ⟨fun _ => ?_, fun q => absurd rfl q⟩)
        unfold w_Mo_lower_210
        simp only [forall_eq]
        rw [nI_1]
        exact hm
  have L151 : ∀ b, b ≤ i + 1 → (∀ d, Bc G rd P i v d → b ≤ d) → Att G rd P T i v b → w_Mo_lower_151 Q (nI i) (nI v) (nI G.N) bases length lk fa ta so wi re tb (nI b) := fun b g1 g2 g3 => L154 G.N 0 b (by omega) g1 g2 (fun u' hu' => absurd hu' (Nat.not_lt_zero _)) g3
  unfold wp_Mo_lower
  simp only [forall_eq]
  rw [nI_1]
  refine ⟨fun q => ?_, fun q => ?_⟩
  · have i0 : i = 0 := by have := (nI_leI (b := 0) (by omega) (by omega)).mp q; omega
    exact L151 (i + 1) (Nat.le_refl _) (fun d hd => by rcases hd with hd | hd <;> omega) (Or.inl rfl)
  have hi1 : 1 ≤ i := by
    rcases Nat.eq_zero_or_pos i with w | w
    · subst w; exact absurd (by decide) q
    · exact w
  obtain ⟨hP1, hP2⟩ := hP hi1
  have hmm := mm_le (G := G) (rd := rd) (i := i) (v := v)
  have hPv := hP2 v hv
  -- from the row before
  have L81 : ∀ (j u b : Nat), u + j = G.N → b ≤ i + 1 → b ≤ i - 1 + mm rd G i v → b ≤ P v + 1 → (∀ u', u' < u → Fo G u' v → b ≤ P u' + mm rd G i v) → Bc G rd P i v b → ∃ m, w_Mo_lower_81 Q (nI i) (nI v) (nI G.N) bases length lk fa ta so wi re tb m (nI b) (nI (mm rd G i v)) (nI u) := by
    intro j
    induction j with
    | zero =>
      intro u b hu h1 h2 h2' h3 h4
      refine ⟨1, ?_⟩
      show w_Mo_lower_81B Q _ (nI i) (nI v) (nI G.N) bases length lk fa ta so wi re tb _ _ _
      unfold w_Mo_lower_81B
      refine ⟨fun _ => L151 b h1 (fun d hd => ?_) (Or.inr (Or.inl h4)), fun q => absurd (nI_le (by omega) (by omega)) q⟩
      rcases hd with hd | ⟨_, hd | hd | ⟨u', hF, hd⟩⟩
      · omega
      · omega
      · omega
      · rw [hd]; exact h3 u' (by have : u' < G.N := hF.lt.1; omega) hF
    | succ j ih =>
      intro u b hu h1 h2 h2' h3 h4
      have huN : u < G.N := by omega
      have hPu := hP2 u huN
      have go : ∀ b', b' ≤ b → (Fo G u v → b' ≤ P u + mm rd G i v) → Bc G rd P i v b' → ∃ m, w_Mo_lower_81 Q (nI i) (nI v) (nI G.N) bases length lk fa ta so wi re tb m (nI b') (nI (mm rd G i v)) (nI (u + 1)) := fun b' g2 g3 g4 => ih (u + 1) b' (by omega) (by omega) (by omega) (by omega) (fun u' hu' hF => by
        by_cases e1 : u' = u
        · subst e1; exact g3 hF
        · exact Nat.le_trans g2 (h3 u' (by omega) hF)) g4
      by_cases hF : Fo G u v
      · have e64 : 64 * i - 64 + u = 64 * (i - 1) + u := by omega
        rcases Nat.lt_or_ge (P u + mm rd G i v) b with w | w
        · obtain ⟨m, hm⟩ := go (P u + mm rd G i v) (by omega) (fun _ => Nat.le_refl _) (Or.inr ⟨hi1, Or.inr (Or.inr ⟨u, hF, rfl⟩)⟩)
          refine ⟨m + 1, ?_⟩
          show w_Mo_lower_81B Q _ (nI i) (nI v) (nI G.N) bases length lk fa ta so wi re tb _ _ _
          unfold w_Mo_lower_81B
          refine ⟨fun q => absurd ((nI_leI (by omega) (by omega)).mp q) (by omega), fun _ => ?_⟩
          refine s_after hG hR huN hv (fun _ => ⟨fun q => absurd q (by decide), fun _ => ?_⟩) (fun z => absurd hF z)
          simp only [forall_eq]
          rw [show (64 : Int32) = nI 64 from rfl, pk_mul, pk_sub (by omega), nI_add, nI_clamp (by omega), e64, hP1 u huN, nI_add]
          refine ⟨vp_in_nI (by omega) (by omega), fun q => absurd ((nI_leI (by omega) (by omega)).mp q) (by omega), fun _ => ⟨vp_in_nI (by omega) (by omega), ?_⟩⟩
          unfold w_Mo_lower_144 w_Mo_lower_145
          simp only [forall_eq]
          rw [nI_1]
          exact hm
        · obtain ⟨m, hm⟩ := go b (Nat.le_refl _) (fun _ => w) h4
          refine ⟨m + 1, ?_⟩
          show w_Mo_lower_81B Q _ (nI i) (nI v) (nI G.N) bases length lk fa ta so wi re tb _ _ _
          unfold w_Mo_lower_81B
          refine ⟨fun q => absurd ((nI_leI (by omega) (by omega)).mp q) (by omega), fun _ => ?_⟩
          refine s_after hG hR huN hv (fun _ => ⟨fun q => absurd q (by decide), fun _ => ?_⟩) (fun z => absurd hF z)
          simp only [forall_eq]
          rw [show (64 : Int32) = nI 64 from rfl, pk_mul, pk_sub (by omega), nI_add, nI_clamp (by omega), e64, hP1 u huN, nI_add]
          refine ⟨vp_in_nI (by omega) (by omega), fun _ => ?_, fun q => absurd (nI_le w (by omega)) q⟩
          unfold w_Mo_lower_144 w_Mo_lower_145
          simp only [forall_eq]
          rw [nI_1]
          exact hm
      · obtain ⟨m, hm⟩ := go b (Nat.le_refl _) (fun z => absurd z hF) h4
        refine ⟨m + 1, ?_⟩
        show w_Mo_lower_81B Q _ (nI i) (nI v) (nI G.N) bases length lk fa ta so wi re tb _ _ _
        unfold w_Mo_lower_81B
        refine ⟨fun q => absurd ((nI_leI (by omega) (by omega)).mp q) (by omega), fun _ => ?_⟩
        refine s_after hG hR huN hv (fun z => absurd z hF) (fun _ => ⟨fun _ => ?_, fun q => absurd rfl q⟩)
        unfold w_Mo_lower_145
        simp only [forall_eq]
        rw [nI_1]
        exact hm
  have L77 : ∀ b, b ≤ i - 1 + mm rd G i v → b ≤ P v + 1 → Bc G rd P i v b → w_Mo_lower_77 Q (nI i) (nI v) (nI G.N) bases length lk fa ta so wi re tb (nI (mm rd G i v)) (nI b) := fun b g1 g2 g3 => L81 G.N 0 b (by omega) (by omega) g1 g2 (fun u' hu' => absurd hu' (Nat.not_lt_zero _)) g3
  refine s_change hG hR hr hi1 hiR hv ?_
  rw [show (1 : Int32) = nI 1 from rfl, pk_sub (by omega), nI_add]
  refine ⟨fun q => absurd ((nI_leI (by omega) (by omega)).mp q) (by omega), fun _ => ?_⟩
  unfold w_Mo_lower_36
  simp only [forall_eq]
  have e64 : 64 * i - 64 + v = 64 * (i - 1) + v := by omega
  rw [show (64 : Int32) = nI 64 from rfl, pk_mul, pk_sub (by omega), nI_add, nI_clamp (by omega), e64, hP1 v hv, nI_1]
  refine ⟨vp_in_nI (by omega) (by omega), fun q => ?_, fun q => ⟨vp_in_nI (by omega) (by omega), ?_⟩⟩
  · have := (nI_leI (by omega) (by omega)).mp q
    exact L77 _ (Nat.le_refl _) this (Or.inr ⟨hi1, Or.inl rfl⟩)
  · have : ¬ i - 1 + mm rd G i v ≤ P v + 1 := fun w => q (nI_le w (by omega))
    exact L77 _ (by omega) (Nat.le_refl _) (Or.inr ⟨hi1, Or.inr (Or.inl rfl)⟩)
def sm (T : Nat → Nat) : Nat → Nat
  | 0 => 0
  | n + 1 => sm T n + T n
theorem sm_n {T : Nat → Nat} {v c : Nat} : ∀ {n : Nat}, n ≤ v → sm (fu T v c) n = sm T n := by
  intro n
  induction n with
  | zero => intro _; rfl
  | succ n ih =>
    intro hn
    show sm (fu T v c) n + fu T v c n = sm T n + T n
    rw [ih (by omega), fu_n (by omega)]
theorem sm_fu {T : Nat → Nat} {v c : Nat} : ∀ {n : Nat}, v < n → sm (fu T v c) n + T v = sm T n + c := by
  intro n
  induction n with
  | zero => intro h; omega
  | succ n ih =>
    intro hn
    show sm (fu T v c) n + fu T v c n + T v = sm T n + T n + c
    by_cases e1 : v = n
    · subst e1
      rw [fu_s, sm_n (Nat.le_refl _)]
      omega
    · have := ih (by omega)
      rw [fu_n (by omega)]
      omega
theorem s_Mo_costs {Q : (Nat → Int32) → Prop} {tb : Nat → Int32} (hG : G.ok) (hR : RP G (nI G.N) bases length lk fa ta so wi) (hr : RDp re rd R)
    (h : ∀ tb' E, FixT G rd R E → TBp G tb' R E → Q tb') : wp_Mo_costs Q (nI G.N) (nI R) bases length lk fa ta so wi re tb := by
  have h64 := hG.n64
  have h12 := hr.1
  have L2 : ∀ (m i : Nat) (E : Nat → Nat → Nat) (tb : Nat → Int32), R + 1 - i < m → i ≤ R + 1 → (∀ j, j < i → Fix G rd (E (j - 1)) j (E j) ∧ RW G tb j (E j)) → w_Mo_costs_2 Q (nI G.N) (nI R) bases length lk fa ta so wi re m (nI i) tb := by
    intro m
    induction m with
    | zero => intro i E tb h1; omega
    | succ m ih =>
      intro i E tb0 hm hi hE
      show w_Mo_costs_2B Q _ (nI G.N) (nI R) bases length lk fa ta so wi re _ _
      unfold w_Mo_costs_2B
      refine ⟨fun q => ?_, fun q => ?_⟩
      · have := (nI_ltI (by omega) (by omega)).mp q
        exact h tb0 E (fun j hj => (hE j (by omega)).1) (fun j hj => (hE j (by omega)).2)
      have hin : i ≤ R := by
        rcases Nat.lt_or_ge R i with w | w
        · exact absurd (nI_lt w (by omega)) q
        · exact w
      have hP : 1 ≤ i → RW G tb0 (i - 1) (E (i - 1)) ∧ ∀ v, v < G.N → E (i - 1) v < 100 := fun w => ⟨(hE (i - 1) (by omega)).2, fun v hv => by
        have := ((hE (i - 1) (by omega)).1.le hv).1
        omega⟩
      -- passes over the row, until one changes nothing
      have L42 : ∀ (k lo : Nat) (T : Nat → Nat) (tb : Nat → Int32), lo < 2 → (lo = 0 → 1 ≤ k) → (lo = 1 → sm T G.N + 2 ≤ k) → KP (64 * i) tb0 tb → RW G tb i T → (∀ v, v < G.N → T v ≤ i + 1 ∧ Att G rd (E (i - 1)) T i v (T v)) → (lo = 0 → ∀ v, v < G.N → (∀ d, Bc G rd (E (i - 1)) i v d → T v ≤ d) ∧ ∀ u, Fo G u v → T v ≤ T u + 1) → w_Mo_costs_42 Q (w_Mo_costs_2 Q (nI G.N) (nI R) bases length lk fa ta so wi re m) (nI G.N) (nI R) bases length lk fa ta so wi re k (nI i) (nI lo) tb := by
        intro k
        induction k with
        | zero => intro lo T tb h1 h2 h3; omega
        | succ k ihk =>
          intro lo T tb hlo hk0 hk1 hkp hW hA hl0
          show w_Mo_costs_42B Q _ _ (nI G.N) (nI R) bases length lk fa ta so wi re _ _ _
          unfold w_Mo_costs_42B
          simp only [forall_eq]
          refine ⟨fun q => ?_, fun q => ?_⟩
          · have lo0 : lo = 0 := (nI_eq (b := 0) (by omega) (by omega)).mp q
            have hl := hl0 lo0
            have hFix : Fix G rd (E (i - 1)) i T := fun v hv => by
              refine ⟨(hl v hv).1, (hl v hv).2, ?_⟩
              rcases (hA v hv).2 with w | w | ⟨u, w1, w2⟩
              · rcases Nat.eq_zero_or_pos i with z | z
                · exact Or.inl (Or.inl ⟨z, by omega⟩)
                · have := (hl v hv).1 _ (Or.inr ⟨z, Or.inl rfl⟩)
                  have := mm_le (G := G) (rd := rd) (i := i) (v := v)
                  omega
              · exact Or.inl w
              · exact Or.inr ⟨u, w1, Nat.le_antisymm ((hl v hv).2 u w1) w2⟩
            rw [nI_1]
            refine ih (i + 1) (fun j => if j = i then T else E j) tb (by omega) (by omega) (fun j hj => ?_)
            by_cases e1 : j = i
            · subst e1
              simp only [if_true]
              refine ⟨?_, hW⟩
              rcases Nat.eq_zero_or_pos j with w | w
              · intro v hv
                obtain ⟨q1, q2, q3⟩ := hFix v hv
                refine ⟨fun d hd => q1 d (hd.congr hv (fun w' => by omega)), q2, ?_⟩
                rcases q3 with q3 | q3
                · exact Or.inl (q3.congr hv (fun w' => by omega))
                · exact Or.inr q3
              · rw [if_neg (by omega)]
                exact hFix
            · have := hE j (by omega)
              simp only [if_neg e1]
              rw [if_neg (by omega)]
              exact ⟨this.1, this.2.kp hG hkp (by omega)⟩
          have lo1 : lo = 1 := by
            rcases Nat.eq_zero_or_pos lo with w | w
            · subst w; exact absurd rfl q
            · omega
          have hk1' := hk1 lo1
          have L50 : ∀ (j v lo : Nat) (T' : Nat → Nat) (tb : Nat → Int32), v + j = G.N → lo < 2 → KP (64 * i) tb0 tb → RW G tb i T' → (∀ v, v < G.N → T' v ≤ i + 1 ∧ Att G rd (E (i - 1)) T' i v (T' v)) → (lo = 1 → sm T' G.N < sm T G.N) → (lo = 0 → T' = T ∧ ∀ w, w < v → (∀ d, Bc G rd (E (i - 1)) i w d → T' w ≤ d) ∧ ∀ u, Fo G u w → T' w ≤ T' u + 1) → w_Mo_costs_50 Q (w_Mo_costs_2 Q (nI G.N) (nI R) bases length lk fa ta so wi re m) (w_Mo_costs_42 Q (w_Mo_costs_2 Q (nI G.N) (nI R) bases length lk fa ta so wi re m) (nI G.N) (nI R) bases length lk fa ta so wi re k) (nI G.N) (nI R) bases length lk fa ta so wi re (j + 1) (nI i) (nI lo) (nI v) tb := by
            intro j
            induction j with
            | zero =>
              intro v lo T' tb hv hlo hkp hW hA hl1 hl0
              show w_Mo_costs_50B Q _ _ _ (nI G.N) (nI R) bases length lk fa ta so wi re _ _ _ _
              unfold w_Mo_costs_50B
              refine ⟨fun _ => ihk lo T' tb hlo (fun _ => by omega) (fun w => by have := hl1 w; omega) hkp hW hA (fun w v' hv' => (hl0 w).2 v' (by omega)), fun q => absurd (nI_le (by omega) (by omega)) q⟩
            | succ j ihj =>
              intro v lo T' tb hv hlo hkp hW hA hl1 hl0
              have hvN : v < G.N := by omega
              show w_Mo_costs_50B Q _ _ _ (nI G.N) (nI R) bases length lk fa ta so wi re _ _ _ _
              unfold w_Mo_costs_50B
              refine ⟨fun q => absurd ((nI_leI (by omega) (by omega)).mp q) (by omega), fun _ => ?_⟩
              refine s_Mo_lower (P := E (i - 1)) (T := T') hG hR hr hin hvN (fun w => ⟨(hP w).1.kp hG hkp (by omega), (hP w).2⟩) hW (fun v' hv' => by have := (hA v' hv').1; omega) (fun c c1 c2 c3 c4 => ?_)
              have hTv := (hA v hvN).1
              simp only [forall_eq]
              rw [show (64 : Int32) = nI 64 from rfl, pk_mul, nI_add, nI_clamp (by omega), hW v hvN]
              refine ⟨vp_in_nI (by omega) (by omega), fun q => ?_, fun q => ⟨vp_in_nI (by omega) (by omega), ?_⟩⟩
              · have hle := (nI_leI (by omega) (by omega)).mp q
                unfold w_Mo_costs_97
                simp only [forall_eq]
                rw [nI_1]
                refine ihj (v + 1) lo T' tb (by omega) hlo hkp hW hA hl1 (fun w => ⟨(hl0 w).1, fun w' hw' => ?_⟩)
                by_cases e1 : w' = v
                · subst e1; exact ⟨fun d hd => Nat.le_trans hle (c2 d hd), fun u hF => Nat.le_trans hle (c3 u hF)⟩
                · exact (hl0 w).2 w' (by omega)
              · have hlt : c < T' v := by
                  rcases Nat.lt_or_ge c (T' v) with w | w
                  · exact w
                  · exact absurd (nI_le w (by omega)) q
                unfold w_Mo_costs_97
                simp only [forall_eq]
                rw [nI_1]
                refine ihj (v + 1) 1 (fu T' v c) _ (by omega) (by omega) (hkp.up (by omega)) hW.up (fun w hw => ?_) (fun _ => ?_) (fun w => absurd w (by omega))
                · by_cases e1 : w = v
                  · subst e1
                    rw [fu_s]
                    refine ⟨c1, ?_⟩
                    rcases c4 with g | g | ⟨u, g1, g2⟩
                    · exact Or.inl g
                    · exact Or.inr (Or.inl g)
                    · refine Or.inr (Or.inr ⟨u, g1, ?_⟩)
                      by_cases e2 : u = w
                      · subst e2; rw [fu_s]; omega
                      · rw [fu_n e2]; exact g2
                  · rw [fu_n e1]
                    refine ⟨(hA w hw).1, ?_⟩
                    rcases (hA w hw).2 with g | g | ⟨u, g1, g2⟩
                    · exact Or.inl g
                    · exact Or.inr (Or.inl g)
                    · refine Or.inr (Or.inr ⟨u, g1, ?_⟩)
                      by_cases e2 : u = v
                      · subst e2; rw [fu_s]; omega
                      · rw [fu_n e2]; exact g2
                · have := sm_fu (T := T') (c := c) hvN
                  rcases Nat.eq_zero_or_pos lo with w | w
                  · have := (hl0 w).1
                    subst this
                    omega
                  · have := hl1 (by omega)
                    omega
          exact ⟨_, L50 G.N 0 0 T tb (by omega) (by omega) hkp hW hA (fun w => absurd w (by omega)) (fun _ => ⟨rfl, fun w hw => absurd hw (Nat.not_lt_zero _)⟩)⟩
      have L12 : ∀ (j v : Nat) (tb : Nat → Int32), v + j = G.N → KP (64 * i) tb0 tb → (∀ w, w < v → tb (64 * i + w) = nI (i + 1)) → ∃ u, w_Mo_costs_12 Q (w_Mo_costs_2 Q (nI G.N) (nI R) bases length lk fa ta so wi re m) (nI G.N) (nI R) bases length lk fa ta so wi re u (nI i) (nI v) tb := by
        intro j
        induction j with
        | zero =>
          intro v tb hv hkp hw
          refine ⟨1, ?_⟩
          show w_Mo_costs_12B Q _ _ (nI G.N) (nI R) bases length lk fa ta so wi re _ _ _
          unfold w_Mo_costs_12B
          refine ⟨fun _ => ⟨sm (fun _ => i + 1) G.N + 2, ?_⟩, fun q => absurd (nI_le (by omega) (by omega)) q⟩
          exact L42 _ 1 (fun _ => i + 1) tb (by omega) (by omega) (fun _ => Nat.le_refl _) hkp (fun w hw' => hw w (by omega)) (fun v hv => ⟨Nat.le_refl _, Or.inl rfl⟩) (fun w => absurd w (by omega))
        | succ j ihj =>
          intro v tb hv hkp hw
          obtain ⟨u, hu⟩ := ihj (v + 1) (upd tb (64 * i + v) (nI (i + 1))) (by omega) (hkp.up (by omega)) (fun w hw' => by
            by_cases e1 : w = v
            · subst e1; exact pk_us
            · rw [pk_un (by omega)]; exact hw w (by omega))
          refine ⟨u + 1, ?_⟩
          show w_Mo_costs_12B Q _ _ (nI G.N) (nI R) bases length lk fa ta so wi re _ _ _
          unfold w_Mo_costs_12B
          refine ⟨fun q => absurd ((nI_leI (by omega) (by omega)).mp q) (by omega), fun _ => ?_⟩
          simp only [forall_eq]
          rw [show (64 : Int32) = nI 64 from rfl, pk_mul, nI_add, nI_clamp (by omega), nI_1, nI_1]
          exact ⟨vp_in_nI (by omega) (by omega), hu⟩
      exact L12 G.N 0 tb0 (by omega) KP.rf (fun w hw => absurd hw (Nat.not_lt_zero _))
  exact ⟨R + 2, L2 (R + 2) 0 (fun _ _ => 0) tb (by omega) (by omega) (fun j hj => absurd hj (Nat.not_lt_zero _))⟩
end REF
