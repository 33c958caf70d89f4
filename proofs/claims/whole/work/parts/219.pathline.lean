/-! lines 'P', both sides -/
theorem s_takePath {Q : Int32 → (Int32 × Int32 × (Nat → Int32) × (Nat → Int32) × (Nat → Int32)) → Prop} {f : Nat → Int32} {t : Nat → Nat} {n a e S Lk P : Nat} {nm fr to pn sn : Nat → Nat} {sp : Nat → Nat → Nat} {aN aF aQ aC aT : Nat → Int32} (hT : Tx f t n) (hE : LE t n a e) (hae : a < e) (h80 : t a = 80) (hS : S ≤ 8) (hP : P ≤ 4) (hN : ∀ j, j < S → aN j = nI (nm j)) (hok : NMok nm S) (hF : FX aF fr to Lk) (hX : XP S P pn sn sp aQ aC aT)
    (h1 : ∀ x k sd, PthP t e S nm (LinkP fr to Lk) a x k sd → e < n → P < 4 → (∀ r, ¬ Fst pn P x r) → ∀ aQ' aC' aT', XP S (P + 1) (fu pn P x) (fu sn P (k + 1)) (fu2 sp P sd) aQ' aC' aT' → Q 1 (nI (e + 1), nI (P + 1), aQ', aC', aT'))
    (h0 : ¬ (∃ x k sd, PthP t e S nm (LinkP fr to Lk) a x k sd ∧ e < n ∧ P < 4 ∧ ∀ r, ¬ Fst pn P x r) → ∀ v, Q 0 v) : wp_X_takePath Q (nI n) (nI (a + 1)) f (nI S) (nI P) aN aF aQ aC aT := by
  have hn := hT.1
  have e2 := hE.2.1
  unfold wp_X_takePath
  refine s_takes (k := 9) hT (hE.mv (by omega) (by omega)) (by omega) (by omega) (by omega) (fun z3 z4 => ⟨fun q => absurd q (by decide), fun _ => ?_⟩) (fun z => ⟨fun _ => h0 (fun ⟨x, k, sd, ⟨b, y1, y2, y3, y4, _⟩, _⟩ => z ⟨y3, y4⟩) _, fun q => absurd rfl q⟩)
  obtain ⟨b, hR⟩ := run_ex isN t e (e - (a + 2)) (a + 2) (by omega)
  have hR' := hR
  obtain ⟨r1, r2, r3, r4⟩ := hR'
  have hE2 : LE t n (a + 2) e := hE.mv (by omega) (by omega)
  refine s_takeName (a := a + 2) hT hE2 hR (fun k k1 k2 k3 => ?_)
  have hcd : ∀ i, i < k → 1 ≤ t (a + 2 + i) ∧ t (a + 2 + i) < 128 := fun i hi => by have := isN_range (r3 (a + 2 + i) (by omega) (by omega)); omega
  have hp : pck (fun i => t (a + 2 + i)) k < 128 ^ k := pck_lt (fun i hi => (hcd i (by omega)).2)
  have hp2 : 128 ^ k ≤ 2097152 := by
    have : k = 0 ∨ k = 1 ∨ k = 2 ∨ k = 3 := by omega
    rcases this with rfl | rfl | rfl | rfl <;> decide
  have hz0 : pck (fun i => t (a + 2 + i)) k = 0 → k = 0 := fun z => by
    rcases Nat.lt_or_ge 0 k with w | w
    · have := pck_ge (fun i hi => (hcd i hi).1) w
      have : 1 ≤ 128 ^ (k - 1) := Nat.one_le_pow _ _ (by decide)
      omega
    · omega
  refine ⟨fun q => h0 (fun ⟨x, k', sd, ⟨b', y1, y2, y3, y4, y5, y6, _⟩, _⟩ => ?_) _, fun q => ?_⟩
  · have := hR.uniq y5
    have := hz0 ((nI_eq (b := 0) (by omega) (by omega)).mp q)
    omega
  have k0 : 1 ≤ k := by
    rcases Nat.lt_or_ge 0 k with w | w
    · exact w
    · obtain rfl : k = 0 := by omega
      exact absurd rfl q
  refine s_takes (k := 9) hT (hE.mv (by omega) (by omega)) (by omega) (by omega) (by omega) (fun z5 z6 => ⟨fun q => absurd q (by decide), fun _ => ?_⟩) (fun z => ⟨fun _ => h0 (fun ⟨x, k', sd, ⟨b', y1, y2, y3, y4, y5, y6, y7, y8, y9, y10, _⟩, _⟩ => ?_) _, fun q => absurd rfl q⟩)
  rotate_left
  · have := hR.uniq y5
    subst this
    exact z (by rw [show a + 2 + k = b by omega]; exact ⟨y9, y10⟩)
  have hb : a + 2 + k = b := by
    rcases k3 with w | w
    · rcases Nat.lt_or_ge (a + 2 + k) b with g | g
      · have := isN_range (r3 (a + 2 + k) (by omega) g)
        omega
      · omega
    · omega
  have hk : k = b - (a + 2) := by omega
  refine s_addPath (S := S) hP (by omega) hX (fun g1 g2 => ⟨fun q => absurd q (by decide), fun _ => ?_⟩) (fun z => ⟨fun _ => h0 (fun ⟨x, k', sd, ⟨b', y1, y2, y3, y4, y5, y6, y7, y8, _⟩, y16, y17, y18⟩ => ?_) _, fun q => absurd rfl q⟩)
  rotate_left
  · have := hR.uniq y5
    subst this
    refine z ⟨y17, ?_⟩
    rw [hk, ← y8]
    exact y18
  rw [hb]
  have none : (∀ k' sd', ¬ Fin t e S nm (LinkP fr to Lk) (b + 1) k' sd') → ¬ (∃ x k sd, PthP t e S nm (LinkP fr to Lk) a x k sd ∧ e < n ∧ P < 4 ∧ ∀ r, ¬ Fst pn P x r) := fun z ⟨x, k', sd, ⟨b', y1, y2, y3, y4, y5, y6, y7, y8, y9, y10, y11⟩, _⟩ => by
    have := hR.uniq y5
    subst this
    exact z k' sd y11
  have noend : ¬ e < n → ¬ (∃ x k sd, PthP t e S nm (LinkP fr to Lk) a x k sd ∧ e < n ∧ P < 4 ∧ ∀ r, ¬ Fst pn P x r) := fun z ⟨_, _, _, _, y, _⟩ => z y
  have hb1 : b < e := by omega
  have hb9 : t b = 9 := by rw [← hb]; exact z6
  have L : ∀ (j i c : Nat) (sd : Nat → Nat) (C T : Nat → Int32), i + j = 8 → Pre t e S nm (LinkP fr to Lk) (b + 1) i sd c → C P = nI i → (∀ p, p < P → C p = aC p) → (∀ q, q < 8 * P → T q = aT q) → (∀ q, q < i → T (8 * P + q) = nI (sd q) ∧ sd q < 2 * S) → ∃ u, w_X_takePath_44 Q (nI n) f (nI S) aN aF u 1 (nI i) (nI c) (nI (P + 1)) (upd aQ P (nI (pck (fun i => t (a + 2 + i)) k))) C T := by
    intro j
    induction j with
    | zero =>
      intro i c sd C T hi hpre _ _ _ _
      refine ⟨1, ?_⟩
      show w_X_takePath_44B Q _ (nI n) f (nI S) aN aF _ _ _ _ _ _ _
      unfold w_X_takePath_44B w_X_takePath_92
      refine ⟨fun q => absurd q (by decide), fun _ => ⟨fun _ => ⟨fun q => absurd q (by decide), fun _ => ?_⟩, fun q => absurd (nI_le (a := 8) (b := i) (by omega) (by omega)) q⟩⟩
      refine h0 (none (fun k' sd' hF' => ?_)) _
      obtain ⟨a1, -, -, w1, w2, -⟩ := hF'.at hpre
      omega
    | succ j ih =>
      intro i c sd C T hi hpre hC hC2 hT1 hT2
      have hpos := hpre.pos (by omega)
      -- one step more
      by_cases hs : ∃ x a1, SideP t e S nm 0 c x a1
      · obtain ⟨x, a1, hs⟩ := hs
        have hsl := hs.le
        by_cases hl : 0 < i → LinkP fr to Lk (sd (i - 1)) x
        · -- the step stands; a comma or not
          have hpre' : ∀ j, j < i → sd j = fu sd i x j := fun j hj => (fu_n (by omega)).symm
          have hl' : 0 < i → LinkP fr to Lk (fu sd i x (i - 1)) (fu sd i x i) := fun h => by rw [fu_s, fu_n (by omega)]; exact hl h
          have hs' : SideP t e S nm 0 c (fu sd i x i) a1 := by rw [fu_s]; exact hs
          have go : ∀ (r : Int32) (u : Nat), (∀ c', (if a1 < e ∧ t a1 = 44 then r = 1 ∧ c' = a1 + 1 else r = 0 ∧ c' = a1) → w_X_takePath_44 Q (nI n) f (nI S) aN aF u r (nI (i + 1)) (nI c') (nI (P + 1)) (upd aQ P (nI (pck (fun i => t (a + 2 + i)) k))) (upd C P (nI (i + 1))) (upd T (8 * P + i) (nI x))) → True := fun _ _ _ => trivial
          have cont : ∃ u, (a1 < e ∧ t a1 = 44 → w_X_takePath_44 Q (nI n) f (nI S) aN aF u 1 (nI (i + 1)) (nI (a1 + 1)) (nI (P + 1)) (upd aQ P (nI (pck (fun i => t (a + 2 + i)) k))) (upd C P (nI (i + 1))) (upd T (8 * P + i) (nI x))) ∧ (¬ (a1 < e ∧ t a1 = 44) → w_X_takePath_44 Q (nI n) f (nI S) aN aF u 0 (nI (i + 1)) (nI a1) (nI (P + 1)) (upd aQ P (nI (pck (fun i => t (a + 2 + i)) k))) (upd C P (nI (i + 1))) (upd T (8 * P + i) (nI x))) := by
            by_cases hc : a1 < e ∧ t a1 = 44
            · obtain ⟨u, hu⟩ := ih (i + 1) (a1 + 1) (fu sd i x) (upd C P (nI (i + 1))) (upd T (8 * P + i) (nI x)) (by omega) ⟨c, a1, hpre.congr hpre', hs', hl', hc.1, hc.2, rfl⟩ pk_us (fun p hp => by rw [pk_un (by omega)]; exact hC2 p hp) (fun q hq => by rw [pk_un (by omega)]; exact hT1 q hq) (fun q hq => by
                by_cases eq : q = i
                · subst eq; rw [pk_us, fu_s]; exact ⟨rfl, hsl.2.2⟩
                · rw [pk_un (by omega), fu_n eq]; exact hT2 q (by omega))
              exact ⟨u, fun _ => hu, fun z => absurd hc z⟩
            · refine ⟨1, fun z => absurd z hc, fun _ => ?_⟩
              show w_X_takePath_44B Q _ (nI n) f (nI S) aN aF _ _ _ _ _ _ _
              unfold w_X_takePath_44B w_X_takePath_92
              have hEa : LE t n a1 e := hE.mv (by omega) (by omega)
              have fin9 : ∀ {k' sd'}, Fin t e S nm (LinkP fr to Lk) (b + 1) k' sd' → a1 < e ∧ t a1 = 9 ∧ a1 + 1 < e ∧ t (a1 + 1) = 42 ∧ a1 + 2 = e := fun hF' => by
                obtain ⟨a1', w0, -, w1, w2, w3, w4⟩ := hF'.at hpre
                obtain ⟨-, i2⟩ := hs.uniq w0
                subst i2
                rcases w4 with w4 | w4
                · exact absurd ⟨w3, w4.2⟩ hc
                · exact ⟨w3, w4.2⟩
              refine ⟨fun _ => ⟨fun _ => ?_, fun q => absurd rfl q⟩, fun q => absurd rfl q⟩
              refine s_takes (k := 9) hT hEa (by omega) (by omega) (by omega) (fun v1 v2 => ⟨fun q => absurd q (by decide), fun _ => ?_⟩) (fun z => ⟨fun _ => h0 (none (fun k' sd' hF' => z ⟨(fin9 hF').1, (fin9 hF').2.1⟩)) _, fun q => absurd rfl q⟩)
              refine s_takes (k := 42) hT (hEa.mv (by omega) (by omega)) (by omega) (by omega) (by omega) (fun v3 v4 => ⟨fun q => absurd q (by decide), fun _ => ?_⟩) (fun z => ⟨fun _ => h0 (none (fun k' sd' hF' => z ⟨(fin9 hF').2.2.1, (fin9 hF').2.2.2.1⟩)) _, fun q => absurd rfl q⟩)
              refine s_takesNL hT (hEa.mv (by omega) (by omega)) (fun v5 v6 => ⟨fun q => absurd q (by decide), fun _ => ?_⟩) (fun z => ⟨fun _ => ?_, fun q => absurd rfl q⟩)
              · refine h1 (pck (fun i => t (a + 2 + i)) k) i (fu sd i x) ⟨b, hae, h80, z3, z4, hR, by omega, by omega, by rw [hk], hb1, hb9, ⟨c, a1, by omega, hpre.congr hpre', hs', hl', v1, v2, v3, v4, by omega⟩⟩ v6 g1 g2 _ _ _ (fun p hp => ?_)
                by_cases ep : p = P
                · subst ep
                  rw [pk_us, pk_us, fu_s, fu_s, fu2_s]
                  refine ⟨rfl, by omega, by omega, rfl, fun q hq => ?_⟩
                  by_cases eq : q = i
                  · subst eq; rw [pk_us, fu_s]; exact ⟨rfl, hsl.2.2⟩
                  · rw [pk_un (by omega), fu_n eq]; exact hT2 q (by omega)
                · obtain ⟨x1, x2, x3, x4, x5⟩ := hX p (by omega)
                  rw [pk_un ep, pk_un ep, fu_n ep, fu_n ep, fu2_n ep, hC2 p (by omega)]
                  exact ⟨x1, x2, x3, x4, fun q hq => by rw [pk_un (by omega), hT1 _ (by omega)]; exact x5 q hq⟩
              · by_cases hen : e < n
                · exact h0 (none (fun k' sd' hF' => z ⟨by have := (fin9 hF').2.2.2.2; omega, hen⟩)) _
                · exact h0 (noend hen) _
          obtain ⟨u, hu1, hu2⟩ := cont
          refine ⟨u + 1, ?_⟩
          show w_X_takePath_44B Q _ (nI n) f (nI S) aN aF _ _ _ _ _ _ _
          unfold w_X_takePath_44B
          refine ⟨fun q => absurd q (by decide), fun _ => ⟨fun q => absurd ((nI_leI (a := 8) (by omega) (by omega)).mp q) (by omega), fun _ => ?_⟩⟩
          refine s_takeSide (tb := 0) hT (hE.mv (by omega) (by omega)) hS (Or.inl rfl) hN hok (fun x' a1' hx' => ?_) (fun hno => absurd hs (hno x a1))
          obtain ⟨i1, i2⟩ := hs.uniq hx'
          subst i1; subst i2
          refine ⟨fun q => absurd q (nI_pos (by omega)), fun _ => ?_⟩
          refine s_addStep (sd := sd) g1 (by omega) (by omega) hF hC (fun j hj => ⟨(hT2 j hj).1, by have := (hT2 j hj).2; omega⟩) (fun _ => ⟨fun q => absurd q (by decide), fun _ => ?_⟩) (fun z => absurd hl z)
          refine s_takes (k := 44) hT (hE.mv (by omega) (by omega)) (by omega) (by omega) (by omega) (fun v1 v2 => nm_r (nI_1 i) (hu1 ⟨v1, v2⟩)) (fun z => nm_r (nI_1 i) (hu2 z))
        · refine ⟨1, ?_⟩
          show w_X_takePath_44B Q _ (nI n) f (nI S) aN aF _ _ _ _ _ _ _
          unfold w_X_takePath_44B
          refine ⟨fun q => absurd q (by decide), fun _ => ⟨fun q => absurd ((nI_leI (a := 8) (by omega) (by omega)).mp q) (by omega), fun _ => ?_⟩⟩
          refine s_takeSide (tb := 0) hT (hE.mv (by omega) (by omega)) hS (Or.inl rfl) hN hok (fun x' a1' hx' => ?_) (fun hno => absurd hs (hno x a1))
          obtain ⟨i1, i2⟩ := hs.uniq hx'
          subst i1; subst i2
          refine ⟨fun q => absurd q (nI_pos (by omega)), fun _ => ?_⟩
          refine s_addStep (sd := sd) g1 (by omega) (by omega) hF hC (fun j hj => ⟨(hT2 j hj).1, by have := (hT2 j hj).2; omega⟩) (fun z => absurd z hl) (fun _ => ⟨fun _ => h0 (none (fun k' sd' hF' => ?_)) _, fun q => absurd rfl q⟩)
          obtain ⟨a1', w0, w1, -⟩ := hF'.at hpre
          obtain ⟨i1, -⟩ := hs.uniq w0
          exact hl (fun h => by rw [i1]; exact w1 h)
      · refine ⟨1, ?_⟩
        show w_X_takePath_44B Q _ (nI n) f (nI S) aN aF _ _ _ _ _ _ _
        unfold w_X_takePath_44B
        refine ⟨fun q => absurd q (by decide), fun _ => ⟨fun q => absurd ((nI_leI (a := 8) (by omega) (by omega)).mp q) (by omega), fun _ => ?_⟩⟩
        refine s_takeSide (tb := 0) hT (hE.mv (by omega) (by omega)) hS (Or.inl rfl) hN hok (fun x' a1' hx' => absurd ⟨x', a1', hx'⟩ hs) (fun hno a' w1 w2 => ⟨fun _ => h0 (none (fun k' sd' hF' => ?_)) _, fun q => absurd (by decide) q⟩)
        obtain ⟨a1', w0, -⟩ := hF'.at hpre
        exact hs ⟨_, _, w0⟩
  exact L 8 0 (b + 1) (fun _ => 0) _ aT (by omega) rfl pk_us (fun p hp => pk_un (by omega)) (fun q _ => rfl) (fun q hq => by omega)
