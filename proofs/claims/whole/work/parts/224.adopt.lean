/-! the reference takes the new graph over -/
def ps (ln : Nat → Nat) (x : Nat) : Nat := st0 ln (x / 2) + x % 2 * ln (x / 2)
theorem ps_even {ln : Nat → Nat} {s : Nat} : ps ln (2 * s) = st0 ln s := by
  unfold ps
  rw [show 2 * s / 2 = s by omega, show 2 * s % 2 = 0 by omega, Nat.zero_mul, Nat.add_zero]
theorem ps_zero {ln : Nat → Nat} : ps ln 0 = 0 := ps_even (s := 0)
theorem ps_odd {ln : Nat → Nat} {s : Nat} : ps ln (2 * s + 1) = st0 ln s + ln s := by
  unfold ps
  rw [show (2 * s + 1) / 2 = s by omega, show (2 * s + 1) % 2 = 1 by omega, Nat.one_mul]
theorem ps_succ {ln : Nat → Nat} {x : Nat} : ps ln (x + 1) = ps ln x + ln (x / 2) := by
  rcases Nat.mod_two_eq_zero_or_one x with h | h
  · obtain ⟨s, rfl⟩ : ∃ s, x = 2 * s := ⟨x / 2, by omega⟩
    rw [ps_odd, ps_even, show 2 * s / 2 = s by omega]
  · obtain ⟨s, rfl⟩ : ∃ s, x = 2 * s + 1 := ⟨x / 2, by omega⟩
    rw [ps_odd, show 2 * s + 1 + 1 = 2 * (s + 1) by omega, ps_even, show (2 * s + 1) / 2 = s by omega]
    show st0 ln s + 2 * ln s = _
    omega
theorem ps_mono {ln : Nat → Nat} {x y : Nat} (h : x < y) : ps ln x + ln (x / 2) ≤ ps ln y := by
  induction y with
  | zero => omega
  | succ y ih =>
    rw [ps_succ]
    rcases Nat.lt_or_ge x y with w | w
    · have := ih w
      omega
    · obtain rfl : x = y := by omega
      exact Nat.le_refl _
/-- place v is place i of side x -/
def At (ln : Nat → Nat) (S v x i : Nat) : Prop := x < 2 * S ∧ i < ln (x / 2) ∧ v = ps ln x + i
theorem At.uniq {ln : Nat → Nat} {S v x i x' i' : Nat} (h : At ln S v x i) (h' : At ln S v x' i') : x = x' ∧ i = i' := by
  obtain ⟨h1, h2, h3⟩ := h
  obtain ⟨g1, g2, g3⟩ := h'
  rcases Nat.lt_trichotomy x x' with w | w | w
  · have := ps_mono (ln := ln) w; omega
  · subst w; exact ⟨rfl, by omega⟩
  · have := ps_mono (ln := ln) w; omega
theorem At.lt {ln : Nat → Nat} {S v x i : Nat} (h : At ln S v x i) : v < st0 ln S := by
  obtain ⟨h1, h2, h3⟩ := h
  have := ps_mono (ln := ln) h1
  rw [ps_even] at this
  omega
theorem At.ex {ln : Nat → Nat} {S v : Nat} (h : v < st0 ln S) : ∃ x i, At ln S v x i := by
  have L : ∀ k, k ≤ 2 * S → v < ps ln k → ∃ x i, At ln S v x i := by
    intro k
    induction k with
    | zero => intro _ w; rw [ps_zero] at w; exact absurd w (Nat.not_lt_zero _)
    | succ k ih =>
      intro hk w
      rw [ps_succ] at w
      rcases Nat.lt_or_ge v (ps ln k) with q | q
      · exact ih (by omega) q
      · exact ⟨k, v - ps ln k, by omega, by omega, by omega⟩
  exact L (2 * S) (Nat.le_refl _) (by rw [ps_even]; exact h)
def RG (G : GD) (pl : Int32) (sg names sz bases length lk fa ta pa sc st so wi : Nat → Int32) : Prop := sg 0 = nI G.S ∧ MN names sz 0 0 G.S G.nm ∧ (∀ s, s < G.S → length s = nI (G.ln s) ∧ ∀ i, i < G.ln s → bases (4 * s + i) = nI (G.bs s i)) ∧ ML lk fa ta 0 G.fr G.to G.Lk G.S ∧ pa 0 = nI G.P ∧ (∀ p, p < G.P → sc p = nI (G.sn p) ∧ ∀ j, j < G.sn p → st (8 * p + j) = nI (G.sp p j)) ∧ pl = nI (st0 G.ln G.S) ∧ ∀ u x i, At G.ln G.S u x i → so u = nI x ∧ wi u = nI i
def CP (off k : Nat) (a b : Nat → Int32) : Prop := (∀ j, j < k → b j = a (off + j)) ∧ ∀ j, k ≤ j → b j = a j
def CPc (off k : Nat) (a b : Nat → Int32) : Prop := (∀ j, j < k → b j = vp_nar .char (a (off + j))) ∧ ∀ j, k ≤ j → b j = a j
theorem CP.z {off : Nat} {a : Nat → Int32} : CP off 0 a a := ⟨fun j hj => absurd hj (Nat.not_lt_zero _), fun _ _ => rfl⟩
theorem CPc.z {off : Nat} {a : Nat → Int32} : CPc off 0 a a := ⟨fun j hj => absurd hj (Nat.not_lt_zero _), fun _ _ => rfl⟩
theorem CP.s {off k : Nat} {a b : Nat → Int32} (h : CP off k a b) (hk : k < off) : CP off (k + 1) a (upd b k (b (off + k))) := ⟨fun j hj => by
  by_cases e1 : j = k
  · subst e1; rw [pk_us]; exact h.2 _ (by omega)
  · rw [pk_un e1]; exact h.1 j (by omega), fun j hj => by rw [pk_un (by omega)]; exact h.2 j (by omega)⟩
theorem CPc.s {off k : Nat} {a b : Nat → Int32} (h : CPc off k a b) (hk : k < off) : CPc off (k + 1) a (upd b k (vp_nar .char (b (off + k)))) := ⟨fun j hj => by
  by_cases e1 : j = k
  · subst e1; rw [pk_us, h.2 _ (by omega)]
  · rw [pk_un e1]; exact h.1 j (by omega), fun j hj => by rw [pk_un (by omega)]; exact h.2 j (by omega)⟩
theorem s_adopt {Q : (Int32 × Int32 × (Nat → Int32) × (Nat → Int32) × (Nat → Int32) × (Nat → Int32) × (Nat → Int32) × (Nat → Int32) × (Nat → Int32) × (Nat → Int32) × (Nat → Int32) × (Nat → Int32) × (Nat → Int32) × (Nat → Int32) × (Nat → Int32)) → Prop} {G : GD} {pl th : Int32} {sg names sz bases length lk fa ta pa sc st so wi ti ts : Nat → Int32} (hG : G.ok) (hM : MG G sg names sz bases length lk fa ta pa ti ts sc st)
    (h : ∀ pl' sg' names' sz' bases' length' lk' fa' ta' pa' sc' st' so' wi', RG G pl' sg' names' sz' bases' length' lk' fa' ta' pa' sc' st' so' wi' → Q (pl', 0, sg', names', sz', bases', length', lk', fa', ta', pa', sc', st', so', wi')) : wp_Mo_adopt Q pl th sg names sz bases length lk fa ta pa sc st so wi := by
  obtain ⟨⟨a1, a2, a3⟩, ⟨b1, b2⟩, c1, c2, c3⟩ := hM
  have hS := hG.hS
  have hL := hG.hL
  have hP := hG.hP
  have h64 : st0 G.ln G.S ≤ 64 := by
    have := st0_le (ln := G.ln) (s := G.S) (fun r hr => (hG.hln r hr).2)
    omega
  -- the places
  have L236 : ∀ (sg names sz bases length lk fa ta pa sc st so wi : Nat → Int32), sg 0 = nI G.S → (∀ s, s < G.S → length s = nI (G.ln s)) → (∀ sg' names' sz' bases' length' lk' fa' ta' pa' sc' st' so' wi' pl', sg' = sg → names' = names → sz' = sz → bases' = bases → length' = length → lk' = lk → fa' = fa → ta' = ta → pa' = pa → sc' = sc → st' = st → pl' = nI (st0 G.ln G.S) → (∀ u x i, At G.ln G.S u x i → so' u = nI x ∧ wi' u = nI i) → Q (pl', 0, sg', names', sz', bases', length', lk', fa', ta', pa', sc', st', so', wi')) → ∀ (j x : Nat) (so wi : Nat → Int32), x + j = 2 * G.S → (∀ y i, y < x → i < G.ln (y / 2) → so (ps G.ln y + i) = nI y ∧ wi (ps G.ln y + i) = nI i) → ∃ u, w_Mo_adopt_236 Q u (nI x) (nI (ps G.ln x)) 0 sg names sz bases length lk fa ta pa sc st so wi := by
    intro sg names sz bases length lk fa ta pa sc st so wi hs hl hQ j
    induction j with
    | zero =>
      intro x so wi hx hi
      refine ⟨1, ?_⟩
      show w_Mo_adopt_236B Q _ _ _ _ _ _ _ _ _ _ _ _ _ _ _ _ _
      unfold w_Mo_adopt_236B
      simp only [forall_eq]
      rw [show (0 : Int32).toNatClampNeg = 0 by decide, hs, show (2 : Int32) = nI 2 from rfl, pk_mul]
      refine ⟨vp_in_nI (n := 0) (by omega) (by omega), fun _ => ?_, fun q => absurd (nI_le (by omega) (by omega)) q⟩
      exact hQ _ _ _ _ _ _ _ _ _ _ _ _ _ _ rfl rfl rfl rfl rfl rfl rfl rfl rfl rfl rfl (by rw [show x = 2 * G.S by omega, ps_even]) (fun u y i hA => by rw [hA.2.2]; exact hi y i (by have := hA.1; omega) hA.2.1)
    | succ j ih =>
      intro x so wi hx hi
      have hxs : x / 2 < G.S := by omega
      have hln := hG.hln (x / 2) hxs
      have hpx := ps_mono (ln := G.ln) (x := x) (y := 2 * G.S) (by omega)
      rw [ps_even] at hpx
      -- the places of one side
      have L250 : ∀ (j i : Nat) (so wi : Nat → Int32), i + j = G.ln (x / 2) → (∀ y i, y < x → i < G.ln (y / 2) → so (ps G.ln y + i) = nI y ∧ wi (ps G.ln y + i) = nI i) → (∀ k, k < i → so (ps G.ln x + k) = nI x ∧ wi (ps G.ln x + k) = nI k) → ∃ w u, w_Mo_adopt_250 Q (w_Mo_adopt_236 Q w) u (nI x) (nI i) (nI (ps G.ln x + i)) 0 sg names sz bases length lk fa ta pa sc st so wi := by
        intro j
        induction j with
        | zero =>
          intro i so wi hi' h1 h2
          obtain ⟨u, hu⟩ := ih (x + 1) so wi (by omega) (fun y k hy hk => by
            rcases Nat.lt_or_ge y x with w | w
            · exact h1 y k w hk
            · obtain rfl : y = x := by omega
              exact h2 k (by omega))
          refine ⟨u, 1, ?_⟩
          show w_Mo_adopt_250B Q _ _ _ _ _ _ _ _ _ _ _ _ _ _ _ _ _ _ _
          unfold w_Mo_adopt_250B
          simp only [forall_eq]
          rw [show (2 : Int32) = nI 2 from rfl, pk_div (by omega) (by omega) (by omega), nI_clamp (by omega), hl _ hxs, nI_1]
          refine ⟨vp_in_nI (by omega) (by omega), fun _ => ?_, fun q => absurd (nI_le (by omega) (by omega)) q⟩
          rw [show ps G.ln x + i = ps G.ln (x + 1) by rw [ps_succ]; omega]
          exact hu
        | succ j ihj =>
          intro i so wi hi' h1 h2
          obtain ⟨w, u, hu⟩ := ihj (i + 1) (upd so (ps G.ln x + i) (nI x)) (upd wi (ps G.ln x + i) (nI i)) (by omega) (fun y k hy hk => by
            have := ps_mono (ln := G.ln) hy
            rw [pk_un (by omega), pk_un (by omega)]
            exact h1 y k hy hk) (fun k hk => by
            by_cases e1 : k = i
            · subst e1; rw [pk_us, pk_us]; exact ⟨rfl, rfl⟩
            · rw [pk_un (by omega), pk_un (by omega)]; exact h2 k (by omega))
          refine ⟨w, u + 1, ?_⟩
          show w_Mo_adopt_250B Q _ _ _ _ _ _ _ _ _ _ _ _ _ _ _ _ _ _ _
          unfold w_Mo_adopt_250B
          simp only [forall_eq]
          rw [show (2 : Int32) = nI 2 from rfl, pk_div (by omega) (by omega) (by omega), nI_clamp (by omega), hl _ hxs, nI_clamp (by omega), nI_1, nI_1, nI_1]
          refine ⟨vp_in_nI (by omega) (by omega), fun q => absurd ((nI_leI (by omega) (by omega)).mp q) (by omega), fun _ => ⟨vp_in_nI (by omega) (by omega), vp_in_nI (by omega) (by omega), ?_⟩⟩
          exact hu
      obtain ⟨w, u, hu⟩ := L250 (G.ln (x / 2)) 0 so wi (by omega) hi (fun k hk => absurd hk (Nat.not_lt_zero _))
      refine ⟨w + 1, ?_⟩
      show w_Mo_adopt_236B Q _ _ _ _ _ _ _ _ _ _ _ _ _ _ _ _ _
      unfold w_Mo_adopt_236B
      simp only [forall_eq]
      rw [show (0 : Int32).toNatClampNeg = 0 by decide, hs, show (2 : Int32) = nI 2 from rfl, pk_mul]
      exact ⟨vp_in_nI (n := 0) (by omega) (by omega), fun q => absurd ((nI_leI (by omega) (by omega)).mp q) (by omega), fun _ => ⟨u, hu⟩⟩
  -- what the places need, in terms of the arrays copied
  have fin : ∀ (names' sz' bases' length' fa' ta' sc' st' : Nat → Int32), CPc 24 24 names names' → CP 8 8 sz sz' → CP 8 8 length length' → CPc 32 32 bases bases' → CP 32 32 st st' → CP 12 12 fa fa' → CP 12 12 ta ta' → CP 4 4 sc sc' → ∃ u, w_Mo_adopt_236 Q u 0 0 0 (upd sg 0 (nI G.S)) names' sz' bases' length' (upd lk 0 (nI G.Lk)) fa' ta' (upd pa 0 (nI G.P)) sc' st' so wi := by
    intro names' sz' bases' length' fa' ta' sc' st' k1 k2 k3 k4 k5 k6 k7 k8
    have hl : ∀ s, s < G.S → length' s = nI (G.ln s) := fun s hs => by rw [k3.1 s (by omega)]; exact (a3 s hs).1
    obtain ⟨u, hu⟩ := L236 (upd sg 0 (nI G.S)) names' sz' bases' length' (upd lk 0 (nI G.Lk)) fa' ta' (upd pa 0 (nI G.P)) sc' st' so wi pk_us hl (fun sg1 names1 sz1 bases1 length1 lk1 fa1 ta1 pa1 sc1 st1 so1 wi1 pl1 q1 q2 q3 q4 q5 q6 q7 q8 q9 q10 q11 q12 q13 => by
      subst q1 q2 q3 q4 q5 q6 q7 q8 q9 q10 q11
      refine h _ _ _ _ _ _ _ _ _ _ _ _ _ _ ⟨pk_us, fun s hs => ?_, fun s hs => ⟨hl s hs, fun i hi => ?_⟩, ⟨pk_us, fun k hk => ?_⟩, pk_us, fun p hp => ⟨?_, fun j hj => ?_⟩, q12, q13⟩
      · obtain ⟨k, c, g1, g2, g3, g4, g5⟩ := a2 s hs
        refine ⟨k, c, g1, g2, by rw [k2.1 _ (by omega), Nat.zero_add]; exact g3, fun i hi => ⟨?_, (g4 i hi).2⟩, g5⟩
        have := (g4 i hi).2
        rw [k1.1 _ (by omega), show 24 + (0 + 3 * s + i) = 24 + 3 * s + i by omega, (g4 i hi).1, nar_c (by omega)]
      · have hl4 := (hG.hln s hs).2
        have := isBs_range (hG.hbs s hs i hi)
        rw [k4.1 _ (by omega), show 32 + (4 * s + i) = 32 + 4 * s + i by omega, (a3 s hs).2 i hi, nar_c (by omega)]
      · have := b2 k hk
        rw [k6.1 _ (by omega), k7.1 _ (by omega), show 12 + (12 * 0 + k) = 12 * 1 + k by omega]
        exact this
      · rw [k8.1 _ (by omega)]
        exact (c3 p hp).1
      · have := (hG.hsn p hp).2
        rw [k5.1 _ (by omega), show 32 + (8 * p + j) = 32 + 8 * p + j by omega]
        exact (c3 p hp).2 j hj) (2 * G.S) 0 so wi (by omega) (fun y i hy => absurd hy (Nat.not_lt_zero _))
    rw [ps_zero] at hu
    exact ⟨u, hu⟩
  have L199 : ∀ (names' sz' length' bases' st' fa' ta' : Nat → Int32), CPc 24 24 names names' → CP 8 8 sz sz' → CP 8 8 length length' → CPc 32 32 bases bases' → CP 32 32 st st' → CP 12 12 fa fa' → CP 12 12 ta ta' → ∀ (j i : Nat) (sc' : Nat → Int32), i + j = 4 → CP 4 i sc sc' → ∃ u, w_Mo_adopt_199 Q u (nI i) pl th (upd sg 0 (nI G.S)) names' sz' bases' length' (upd lk 0 (nI G.Lk)) fa' ta' (upd pa 0 (nI G.P)) sc' st' so wi := by
    intro names' sz' length' bases' st' fa' ta' d0 d1 d2 d3 d4 d5 d6
    intro j
    induction j with
    | zero =>
      intro i sc' hi e0
      obtain rfl : i = 4 := by omega
      obtain ⟨u, hu⟩ := fin names' sz' bases' length' fa' ta' sc' st' d0 d1 d2 d3 d4 d5 d6 e0
      refine ⟨1, ?_⟩
      show w_Mo_adopt_199B Q _ _ _ _ _ _ _ _ _ _ _ _ _ _ _ _ _
      unfold w_Mo_adopt_199B
      exact ⟨fun _ => ⟨u, hu⟩, fun q => absurd (nI_le (a := 4) (by omega) (by omega)) q⟩
    | succ j ih =>
      intro i sc' hi e0
      obtain ⟨u, hu⟩ := ih (i + 1) _ (by omega) (e0.s (by omega))
      refine ⟨u + 1, ?_⟩
      show w_Mo_adopt_199B Q _ _ _ _ _ _ _ _ _ _ _ _ _ _ _ _ _
      unfold w_Mo_adopt_199B
      refine ⟨fun q => absurd ((nI_leI (a := 4) (by omega) (by omega)).mp q) (by omega), fun _ => ?_⟩
      simp only [forall_eq]
      rw [show (4 : Int32) = nI 4 from rfl, nI_add, nI_clamp (by omega), nI_clamp (by omega), nI_1]
      exact ⟨vp_in_nI (by omega) (by omega), vp_in_nI (by omega) (by omega), hu⟩
  have L155 : ∀ (names' sz' length' bases' st' : Nat → Int32), CPc 24 24 names names' → CP 8 8 sz sz' → CP 8 8 length length' → CPc 32 32 bases bases' → CP 32 32 st st' → ∀ (j i : Nat) (fa' ta' : Nat → Int32), i + j = 12 → CP 12 i fa fa' → CP 12 i ta ta' → ∃ u, w_Mo_adopt_155 Q u (nI i) pl th (upd sg 0 (nI G.S)) names' sz' bases' length' (upd lk 0 (nI G.Lk)) fa' ta' (upd pa 0 (nI G.P)) sc st' so wi := by
    intro names' sz' length' bases' st' d0 d1 d2 d3 d4
    intro j
    induction j with
    | zero =>
      intro i fa' ta' hi e0 e1
      obtain rfl : i = 12 := by omega
      obtain ⟨u, hu⟩ := L199 names' sz' length' bases' st' fa' ta' d0 d1 d2 d3 d4 e0 e1 4 0 sc (by omega) CP.z
      refine ⟨1, ?_⟩
      show w_Mo_adopt_155B Q _ _ _ _ _ _ _ _ _ _ _ _ _ _ _ _ _
      unfold w_Mo_adopt_155B
      exact ⟨fun _ => ⟨u, hu⟩, fun q => absurd (nI_le (a := 12) (by omega) (by omega)) q⟩
    | succ j ih =>
      intro i fa' ta' hi e0 e1
      obtain ⟨u, hu⟩ := ih (i + 1) _ _ (by omega) (e0.s (by omega)) (e1.s (by omega))
      refine ⟨u + 1, ?_⟩
      show w_Mo_adopt_155B Q _ _ _ _ _ _ _ _ _ _ _ _ _ _ _ _ _
      unfold w_Mo_adopt_155B
      refine ⟨fun q => absurd ((nI_leI (a := 12) (by omega) (by omega)).mp q) (by omega), fun _ => ?_⟩
      simp only [forall_eq]
      rw [show (12 : Int32) = nI 12 from rfl, nI_add, nI_clamp (by omega), nI_clamp (by omega), nI_1]
      exact ⟨vp_in_nI (by omega) (by omega), vp_in_nI (by omega) (by omega), vp_in_nI (by omega) (by omega), vp_in_nI (by omega) (by omega), hu⟩
  have L111 : ∀ (names' sz' length' : Nat → Int32), CPc 24 24 names names' → CP 8 8 sz sz' → CP 8 8 length length' → ∀ (j i : Nat) (bases' st' : Nat → Int32), i + j = 32 → CPc 32 i bases bases' → CP 32 i st st' → ∃ u, w_Mo_adopt_111 Q u (nI i) pl th (upd sg 0 (nI G.S)) names' sz' bases' length' (upd lk 0 (nI G.Lk)) fa ta (upd pa 0 (nI G.P)) sc st' so wi := by
    intro names' sz' length' d0 d1 d2
    intro j
    induction j with
    | zero =>
      intro i bases' st' hi e0 e1
      obtain rfl : i = 32 := by omega
      obtain ⟨u, hu⟩ := L155 names' sz' length' bases' st' d0 d1 d2 e0 e1 12 0 fa ta (by omega) CP.z CP.z
      refine ⟨1, ?_⟩
      show w_Mo_adopt_111B Q _ _ _ _ _ _ _ _ _ _ _ _ _ _ _ _ _
      unfold w_Mo_adopt_111B
      exact ⟨fun _ => ⟨u, hu⟩, fun q => absurd (nI_le (a := 32) (by omega) (by omega)) q⟩
    | succ j ih =>
      intro i bases' st' hi e0 e1
      obtain ⟨u, hu⟩ := ih (i + 1) _ _ (by omega) (e0.s (by omega)) (e1.s (by omega))
      refine ⟨u + 1, ?_⟩
      show w_Mo_adopt_111B Q _ _ _ _ _ _ _ _ _ _ _ _ _ _ _ _ _
      unfold w_Mo_adopt_111B
      refine ⟨fun q => absurd ((nI_leI (a := 32) (by omega) (by omega)).mp q) (by omega), fun _ => ?_⟩
      simp only [forall_eq]
      rw [show (32 : Int32) = nI 32 from rfl, nI_add, nI_clamp (by omega), nI_clamp (by omega), nI_1]
      exact ⟨vp_in_nI (by omega) (by omega), vp_in_nI (by omega) (by omega), vp_in_nI (by omega) (by omega), vp_in_nI (by omega) (by omega), hu⟩
  have L67 : ∀ (names' : Nat → Int32), CPc 24 24 names names' → ∀ (j i : Nat) (sz' length' : Nat → Int32), i + j = 8 → CP 8 i sz sz' → CP 8 i length length' → ∃ u, w_Mo_adopt_67 Q u (nI i) pl th (upd sg 0 (nI G.S)) names' sz' bases length' (upd lk 0 (nI G.Lk)) fa ta (upd pa 0 (nI G.P)) sc st so wi := by
    intro names' d0
    intro j
    induction j with
    | zero =>
      intro i sz' length' hi e0 e1
      obtain rfl : i = 8 := by omega
      obtain ⟨u, hu⟩ := L111 names' sz' length' d0 e0 e1 32 0 bases st (by omega) CPc.z CP.z
      refine ⟨1, ?_⟩
      show w_Mo_adopt_67B Q _ _ _ _ _ _ _ _ _ _ _ _ _ _ _ _ _
      unfold w_Mo_adopt_67B
      exact ⟨fun _ => ⟨u, hu⟩, fun q => absurd (nI_le (a := 8) (by omega) (by omega)) q⟩
    | succ j ih =>
      intro i sz' length' hi e0 e1
      obtain ⟨u, hu⟩ := ih (i + 1) _ _ (by omega) (e0.s (by omega)) (e1.s (by omega))
      refine ⟨u + 1, ?_⟩
      show w_Mo_adopt_67B Q _ _ _ _ _ _ _ _ _ _ _ _ _ _ _ _ _
      unfold w_Mo_adopt_67B
      refine ⟨fun q => absurd ((nI_leI (a := 8) (by omega) (by omega)).mp q) (by omega), fun _ => ?_⟩
      simp only [forall_eq]
      rw [show (8 : Int32) = nI 8 from rfl, nI_add, nI_clamp (by omega), nI_clamp (by omega), nI_1]
      exact ⟨vp_in_nI (by omega) (by omega), vp_in_nI (by omega) (by omega), vp_in_nI (by omega) (by omega), vp_in_nI (by omega) (by omega), hu⟩
  have L38 : ∀ (j i : Nat) (names' : Nat → Int32), i + j = 24 → CPc 24 i names names' → ∃ u, w_Mo_adopt_38 Q u (nI i) pl th (upd sg 0 (nI G.S)) names' sz bases length (upd lk 0 (nI G.Lk)) fa ta (upd pa 0 (nI G.P)) sc st so wi := by
    intro j
    induction j with
    | zero =>
      intro i names' hi e0
      obtain rfl : i = 24 := by omega
      obtain ⟨u, hu⟩ := L67 names' e0 8 0 sz length (by omega) CP.z CP.z
      refine ⟨1, ?_⟩
      show w_Mo_adopt_38B Q _ _ _ _ _ _ _ _ _ _ _ _ _ _ _ _ _
      unfold w_Mo_adopt_38B
      exact ⟨fun _ => ⟨u, hu⟩, fun q => absurd (nI_le (a := 24) (by omega) (by omega)) q⟩
    | succ j ih =>
      intro i names' hi e0
      obtain ⟨u, hu⟩ := ih (i + 1) _ (by omega) (e0.s (by omega))
      refine ⟨u + 1, ?_⟩
      show w_Mo_adopt_38B Q _ _ _ _ _ _ _ _ _ _ _ _ _ _ _ _ _
      unfold w_Mo_adopt_38B
      refine ⟨fun q => absurd ((nI_leI (a := 24) (by omega) (by omega)).mp q) (by omega), fun _ => ?_⟩
      simp only [forall_eq]
      rw [show (24 : Int32) = nI 24 from rfl, nI_add, nI_clamp (by omega), nI_clamp (by omega), nI_1]
      exact ⟨vp_in_nI (by omega) (by omega), vp_in_nI (by omega) (by omega), hu⟩
  unfold wp_Mo_adopt
  simp only [forall_eq]
  rw [show (1 : Int32).toNatClampNeg = 1 by decide, show (0 : Int32).toNatClampNeg = 0 by decide, a1, b1, c1]
  have v1 : vp_in (1 : Int32) 2 := vp_in_nI (n := 1) (by omega) (by omega)
  have v0 : vp_in (0 : Int32) 2 := vp_in_nI (n := 0) (by omega) (by omega)
  exact ⟨v1, v0, v1, v0, v1, v0, L38 24 0 names (by omega) CPc.z⟩
