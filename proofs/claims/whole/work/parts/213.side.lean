/-! sides as they stand in the text -/
def tn (k : Nat) : Nat := if k % 2 = 0 then k + 1 else k - 1
theorem tn_x : ∀ k, k < 64 → nI k ^^^ 1 = nI (tn k) := by decide +kernel
theorem tn_tn : ∀ k, tn (tn k) = k := fun k => by unfold tn; split <;> split <;> omega
theorem tn_lt {k S : Nat} (h : k < 2 * S) : tn k < 2 * S := by unfold tn; split <;> omega
theorem s_turned {Q : Int32 → Unit → Prop} {k : Nat} (hk : k < 64) (h : Q (nI (tn k)) ()) : wp_X_turned Q (nI k) := by
  unfold wp_X_turned
  exact nm_r (tn_x k hk) h
def NMok (nm : Nat → Nat) (S : Nat) : Prop := ∀ j, j < S → 1 ≤ nm j ∧ nm j < 2097152
/-- which segment a name is -/
def Fst (nm : Nat → Nat) (S x r : Nat) : Prop := r < S ∧ nm r = x ∧ ∀ j, j < r → nm j ≠ x
theorem Fst.uniq {nm : Nat → Nat} {S x r r' : Nat} (h : Fst nm S x r) (h' : Fst nm S x r') : r = r' := by
  rcases Nat.lt_trichotomy r r' with q | q | q
  · exact absurd h.2.1 (h'.2.2 r q)
  · exact q
  · exact absurd h'.2.1 (h.2.2 r' q)
/-- a side: name, (TAB,) sign -/
def SideP (t : Nat → Nat) (e S : Nat) (nm : Nat → Nat) (tb : Nat) (a x a' : Nat) : Prop := ∃ b r g : Nat, Run isN t a e b ∧ 1 ≤ b - a ∧ b - a ≤ 3 ∧ Fst nm S (pck (fun i => t (a + i)) (b - a)) r ∧ (tb = 1 → b < e ∧ t b = 9) ∧ b + tb < e ∧ ((t (b + tb) = 43 ∧ g = 0) ∨ (t (b + tb) = 45 ∧ g = 1)) ∧ x = 2 * r + g ∧ a' = b + tb + 1
theorem SideP.uniq {t : Nat → Nat} {e S : Nat} {nm : Nat → Nat} {tb a x a' y b' : Nat} (h : SideP t e S nm tb a x a') (h' : SideP t e S nm tb a y b') : x = y ∧ a' = b' := by
  obtain ⟨b, r, g, h1, h2, h3, h4, h5, h6, h7, h8, h9⟩ := h
  obtain ⟨b2, r2, g2, k1, k2, k3, k4, k5, k6, k7, k8, k9⟩ := h'
  have := h1.uniq k1
  subst this
  have := h4.uniq k4
  subst this
  omega
theorem SideP.le {t : Nat → Nat} {e S : Nat} {nm : Nat → Nat} {tb a x a' : Nat} (h : SideP t e S nm tb a x a') : a < a' ∧ a' ≤ e ∧ x < 2 * S := by
  obtain ⟨b, r, g, h1, h2, h3, h4, h5, h6, h7, h8, h9⟩ := h
  have := h1.1
  have := h4.1
  omega
theorem s_segmentNamed {Q : Int32 → Unit → Prop} {x S : Nat} {av : Nat → Int32} {nm : Nat → Nat} (hx : x < 2147483648) (hS : S ≤ 8) (hN : ∀ j, j < S → av j = nI (nm j)) (hok : NMok nm S)
    (h1 : ∀ r, Fst nm S x r → Q (nI r) ()) (h0 : (∀ r, ¬ Fst nm S x r) → Q (-1) ()) : wp_Gr_segmentNamed Q (nI x) (nI S) av := by
  unfold wp_Gr_segmentNamed
  refine s_positionOf hx hS (by decide) (fun j hj => ⟨hN j hj, by have := hok j hj; omega⟩) (fun r h2 h3 h4 => h1 r ⟨h2, h3, h4⟩) (fun h => h0 (fun r z => h r z.1 z.2.1))
theorem s_takeSide {Q : Int32 → Int32 → Prop} {f : Nat → Int32} {t : Nat → Nat} {n a e S tb : Nat} {av : Nat → Int32} {nm : Nat → Nat} (hT : Tx f t n) (hE : LE t n a e) (hS : S ≤ 8) (htb : tb = 0 ∨ tb = 1) (hN : ∀ j, j < S → av j = nI (nm j)) (hok : NMok nm S)
    (h1 : ∀ x a', SideP t e S nm tb a x a' → Q (nI x) (nI a')) (h0 : (∀ x a', ¬ SideP t e S nm tb a x a') → ∀ a', a ≤ a' → a' ≤ e → Q (-1) (nI a')) : wp_X_takeSide Q (nI tb) (nI n) (nI a) f (nI S) av := by
  have hn := hT.1
  obtain ⟨b, hR⟩ := run_ex isN t e (e - a) a (by have := hE.1; omega)
  have hR' := hR
  obtain ⟨r1, r2, r3, r4⟩ := hR'
  have e2 := hE.2.1
  have hcd : ∀ i, a + i < b → 1 ≤ t (a + i) ∧ t (a + i) < 128 := fun i hi => by have := isN_range (r3 (a + i) (by omega) hi); omega
  unfold wp_X_takeSide
  refine s_takeName hT hE hR (fun k k1 k2 k3 => ?_)
  have hp : pck (fun i => t (a + i)) k < 128 ^ k := pck_lt (fun i hi => (hcd i (by omega)).2)
  have hp2 : 128 ^ k ≤ 2097152 := by
    have : k = 0 ∨ k = 1 ∨ k = 2 ∨ k = 3 := by omega
    rcases this with rfl | rfl | rfl | rfl <;> decide
  refine s_segmentNamed (by omega) hS hN hok (fun r hr => ?_) (fun hr => ?_)
  · -- found
    have hrS := hr.1
    have k0 : 1 ≤ k := by
      rcases Nat.lt_or_ge 0 k with q | q
      · exact q
      · have : k = 0 := by omega
        subst this
        have := hok r hrS
        have h2 : nm r = 0 := hr.2.1
        omega
    -- the sign, at c
    have sgn : ∀ c, a + k ≤ c → c ≤ e → (∀ g, c < e → ((t c = 43 ∧ g = 0) ∨ (t c = 45 ∧ g = 1)) → Q (nI (2 * r + g)) (nI (c + 1))) → (¬ (c < e ∧ (t c = 43 ∨ t c = 45)) → Q (-1) (nI c)) → w_X_takeSide_28 Q (nI n) f (nI S) av (nI r) (nI c) := fun c c1 c2 y1 y0 => by
      unfold w_X_takeSide_28
      refine s_takes (k := 43) hT (hE.mv (by omega) c2) (by omega) (by omega) (by omega) (fun z1 z2 => ⟨fun q => absurd q (by decide), fun _ => ?_⟩) (fun z => ⟨fun _ => ?_, fun q => absurd rfl q⟩)
      · simp only [forall_eq, L0, NA]
        exact y1 0 z1 (Or.inl ⟨z2, rfl⟩)
      · refine s_takes (k := 45) hT (hE.mv (by omega) c2) (by omega) (by omega) (by omega) (fun z1 z2 => ⟨fun q => absurd q (by decide), fun _ => ?_⟩) (fun z' => ⟨fun _ => y0 (fun q => ?_), fun q => absurd rfl q⟩)
        · simp only [forall_eq, L0, NA]
          refine s_turned (by omega) ?_
          have : tn (2 * r) = 2 * r + 1 := by unfold tn; rw [if_pos (by omega)]
          rw [this]
          exact y1 1 z1 (Or.inr ⟨z2, rfl⟩)
        · rcases q.2 with q2 | q2
          · exact z ⟨q.1, q2⟩
          · exact z' ⟨q.1, q2⟩
    have main : ∀ c, c = a + k + tb → c ≤ e → (tb = 1 → a + k < e ∧ t (a + k) = 9) → w_X_takeSide_28 Q (nI n) f (nI S) av (nI r) (nI c) := fun c hc hce htab => by
      refine sgn c (by omega) hce (fun g c1 c2 => ?_) (fun z => h0 (fun x a' hs => ?_) c (by omega) hce)
      · have hb : a + k = b := by
          rcases k3 with q | q
          · rcases Nat.lt_or_ge (a + k) b with w | w
            · -- a fourth character of a name: neither TAB nor sign
              have hnm := isN_range (r3 (a + k) (by omega) w)
              rcases htb with rfl | rfl
              · have : t c = t (a + k) := by rw [hc]; rfl
                omega
              · have := (htab rfl).2
                omega
            · omega
          · omega
        have hbk : b - a = k := by omega
        exact h1 _ _ ⟨b, r, g, hR, by omega, by omega, by rw [hbk]; exact hr, fun w => by rw [← hb]; exact htab w, by omega, by rw [← hb, ← hc]; exact c2, rfl, by omega⟩
      · obtain ⟨b', r', g', q1, q2, q3, q4, q5, q6, q7, q8, q9⟩ := hs
        have := hR.uniq q1
        subst this
        have hbk : a + k = b := by omega
        refine z ⟨by omega, ?_⟩
        rw [hc, hbk]
        rcases q7 with q7 | q7
        · exact Or.inl q7.1
        · exact Or.inr q7.1
    refine ⟨fun q => absurd q (nI_pos (by omega)), fun _ => ⟨fun q => ?_, fun q => ?_⟩⟩
    · have : tb = 0 := (nI_eq (a := tb) (b := 0) (by omega) (by omega)).mp q
      exact main (a + k) (by omega) (by omega) (fun w => by omega)
    · have htb1 : tb = 1 := by
        rcases htb with rfl | rfl
        · exact absurd rfl q
        · rfl
      refine s_takes (k := 9) hT (hE.mv (by omega) (by omega)) (by omega) (by omega) (by omega) (fun z1 z2 => ⟨fun q => absurd q (by decide), fun _ => main (a + k + 1) (by omega) (by omega) (fun _ => ⟨z1, z2⟩)⟩) (fun z => ⟨fun _ => h0 (fun x a' hs => ?_) _ (by omega) (by omega), fun q => absurd rfl q⟩)
      obtain ⟨b', r', g', q1, q2, q3, q4, q5, q6, q7, q8, q9⟩ := hs
      have := hR.uniq q1
      subst this
      have hbk : a + k = b := by omega
      exact z (by rw [hbk]; exact q5 htb1)
  · refine ⟨fun _ => h0 (fun x a' hs => ?_) _ (by omega) (by omega), fun q => absurd (by decide) q⟩
    obtain ⟨b', r', g', q1, q2, q3, q4, q5, q6, q7, q8, q9⟩ := hs
    have := hR.uniq q1
    subst this
    have hbk : b - a = k := by omega
    exact hr r' (by rw [← hbk]; exact q4)
theorem s_Mo_sign {Q : Int32 → Int32 → Prop} {f : Nat → Int32} {t : Nat → Nat} {n a e : Nat} (hT : Tx f t n) (he : e ≤ n) (ha : a ≤ e) (h1 : ∀ g, a < e → ((t a = 43 ∧ g = 0) ∨ (t a = 45 ∧ g = 1)) → Q (nI g) (nI (a + 1))) (h0 : ¬ (a < e ∧ (t a = 43 ∨ t a = 45)) → Q (-1) (nI a)) : wp_Mo_sign Q (nI a) (nI e) f := by
  unfold wp_Mo_sign
  refine s_Mo_eat (k := 43) hT he ha (by omega) (fun z1 z2 => ⟨fun q => absurd q (by decide), fun _ => h1 0 z1 (Or.inl ⟨z2, rfl⟩)⟩) (fun z => ⟨fun _ => ?_, fun q => absurd rfl q⟩)
  refine s_Mo_eat (k := 45) hT he ha (by omega) (fun z1 z2 => ⟨fun q => absurd q (by decide), fun _ => h1 1 z1 (Or.inr ⟨z2, rfl⟩)⟩) (fun z' => ⟨fun _ => h0 (fun q => ?_), fun q => absurd rfl q⟩)
  rcases q.2 with q2 | q2
  · exact z ⟨q.1, q2⟩
  · exact z' ⟨q.1, q2⟩
theorem s_namedSide {Q : Int32 → (Int32 × Int32 × Int32) → Prop} {f : Nat → Int32} {t : Nat → Nat} {n a e S tb : Nat} {bg mn : Int32} {sg names sz : Nat → Int32} {nm : Nat → Nat} (hT : Tx f t n) (he : e ≤ n) (ha : a ≤ e) (htb : tb = 0 ∨ tb = 1) (hS : S ≤ 8) (hsg : sg 1 = nI S) (hM : MN names sz 8 24 S nm)
    (h1 : ∀ x a' v w, SideP t e S nm tb a x a' → Q (nI x) (nI a', v, w)) (h0 : (∀ x a', ¬ SideP t e S nm tb a x a') → ∀ a' v w, a ≤ a' → a' ≤ e → Q (-1) (nI a', v, w)) : wp_Mo_namedSide Q (nI tb) (nI a) (nI e) bg mn f sg names sz := by
  have hn := hT.1
  obtain ⟨b, hR⟩ := run_ex isN t e (e - a) a (by omega)
  have hR' := hR
  obtain ⟨r1, r2, r3, r4⟩ := hR'
  have bad : (∀ x a', ¬ SideP t e S nm tb a x a') → ∀ (c : Nat) (x3 s0 : Int32) (v w : Int32), a ≤ c → c ≤ e → (x3 < 0 ∨ s0 = 0) → w_Mo_namedSide_36 Q (nI e) f sg names sz x3 s0 (nI c) v w := by
    intro hno c x3 s0 v w c1 c2 hx
    unfold w_Mo_namedSide_36 w_Mo_namedSide_58
    refine s_Mo_sign hT he c2 (fun g z1 z2 => ⟨fun q => h0 hno _ _ _ (by omega) (by omega), fun q => ⟨fun q2 => h0 hno _ _ _ (by omega) (by omega), fun q2 => ?_⟩⟩) (fun z => ⟨fun q => h0 hno _ _ _ (by omega) (by omega), fun q => ⟨fun q2 => h0 hno _ _ _ (by omega) (by omega), fun q2 => ?_⟩⟩)
    · rcases hx with h | h
      · exact absurd h q
      · exact absurd h q2
    · rcases hx with h | h
      · exact absurd h q
      · exact absurd h q2
  have badT : (∀ x a', ¬ SideP t e S nm tb a x a') → ∀ (x3 v w : Int32), x3 < 0 → w_Mo_namedSide_17 Q (nI tb) (nI e) f sg names sz x3 (nI b) v w := by
    intro hno x3 v w hx
    unfold w_Mo_namedSide_17 w_Mo_namedSide_31
    refine ⟨fun _ => bad hno b x3 1 v w r1 r2 (Or.inl hx), fun _ => ?_⟩
    exact s_Mo_eat (k := 9) hT he r2 (by omega) (fun z1 z2 => ⟨fun q => absurd q (by decide), fun _ => bad hno (b + 1) x3 1 v w (by omega) (by omega) (Or.inl hx)⟩) (fun z => ⟨fun _ => bad hno b x3 0 v w r1 r2 (Or.inl hx), fun q => absurd rfl q⟩)
  have good : ∀ (r c : Nat) (v w : Int32), 1 ≤ b - a → b - a ≤ 3 → Fst nm S (pck (fun i => t (a + i)) (b - a)) r → c = b + tb → c ≤ e → (tb = 1 → b < e ∧ t b = 9) → w_Mo_namedSide_36 Q (nI e) f sg names sz (nI r) 1 (nI c) v w := by
    intro r c v w p1 p2 hr hc hce htab
    have hrS := hr.1
    unfold w_Mo_namedSide_36 w_Mo_namedSide_58
    refine s_Mo_sign hT he hce (fun g z1 z2 => ⟨fun q => absurd q (nI_pos (by omega)), fun _ => ⟨fun q => absurd q (by decide), fun _ => ⟨fun _ => ?_, fun q => absurd (nI_pos' (by omega)) q⟩⟩⟩) (fun z => ⟨fun q => absurd q (nI_pos (by omega)), fun _ => ⟨fun q => absurd q (by decide), fun _ => ⟨fun q => absurd q (by decide), fun _ => ?_⟩⟩⟩)
    · simp only [forall_eq, L0, NA]
      exact h1 _ _ _ _ ⟨b, r, g, hR, p1, p2, hr, htab, by omega, by rw [← hc]; exact z2, rfl, by omega⟩
    · refine h0 (fun x a' hs => ?_) _ _ _ (by omega) (by omega)
      obtain ⟨b', r', g', q1, q2, q3, q4, q5, q6, q7, q8, q9⟩ := hs
      have := hR.uniq q1
      subst this
      refine z ⟨by omega, ?_⟩
      rw [hc]
      rcases q7 with q7 | q7
      · exact Or.inl q7.1
      · exact Or.inr q7.1
  unfold wp_Mo_namedSide
  refine s_Mo_eatName hT he hR (fun hk => ⟨fun q => absurd q (by decide), fun _ => ?_⟩) (fun hk => ⟨fun _ => ?_, fun q => absurd rfl q⟩)
  · refine s_Mo_segmentNamed hT (by omega) hk hS hsg hM (fun r p1 p2 p3 => ?_) (fun hno => ?_)
    · have hr : Fst nm S (pck (fun i => t (a + i)) (b - a)) r := ⟨p1, p2, p3⟩
      unfold w_Mo_namedSide_17 w_Mo_namedSide_31
      refine ⟨fun q => ?_, fun q => ?_⟩
      · have : tb = 0 := (nI_eq (a := tb) (b := 0) (by omega) (by omega)).mp q
        exact good r b _ _ hk.1 hk.2 hr (by omega) r2 (fun w => by omega)
      · have htb1 : tb = 1 := by
          rcases htb with rfl | rfl
          · exact absurd rfl q
          · rfl
        refine s_Mo_eat (k := 9) hT he r2 (by omega) (fun z1 z2 => ⟨fun q => absurd q (by decide), fun _ => good r (b + 1) _ _ hk.1 hk.2 hr (by omega) (by omega) (fun _ => ⟨z1, z2⟩)⟩) (fun z => ⟨fun _ => bad (fun x a' hs => ?_) b _ _ _ _ r1 r2 (Or.inr rfl), fun q => absurd rfl q⟩)
        obtain ⟨b', r', g', q1, q2, q3, q4, q5, q6, q7, q8, q9⟩ := hs
        have := hR.uniq q1
        subst this
        exact z (q5 htb1)
    · refine badT (fun x a' hs => ?_) _ _ _ (by decide)
      obtain ⟨b', r', g', q1, q2, q3, q4, q5, q6, q7, q8, q9⟩ := hs
      have := hR.uniq q1
      subst this
      exact hno r' q4.1 q4.2.1
  · refine badT (fun x a' hs => ?_) _ _ _ (by decide)
    obtain ⟨b', r', g', q1, q2, q3, q4, q5, q6, q7, q8, q9⟩ := hs
    have := hR.uniq q1
    subst this
    exact hk ⟨q2, q3⟩
