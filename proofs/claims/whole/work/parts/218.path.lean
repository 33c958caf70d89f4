/-! a line 'P' -/
def Pre (t : Nat → Nat) (e S : Nat) (nm : Nat → Nat) (LP : Nat → Nat → Prop) (a : Nat) : Nat → (Nat → Nat) → Nat → Prop
  | 0, _, c => c = a
  | k + 1, sd, c => ∃ c0 a1, Pre t e S nm LP a k sd c0 ∧ SideP t e S nm 0 c0 (sd k) a1 ∧ (0 < k → LP (sd (k - 1)) (sd k)) ∧ a1 < e ∧ t a1 = 44 ∧ c = a1 + 1
def Fin (t : Nat → Nat) (e S : Nat) (nm : Nat → Nat) (LP : Nat → Nat → Prop) (a k : Nat) (sd : Nat → Nat) : Prop := ∃ c a1, k < 8 ∧ Pre t e S nm LP a k sd c ∧ SideP t e S nm 0 c (sd k) a1 ∧ (0 < k → LP (sd (k - 1)) (sd k)) ∧ a1 < e ∧ t a1 = 9 ∧ a1 + 1 < e ∧ t (a1 + 1) = 42 ∧ a1 + 2 = e
section PRE
variable {t : Nat → Nat} {e S : Nat} {nm : Nat → Nat} {LP : Nat → Nat → Prop} {a : Nat}
theorem Pre.congr {sd sd' : Nat → Nat} : ∀ {k c : Nat}, Pre t e S nm LP a k sd c → (∀ j, j < k → sd j = sd' j) → Pre t e S nm LP a k sd' c := by
  intro k
  induction k with
  | zero => intro c h _; exact h
  | succ k ih =>
    intro c h hj
    obtain ⟨c0, a1, h1, h2, h3, h4, h5, h6⟩ := h
    refine ⟨c0, a1, ih h1 (fun j hk => hj j (by omega)), by rw [← hj k (by omega)]; exact h2, fun hk => ?_, h4, h5, h6⟩
    rw [← hj k (by omega), ← hj (k - 1) (by omega)]
    exact h3 hk
theorem Pre.uniq {sd sd' : Nat → Nat} : ∀ {k c c' : Nat}, Pre t e S nm LP a k sd c → Pre t e S nm LP a k sd' c' → c = c' ∧ ∀ j, j < k → sd j = sd' j := by
  intro k
  induction k with
  | zero => intro c c' h h'; exact ⟨Eq.trans h (Eq.symm h'), fun j hj => by omega⟩
  | succ k ih =>
    intro c c' h h'
    obtain ⟨c0, a1, h1, h2, h3, h4, h5, h6⟩ := h
    obtain ⟨c0', a1', k1, k2, k3, k4, k5, k6⟩ := h'
    obtain ⟨i1, i2⟩ := ih h1 k1
    subst i1
    obtain ⟨j1, j2⟩ := h2.uniq k2
    refine ⟨by omega, fun j hj => ?_⟩
    by_cases ej : j = k
    · subst ej; exact j1
    · exact i2 j (by omega)
theorem Pre.shorter {sd : Nat → Nat} {j : Nat} : ∀ {k c : Nat}, Pre t e S nm LP a k sd c → j ≤ k → ∃ c', Pre t e S nm LP a j sd c' ∧ (j < k → ∃ a1, SideP t e S nm 0 c' (sd j) a1 ∧ (0 < j → LP (sd (j - 1)) (sd j)) ∧ a1 < e ∧ t a1 = 44) := by
  intro k
  induction k with
  | zero =>
    intro c h hj
    obtain rfl : j = 0 := by omega
    exact ⟨c, h, fun z => by omega⟩
  | succ k ih =>
    intro c h hj
    by_cases ej : j = k + 1
    · subst ej; exact ⟨c, h, fun z => by omega⟩
    · obtain ⟨c0, a1, h1, h2, h3, h4, h5, h6⟩ := h
      by_cases ek : j = k
      · subst ek
        exact ⟨c0, h1, fun _ => ⟨a1, h2, h3, h4, h5⟩⟩
      · obtain ⟨c', q1, q2⟩ := ih h1 (by omega)
        exact ⟨c', q1, fun _ => q2 (by omega)⟩
theorem Pre.pos {sd : Nat → Nat} : ∀ {k c : Nat}, Pre t e S nm LP a k sd c → a ≤ e → a ≤ c ∧ c ≤ e := by
  intro k
  induction k with
  | zero =>
    intro c h ha
    have h : c = a := h
    omega
  | succ k ih =>
    intro c h ha
    obtain ⟨c0, a1, h1, h2, h3, h4, h5, h6⟩ := h
    have := ih h1 ha
    have := h2.le
    omega
/-- what a whole row of steps says of the step behind its first k ones -/
theorem Fin.at {sd sd' : Nat → Nat} {k k' c : Nat} (h : Pre t e S nm LP a k sd c) (hF : Fin t e S nm LP a k' sd') : ∃ a1, SideP t e S nm 0 c (sd' k) a1 ∧ (0 < k → LP (sd (k - 1)) (sd' k)) ∧ k ≤ k' ∧ k' < 8 ∧ a1 < e ∧ ((k < k' ∧ t a1 = 44) ∨ (k = k' ∧ t a1 = 9 ∧ a1 + 1 < e ∧ t (a1 + 1) = 42 ∧ a1 + 2 = e)) := by
  obtain ⟨c', a1, h1, h2, h3, h4, h5, h6, h7, h8, h9⟩ := hF
  rcases Nat.lt_trichotomy k k' with q | q | q
  · obtain ⟨c2, q1, q2⟩ := h2.shorter (Nat.le_of_lt q)
    obtain ⟨a2, r1, r2, r3, r4⟩ := q2 q
    obtain ⟨i1, i2⟩ := h.uniq q1
    subst i1
    exact ⟨a2, r1, fun hk => by rw [i2 (k - 1) (by omega)]; exact r2 hk, by omega, h1, r3, Or.inl ⟨q, r4⟩⟩
  · subst q
    obtain ⟨i1, i2⟩ := h.uniq h2
    subst i1
    exact ⟨a1, h3, fun hk => by rw [i2 (k - 1) (by omega)]; exact h4 hk, by omega, h1, h5, Or.inr ⟨rfl, h6, h7, h8, h9⟩⟩
  · obtain ⟨c2, q1, q2⟩ := h.shorter (Nat.le_of_lt q)
    obtain ⟨a2, r1, r2, r3, r4⟩ := q2 q
    obtain ⟨i1, i2⟩ := h2.uniq q1
    subst i1
    obtain ⟨j1, j2⟩ := h3.uniq r1
    rw [j2, r4] at h6
    omega
end PRE
def PthP (t : Nat → Nat) (e S : Nat) (nm : Nat → Nat) (LP : Nat → Nat → Prop) (a x k : Nat) (sd : Nat → Nat) : Prop := ∃ b, a < e ∧ t a = 80 ∧ a + 1 < e ∧ t (a + 1) = 9 ∧ Run isN t (a + 2) e b ∧ 1 ≤ b - (a + 2) ∧ b - (a + 2) ≤ 3 ∧ x = pck (fun i => t (a + 2 + i)) (b - (a + 2)) ∧ b < e ∧ t b = 9 ∧ Fin t e S nm LP (b + 1) k sd
def XP (S P : Nat) (pn sn : Nat → Nat) (sp : Nat → Nat → Nat) (aQ aC aT : Nat → Int32) : Prop := ∀ p, p < P → aQ p = nI (pn p) ∧ pn p < 2097152 ∧ (1 ≤ sn p ∧ sn p ≤ 8) ∧ aC p = nI (sn p) ∧ ∀ j, j < sn p → aT (8 * p + j) = nI (sp p j) ∧ sp p j < 2 * S
theorem s_addPath {Q : Int32 → (Int32 × (Nat → Int32) × (Nat → Int32)) → Prop} {S P x : Nat} {pn sn : Nat → Nat} {sp : Nat → Nat → Nat} {aQ aC aT : Nat → Int32} (hP : P ≤ 4) (hx : x < 2097152) (hX : XP S P pn sn sp aQ aC aT)
    (h1 : P < 4 → (∀ r, ¬ Fst pn P x r) → Q 1 (nI (P + 1), upd aQ P (nI x), upd aC P (nI 0))) (h0 : ¬ (P < 4 ∧ ∀ r, ¬ Fst pn P x r) → Q 0 (nI P, aQ, aC)) : wp_Gr_addPath Q (nI x) (nI P) aQ aC := by
  unfold wp_Gr_addPath
  refine ⟨fun q => h0 (fun z => ?_), fun q => ?_⟩
  · have : 4 ≤ P := (nI_leI (a := 4) (by omega) (by omega)).mp q
    omega
  · have hl : P < 4 := Nat.not_le.mp (fun z => q ((nI_leI (a := 4) (by omega) (by omega)).mpr z))
    refine s_positionOf (by omega) hP (by decide) (fun j hj => ⟨(hX j hj).1, by have := (hX j hj).2.1; omega⟩) (fun r p1 p2 p3 => ⟨fun z => absurd z (nI_pos (by omega)), fun _ => h0 (fun z => z.2 r ⟨p1, p2, p3⟩)⟩) (fun hno => ⟨fun _ => ?_, fun z => absurd (by decide) z⟩)
    simp only [forall_eq]
    rw [nI_clamp (by omega), nI_1]
    exact ⟨vp_in_nI hl (by omega), vp_in_nI hl (by omega), h1 hl (fun r z => hno r z.1 z.2.1)⟩
theorem s_addStep {Q : Int32 → ((Nat → Int32) × (Nat → Int32)) → Prop} {P k x Lk : Nat} {fr to : Nat → Nat} {aF aC aT : Nat → Int32} {sd : Nat → Nat} (hP : P < 4) (hk : k < 8) (hx : x < 16) (hF : FX aF fr to Lk) (hC : aC P = nI k) (hTk : ∀ j, j < k → aT (8 * P + j) = nI (sd j) ∧ sd j < 16)
    (h1 : (0 < k → LinkP fr to Lk (sd (k - 1)) x) → Q 1 (upd aC P (nI (k + 1)), upd aT (8 * P + k) (nI x))) (h0 : ¬ (0 < k → LinkP fr to Lk (sd (k - 1)) x) → Q 0 (aC, aT)) : wp_Gr_addStep Q (nI x) (nI (P + 1)) aF aC aT := by
  have fin : (0 < k → LinkP fr to Lk (sd (k - 1)) x) → w_Gr_addStep_63 Q (nI x) (nI (P + 1)) aF (nI P) (nI (8 * P + k)) aC aT := fun z => by
    unfold w_Gr_addStep_63
    rw [nI_clamp (by omega), nI_clamp (by omega), hC]
    simp only [forall_eq]
    rw [nI_1]
    exact ⟨vp_in_nI (by omega) (by omega), vp_in_nI hP (by omega), vp_in_nI hP (by omega), h1 z⟩
  unfold wp_Gr_addStep
  refine nm_r (nI_pred P) ⟨fun q => absurd q (nI_pos (by omega)), fun _ => ⟨vp_in_nI hP (by omega), ?_⟩⟩
  rw [nI_clamp (by omega), hC]
  simp only [forall_eq]
  rw [show (8 : Int32) = nI 8 from rfl, pk_mul, nI_add, show P * 8 + k = 8 * P + k by omega]
  refine ⟨fun _ => ⟨vp_in_nI hP (by omega), vp_in_nI hP (by omega), fun q => ?_, fun q => ?_⟩, fun q => absurd (nI_lt hk (by omega)) q⟩
  · have : k ≤ 0 := (nI_leI (b := 0) (by omega) (by omega)).mp q
    exact fin (fun z => by omega)
  · have hk0 : 0 < k := by
      rcases Nat.lt_or_ge 0 k with w | w
      · exact w
      · exact absurd ((nI_leI (b := 0) (by omega) (by omega)).mpr w) q
    rw [show (1 : Int32) = nI 1 from rfl, pk_sub (by omega), nI_clamp (by omega)]
    have hs := hTk (k - 1) (by omega)
    rw [show 8 * P + k - 1 = 8 * P + (k - 1) by omega, hs.1]
    refine ⟨vp_in_nI (by omega) (by omega), ?_⟩
    exact s_mayFollow hF hs.2 hx (fun z => ⟨fun q => absurd q (by decide), fun _ => fin (fun _ => z)⟩) (fun z => ⟨fun _ => h0 (fun w => z (w hk0)), fun q => absurd rfl q⟩)
