/-! names in the reference's tables, looked up -/
def MN (names sz : Nat → Int32) (ob oc S : Nat) (nm : Nat → Nat) : Prop := ∀ s, s < S → ∃ (k : Nat) (c : Nat → Nat), 1 ≤ k ∧ k ≤ 3 ∧ sz (ob + s) = nI k ∧ (∀ i, i < k → names (oc + 3 * s + i) = nI (c i) ∧ 1 ≤ c i ∧ c i < 128) ∧ nm s = pck c k
theorem s_positionOf {Q : Int32 → Unit → Prop} {x S nv : Nat} {av : Nat → Int32} {nm : Nat → Nat} (hx : x < 2147483648) (hS : S ≤ nv) (hnv : nv < 2147483648) (hN : ∀ j, j < S → av j = nI (nm j) ∧ nm j < 2147483648)
    (h1 : ∀ r, r < S → nm r = x → (∀ j, j < r → nm j ≠ x) → Q (nI r) ()) (h0 : (∀ j, j < S → nm j ≠ x) → Q (-1) ()) : wp_Gr_positionOf Q (nI x) (nI S) nv av := by
  have L : ∀ (j s : Nat), s + j = S → (∀ i, i < s → nm i ≠ x) → ∃ m, w_Gr_positionOf_2 Q (nI x) (nI S) nv av m (nI s) := by
    intro j
    induction j with
    | zero =>
      intro s hs hne
      refine ⟨1, ?_⟩
      show w_Gr_positionOf_2B _ _ _ _ _ _ _
      unfold w_Gr_positionOf_2B
      exact ⟨fun _ => h0 (fun i hi => hne i (by omega)), fun q => absurd (nI_le (by omega) (by omega)) q⟩
    | succ j ih =>
      intro s hs hne
      by_cases e : nm s = x
      · refine ⟨1, ?_⟩
        show w_Gr_positionOf_2B _ _ _ _ _ _ _
        unfold w_Gr_positionOf_2B
        simp only [forall_eq]
        rw [nI_clamp (by omega), (hN s (by omega)).1, e]
        exact ⟨fun q => absurd ((nI_leI (by omega) (by omega)).mp q) (by omega), fun _ => ⟨vp_in_nI (by omega) hnv, fun _ => h1 s (by omega) e hne, fun q => absurd rfl q⟩⟩
      · obtain ⟨m, hm⟩ := ih (s + 1) (by omega) (fun i hi => by
          rcases Nat.lt_or_ge i s with q | q
          · exact hne i q
          · rw [show i = s by omega]; exact e)
        refine ⟨m + 1, ?_⟩
        show w_Gr_positionOf_2B _ _ _ _ _ _ _
        unfold w_Gr_positionOf_2B
        simp only [forall_eq]
        have hb := hN s (by omega)
        rw [nI_clamp (by omega), hb.1, nI_1]
        exact ⟨fun q => absurd ((nI_leI (by omega) (by omega)).mp q) (by omega), fun _ => ⟨vp_in_nI (by omega) hnv, fun q => absurd ((nI_eq hb.2 hx).mp q) e, fun _ => hm⟩⟩
  exact L S 0 (by omega) (fun i hi => by omega)
theorem s_Mo_segmentNamed_in {Q : Int32 → Unit → Prop} {K : Int32 → Prop} {f : Nat → Int32} {t : Nat → Nat} {n a k s ks : Nat} {c : Nat → Nat} {sg names sz : Nat → Int32} (hT : Tx f t n) (hak : a + k ≤ n) (hs : s < 8) (hk3 : k ≤ 3) (hc : ∀ i, i < ks → names (24 + 3 * s + i) = nI (c i) ∧ 1 ≤ c i ∧ c i < 128)
    (ht : (ks = k ∧ ∀ i, i < k → c i = t (a + i)) → Q (nI s) ()) (hf : ¬ (ks = k ∧ ∀ i, i < k → c i = t (a + i)) → K (nI (s + 1))) :
    (ks = k → w_Mo_segmentNamed_33 Q K (nI a) (nI k) f sg names sz (nI s) 1) ∧ (ks ≠ k → w_Mo_segmentNamed_33 Q K (nI a) (nI k) f sg names sz (nI s) 0) := by
  have hn := hT.1
  have no : ¬ (ks = k ∧ ∀ i, i < k → c i = t (a + i)) → w_Mo_segmentNamed_87 Q K (nI a) (nI k) f sg names sz (nI s) 0 := fun z => by
    unfold w_Mo_segmentNamed_87
    refine ⟨fun _ => nm_r (nI_1 s) (hf z), fun q => absurd rfl q⟩
  have yes : (ks = k ∧ ∀ i, i < k → c i = t (a + i)) → w_Mo_segmentNamed_87 Q K (nI a) (nI k) f sg names sz (nI s) 1 := fun z => by
    unfold w_Mo_segmentNamed_87
    exact ⟨fun q => absurd q (by decide), fun _ => ht z⟩
  have zero : ∀ i, i ≤ k → ¬ (ks = k ∧ ∀ i, i < k → c i = t (a + i)) → ∃ m, w_Mo_segmentNamed_36 Q K (nI a) (nI k) f sg names sz m (nI s) 0 (nI i) := fun i hi z => by
    refine ⟨1, ?_⟩
    show w_Mo_segmentNamed_36B _ _ _ _ _ _ _ _ _ _ _ _
    unfold w_Mo_segmentNamed_36B
    exact ⟨fun _ => no z, fun _ => ⟨fun _ => no z, fun q => absurd rfl q⟩⟩
  have L : ks = k → ∀ (j i : Nat), i + j = k → (∀ i', i' < i → c i' = t (a + i')) → ∃ m, w_Mo_segmentNamed_36 Q K (nI a) (nI k) f sg names sz m (nI s) 1 (nI i) := by
    intro hks j
    induction j with
    | zero =>
      intro i hi he
      refine ⟨1, ?_⟩
      show w_Mo_segmentNamed_36B _ _ _ _ _ _ _ _ _ _ _ _
      unfold w_Mo_segmentNamed_36B
      exact ⟨fun _ => yes ⟨hks, fun i' hi' => he i' (by omega)⟩, fun q => absurd (nI_le (by omega) (by omega)) q⟩
    | succ j ih =>
      intro i hi he
      have hci := hc i (by omega)
      have hti := hT.2 (a + i) (by omega)
      by_cases e : c i = t (a + i)
      · obtain ⟨m, hm⟩ := ih (i + 1) (by omega) (fun i' hi' => by
          rcases Nat.lt_or_ge i' i with q | q
          · exact he i' q
          · rw [show i' = i by omega]; exact e)
        refine ⟨m + 1, ?_⟩
        show w_Mo_segmentNamed_36B _ _ _ _ _ _ _ _ _ _ _ _
        unfold w_Mo_segmentNamed_36B w_Mo_segmentNamed_80
        simp only [forall_eq, L0, NA]
        rw [nI_clamp (by omega), nI_clamp (by omega), hci.1, hti.1, e]
        refine ⟨fun q => absurd ((nI_leI (by omega) (by omega)).mp q) (by omega), fun _ => ⟨fun q => absurd q (by decide), fun _ => ⟨vp_in_nI (by omega) (by omega), vp_in_nI (by omega) (by omega), fun _ => hm, fun q => absurd rfl q⟩⟩⟩
      · obtain ⟨m, hm⟩ := zero (i + 1) (by omega) (fun z => e (z.2 i (by omega)))
        refine ⟨m + 1, ?_⟩
        show w_Mo_segmentNamed_36B _ _ _ _ _ _ _ _ _ _ _ _
        unfold w_Mo_segmentNamed_36B w_Mo_segmentNamed_80
        simp only [forall_eq, L0, NA]
        rw [nI_clamp (by omega), nI_clamp (by omega), hci.1, hti.1]
        refine ⟨fun q => absurd ((nI_leI (by omega) (by omega)).mp q) (by omega), fun _ => ⟨fun q => absurd q (by decide), fun _ => ⟨vp_in_nI (by omega) (by omega), vp_in_nI (by omega) (by omega), fun q => absurd ((nI_eq (by omega) (by omega)).mp q) e, fun _ => hm⟩⟩⟩
  constructor
  · intro hks
    unfold w_Mo_segmentNamed_33
    exact L hks k 0 (by omega) (fun i' hi' => by omega)
  · intro hks
    unfold w_Mo_segmentNamed_33
    exact zero 0 (by omega) (fun z => hks z.1)
theorem s_Mo_segmentNamed {Q : Int32 → Unit → Prop} {f : Nat → Int32} {t : Nat → Nat} {n a k S : Nat} {sg names sz : Nat → Int32} {nm : Nat → Nat} (hT : Tx f t n) (hak : a + k ≤ n) (hk : 1 ≤ k ∧ k ≤ 3) (hS : S ≤ 8) (hsg : sg 1 = nI S) (hM : MN names sz 8 24 S nm)
    (h1 : ∀ r, r < S → nm r = pck (fun i => t (a + i)) k → (∀ j, j < r → nm j ≠ pck (fun i => t (a + i)) k) → Q (nI r) ()) (h0 : (∀ j, j < S → nm j ≠ pck (fun i => t (a + i)) k) → Q (-1) ()) : wp_Mo_segmentNamed Q (nI a) (nI k) f sg names sz := by
  have hn := hT.1
  have hcd : ∀ i, i < k → 1 ≤ t (a + i) ∧ t (a + i) < 128 := fun i hi => by have := hT.2 (a + i) (by omega); omega
  have L : ∀ (j s : Nat), s + j = S → (∀ i, i < s → nm i ≠ pck (fun i => t (a + i)) k) → ∃ m, w_Mo_segmentNamed_2 Q (nI a) (nI k) f sg names sz m (nI s) := by
    intro j
    induction j with
    | zero =>
      intro s hs hne
      refine ⟨1, ?_⟩
      show w_Mo_segmentNamed_2B _ _ _ _ _ _ _ _ _
      unfold w_Mo_segmentNamed_2B
      simp only [forall_eq]
      rw [show (1 : Int32).toNatClampNeg = 1 by decide, hsg]
      refine ⟨vp_in_nI (n := 1) (N := 2) (by decide) (by decide), fun _ => h0 (fun i hi => hne i (by omega)), fun q => absurd (nI_le (by omega) (by omega)) q⟩
    | succ j ih =>
      intro s hs hne
      obtain ⟨ks, c, k1, k2, k3, k4, k5⟩ := hM s (by omega)
      have heq : nm s = pck (fun i => t (a + i)) k ↔ ks = k ∧ ∀ i, i < ks → c i = t (a + i) := by
        rw [k5]
        exact pck_name (fun i hi => (k4 i hi).2) hcd ⟨k1, k2⟩ hk
      have heq2 : nm s = pck (fun i => t (a + i)) k ↔ ks = k ∧ ∀ i, i < k → c i = t (a + i) := by
        rw [heq]
        constructor
        · rintro ⟨rfl, h⟩; exact ⟨rfl, h⟩
        · rintro ⟨rfl, h⟩; exact ⟨rfl, h⟩
      have fin : ∃ m, (¬ nm s = pck (fun i => t (a + i)) k → w_Mo_segmentNamed_2 Q (nI a) (nI k) f sg names sz m (nI (s + 1))) := by
        by_cases e : nm s = pck (fun i => t (a + i)) k
        · exact ⟨0, fun q => absurd e q⟩
        · obtain ⟨m, hm⟩ := ih (s + 1) (by omega) (fun i hi => by
            rcases Nat.lt_or_ge i s with q | q
            · exact hne i q
            · rw [show i = s by omega]; exact e)
          exact ⟨m, fun _ => hm⟩
      obtain ⟨m, hm⟩ := fin
      have I := s_Mo_segmentNamed_in (Q := Q) (K := w_Mo_segmentNamed_2 Q (nI a) (nI k) f sg names sz m) (s := s) (sg := sg) (sz := sz) hT hak (by omega) hk.2 (fun i hi => k4 i hi) (fun z => by
        have z := heq2.mpr z
        exact h1 s (by omega) z hne) (fun z => hm (fun y => z (heq2.mp y)))
      refine ⟨m + 1, ?_⟩
      show w_Mo_segmentNamed_2B _ _ _ _ _ _ _ _ _
      unfold w_Mo_segmentNamed_2B
      simp only [forall_eq, L0, NA]
      rw [show (nI 1).toNatClampNeg = 1 by decide, hsg, nI_clamp (by omega), k3]
      refine ⟨vp_in_nI (n := 1) (N := 2) (by decide) (by decide), fun q => absurd ((nI_leI (by omega) (by omega)).mp q) (by omega), fun _ => ⟨vp_in_nI (by omega) (by omega), fun q => ?_, fun q => ?_⟩⟩
      · exact I.1 ((nI_eq (by omega) (by omega)).mp q)
      · exact I.2 (fun z => q (congrArg nI z))
  exact L S 0 (by omega) (fun i hi => by omega)
theorem s_Mo_titled_in {Q : Int32 → Unit → Prop} {K : Int32 → Prop} {f : Nat → Int32} {t : Nat → Nat} {n a k s ks : Nat} {c : Nat → Nat} {sg names sz : Nat → Int32} (hT : Tx f t n) (hak : a + k ≤ n) (hs : s < 4) (hk3 : k ≤ 3) (hc : ∀ i, i < ks → names (12 + 3 * s + i) = nI (c i) ∧ 1 ≤ c i ∧ c i < 128)
    (ht : (ks = k ∧ ∀ i, i < k → c i = t (a + i)) → Q 1 ()) (hf : ¬ (ks = k ∧ ∀ i, i < k → c i = t (a + i)) → K (nI (s + 1))) :
    (ks = k → w_Mo_titled_32 Q K (nI a) (nI k) f sg names sz (nI s) 1) ∧ (ks ≠ k → w_Mo_titled_32 Q K (nI a) (nI k) f sg names sz (nI s) 0) := by
  have hn := hT.1
  have no : ¬ (ks = k ∧ ∀ i, i < k → c i = t (a + i)) → w_Mo_titled_86 Q K (nI a) (nI k) f sg names sz (nI s) 0 := fun z => by
    unfold w_Mo_titled_86
    refine ⟨fun _ => nm_r (nI_1 s) (hf z), fun q => absurd rfl q⟩
  have yes : (ks = k ∧ ∀ i, i < k → c i = t (a + i)) → w_Mo_titled_86 Q K (nI a) (nI k) f sg names sz (nI s) 1 := fun z => by
    unfold w_Mo_titled_86
    exact ⟨fun q => absurd q (by decide), fun _ => ht z⟩
  have zero : ∀ i, i ≤ k → ¬ (ks = k ∧ ∀ i, i < k → c i = t (a + i)) → ∃ m, w_Mo_titled_35 Q K (nI a) (nI k) f sg names sz m (nI s) 0 (nI i) := fun i hi z => by
    refine ⟨1, ?_⟩
    show w_Mo_titled_35B _ _ _ _ _ _ _ _ _ _ _ _
    unfold w_Mo_titled_35B
    exact ⟨fun _ => no z, fun _ => ⟨fun _ => no z, fun q => absurd rfl q⟩⟩
  have L : ks = k → ∀ (j i : Nat), i + j = k → (∀ i', i' < i → c i' = t (a + i')) → ∃ m, w_Mo_titled_35 Q K (nI a) (nI k) f sg names sz m (nI s) 1 (nI i) := by
    intro hks j
    induction j with
    | zero =>
      intro i hi he
      refine ⟨1, ?_⟩
      show w_Mo_titled_35B _ _ _ _ _ _ _ _ _ _ _ _
      unfold w_Mo_titled_35B
      exact ⟨fun _ => yes ⟨hks, fun i' hi' => he i' (by omega)⟩, fun q => absurd (nI_le (by omega) (by omega)) q⟩
    | succ j ih =>
      intro i hi he
      have hci := hc i (by omega)
      have hti := hT.2 (a + i) (by omega)
      by_cases e : c i = t (a + i)
      · obtain ⟨m, hm⟩ := ih (i + 1) (by omega) (fun i' hi' => by
          rcases Nat.lt_or_ge i' i with q | q
          · exact he i' q
          · rw [show i' = i by omega]; exact e)
        refine ⟨m + 1, ?_⟩
        show w_Mo_titled_35B _ _ _ _ _ _ _ _ _ _ _ _
        unfold w_Mo_titled_35B w_Mo_titled_79
        simp only [forall_eq, L0, NA]
        rw [nI_clamp (by omega), nI_clamp (by omega), hci.1, hti.1, e]
        refine ⟨fun q => absurd ((nI_leI (by omega) (by omega)).mp q) (by omega), fun _ => ⟨fun q => absurd q (by decide), fun _ => ⟨vp_in_nI (by omega) (by omega), vp_in_nI (by omega) (by omega), fun _ => hm, fun q => absurd rfl q⟩⟩⟩
      · obtain ⟨m, hm⟩ := zero (i + 1) (by omega) (fun z => e (z.2 i (by omega)))
        refine ⟨m + 1, ?_⟩
        show w_Mo_titled_35B _ _ _ _ _ _ _ _ _ _ _ _
        unfold w_Mo_titled_35B w_Mo_titled_79
        simp only [forall_eq, L0, NA]
        rw [nI_clamp (by omega), nI_clamp (by omega), hci.1, hti.1]
        refine ⟨fun q => absurd ((nI_leI (by omega) (by omega)).mp q) (by omega), fun _ => ⟨fun q => absurd q (by decide), fun _ => ⟨vp_in_nI (by omega) (by omega), vp_in_nI (by omega) (by omega), fun q => absurd ((nI_eq (by omega) (by omega)).mp q) e, fun _ => hm⟩⟩⟩
  constructor
  · intro hks
    unfold w_Mo_titled_32
    exact L hks k 0 (by omega) (fun i' hi' => by omega)
  · intro hks
    unfold w_Mo_titled_32
    exact zero 0 (by omega) (fun z => hks z.1)
theorem s_Mo_titled {Q : Int32 → Unit → Prop} {f : Nat → Int32} {t : Nat → Nat} {n a k S : Nat} {sg names sz : Nat → Int32} {nm : Nat → Nat} (hT : Tx f t n) (hak : a + k ≤ n) (hk : 1 ≤ k ∧ k ≤ 3) (hS : S ≤ 4) (hsg : sg 1 = nI S) (hM : MN names sz 4 12 S nm)
    (h1 : ∀ r, r < S → nm r = pck (fun i => t (a + i)) k → (∀ j, j < r → nm j ≠ pck (fun i => t (a + i)) k) → Q 1 ()) (h0 : (∀ j, j < S → nm j ≠ pck (fun i => t (a + i)) k) → Q 0 ()) : wp_Mo_titled Q (nI a) (nI k) f sg names sz := by
  have hn := hT.1
  have hcd : ∀ i, i < k → 1 ≤ t (a + i) ∧ t (a + i) < 128 := fun i hi => by have := hT.2 (a + i) (by omega); omega
  have L : ∀ (j s : Nat), s + j = S → (∀ i, i < s → nm i ≠ pck (fun i => t (a + i)) k) → ∃ m, w_Mo_titled_2 Q (nI a) (nI k) f sg names sz m (nI s) := by
    intro j
    induction j with
    | zero =>
      intro s hs hne
      refine ⟨1, ?_⟩
      show w_Mo_titled_2B _ _ _ _ _ _ _ _ _
      unfold w_Mo_titled_2B
      simp only [forall_eq]
      rw [show (1 : Int32).toNatClampNeg = 1 by decide, hsg]
      refine ⟨vp_in_nI (n := 1) (N := 2) (by decide) (by decide), fun _ => h0 (fun i hi => hne i (by omega)), fun q => absurd (nI_le (by omega) (by omega)) q⟩
    | succ j ih =>
      intro s hs hne
      obtain ⟨ks, c, k1, k2, k3, k4, k5⟩ := hM s (by omega)
      have heq : nm s = pck (fun i => t (a + i)) k ↔ ks = k ∧ ∀ i, i < ks → c i = t (a + i) := by
        rw [k5]
        exact pck_name (fun i hi => (k4 i hi).2) hcd ⟨k1, k2⟩ hk
      have heq2 : nm s = pck (fun i => t (a + i)) k ↔ ks = k ∧ ∀ i, i < k → c i = t (a + i) := by
        rw [heq]
        constructor
        · rintro ⟨rfl, h⟩; exact ⟨rfl, h⟩
        · rintro ⟨rfl, h⟩; exact ⟨rfl, h⟩
      have fin : ∃ m, (¬ nm s = pck (fun i => t (a + i)) k → w_Mo_titled_2 Q (nI a) (nI k) f sg names sz m (nI (s + 1))) := by
        by_cases e : nm s = pck (fun i => t (a + i)) k
        · exact ⟨0, fun q => absurd e q⟩
        · obtain ⟨m, hm⟩ := ih (s + 1) (by omega) (fun i hi => by
            rcases Nat.lt_or_ge i s with q | q
            · exact hne i q
            · rw [show i = s by omega]; exact e)
          exact ⟨m, fun _ => hm⟩
      obtain ⟨m, hm⟩ := fin
      have I := s_Mo_titled_in (Q := Q) (K := w_Mo_titled_2 Q (nI a) (nI k) f sg names sz m) (s := s) (sg := sg) (sz := sz) hT hak (by omega) hk.2 (fun i hi => k4 i hi) (fun z => by
        have z := heq2.mpr z
        exact h1 s (by omega) z hne) (fun z => hm (fun y => z (heq2.mp y)))
      refine ⟨m + 1, ?_⟩
      show w_Mo_titled_2B _ _ _ _ _ _ _ _ _
      unfold w_Mo_titled_2B
      simp only [forall_eq, L0, NA]
      rw [show (nI 1).toNatClampNeg = 1 by decide, hsg, nI_clamp (by omega), k3]
      refine ⟨vp_in_nI (n := 1) (N := 2) (by decide) (by decide), fun q => absurd ((nI_leI (by omega) (by omega)).mp q) (by omega), fun _ => ⟨vp_in_nI (by omega) (by omega), fun q => ?_, fun q => ?_⟩⟩
      · exact I.1 ((nI_eq (by omega) (by omega)).mp q)
      · exact I.2 (fun z => q (congrArg nI z))
  exact L S 0 (by omega) (fun i hi => by omega)
