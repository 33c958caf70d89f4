/-! a line 'S' -/
def SegP (t : Nat → Nat) (e a x p m : Nat) : Prop := ∃ b, a < e ∧ t a = 83 ∧ a + 1 < e ∧ t (a + 1) = 9 ∧ Run isN t (a + 2) e b ∧ 1 ≤ b - (a + 2) ∧ b - (a + 2) ≤ 3 ∧ x = pck (fun i => t (a + 2 + i)) (b - (a + 2)) ∧ b < e ∧ t b = 9 ∧ p = b + 1 ∧ p + m = e ∧ 1 ≤ m ∧ m ≤ 4 ∧ ∀ i, i < m → isBs (t (p + i)) = true
def KP (k : Nat) (f g : Nat → Int32) : Prop := ∀ j, j < k → g j = f j
theorem KP.rf {k : Nat} {f : Nat → Int32} : KP k f f := fun _ _ => rfl
theorem KP.up {k i : Nat} {f g : Nat → Int32} {v : Int32} (h : KP k f g) (hi : k ≤ i) : KP k f (upd g i v) := fun j hj => by rw [pk_un (by omega)]; exact h j hj
theorem KP.le {k l : Nat} {f g : Nat → Int32} (h : KP k f g) (hl : l ≤ k) : KP l f g := fun j hj => h j (by omega)
def MSg (sg names sz bases length : Nat → Int32) (S : Nat) (nm ln : Nat → Nat) (bs : Nat → Nat → Nat) : Prop := sg 1 = nI S ∧ MN names sz 8 24 S nm ∧ ∀ s, s < S → length (8 + s) = nI (ln s) ∧ ∀ i, i < ln s → bases (32 + 4 * s + i) = nI (bs s i)
theorem s_segmentLine {Q : Int32 → (Int32 × Int32 × Int32 × (Nat → Int32) × (Nat → Int32) × (Nat → Int32) × (Nat → Int32) × (Nat → Int32)) → Prop} {f : Nat → Int32} {t : Nat → Nat} {n a e S : Nat} {bg mn : Int32} {sg names sz bases length : Nat → Int32} {nm ln : Nat → Nat} {bs : Nat → Nat → Nat} (hT : Tx f t n) (he : e ≤ n) (ha : a ≤ e) (hS : S ≤ 8) (hln : ∀ s, s < S → ln s ≤ 4) (hM : MSg sg names sz bases length S nm ln bs)
    (h1 : ∀ x p m, SegP t e a x p m → S < 8 → (∀ r, ¬ Fst nm S x r) → ∀ (u v w : Int32) (sg' names' sz' bases' length' : Nat → Int32), MSg sg' names' sz' bases' length' (S + 1) (fu nm S x) (fu ln S m) (fu2 bs S (fun i => t (p + i))) → sg' 0 = sg 0 → KP 24 names names' → KP 8 sz sz' → KP 32 bases bases' → KP 8 length length' → Q 1 (u, v, w, sg', names', sz', bases', length'))
    (h0 : ¬ (∃ x p m, SegP t e a x p m ∧ S < 8 ∧ ∀ r, ¬ Fst nm S x r) → ∀ (u v w : Int32) (sg' names' sz' bases' length' : Nat → Int32), sg' 0 = sg 0 → KP 24 names names' → KP 8 sz sz' → KP 32 bases bases' → KP 8 length length' → Q 0 (u, v, w, sg', names', sz', bases', length')) : wp_Mo_segmentLine Q (nI a) (nI e) bg mn f sg names sz bases length := by
  have hn := hT.1
  obtain ⟨hM1, hM2, hM3⟩ := hM
  unfold wp_Mo_segmentLine
  refine s_Mo_eat (k := 83) hT he ha (by omega) (fun z1 z2 => ⟨fun q => absurd q (by decide), fun _ => ?_⟩) (fun z => ⟨fun _ => h0 (fun ⟨x, p, m, ⟨b, y1, y2, y3⟩, _⟩ => z ⟨y1, y2⟩) _ _ _ _ _ _ _ _ rfl KP.rf KP.rf KP.rf KP.rf, fun q => absurd rfl q⟩)
  refine s_Mo_eat (k := 9) hT he (by omega) (by omega) (fun z3 z4 => ⟨fun q => absurd q (by decide), fun _ => ?_⟩) (fun z => ⟨fun _ => h0 (fun ⟨x, p, m, ⟨b, y1, y2, y3, y4, _⟩, _⟩ => z ⟨y3, y4⟩) _ _ _ _ _ _ _ _ rfl KP.rf KP.rf KP.rf KP.rf, fun q => absurd rfl q⟩)
  obtain ⟨b, hR⟩ := run_ex isN t e (e - (a + 2)) (a + 2) (by omega)
  have hR' := hR
  obtain ⟨r1, r2, r3, r4⟩ := hR'
  refine s_Mo_eatName (a := a + 2) hT he hR (fun hk => ⟨fun q => absurd q (by decide), fun _ => ?_⟩) (fun hk => ⟨fun _ => h0 (fun ⟨x, p, m, ⟨b', y1, y2, y3, y4, y5, y6, y7, _⟩, _⟩ => hk (by rw [hR.uniq y5]; exact ⟨y6, y7⟩)) _ _ _ _ _ _ _ _ rfl KP.rf KP.rf KP.rf KP.rf, fun q => absurd rfl q⟩)
  have hcd : ∀ i, i < b - (a + 2) → 1 ≤ t (a + 2 + i) ∧ t (a + 2 + i) < 128 := fun i hi => by have := isN_range (r3 (a + 2 + i) (by omega) (by omega)); omega
  refine s_Mo_segmentNamed hT (by omega) hk hS hM1 hM2 (fun r p1 p2 p3 => ⟨fun _ => ?_, fun q => absurd (nI_pos' (by omega)) q⟩) (fun hno => ⟨fun q => absurd q (by decide), fun _ => ?_⟩)
  · refine h0 (fun ⟨x, p, m, ⟨b', y1, y2, y3, y4, y5, y6, y7, y8, _⟩, y10, y11⟩ => ?_) _ _ _ _ _ _ _ _ rfl KP.rf KP.rf KP.rf KP.rf
    rw [← hR.uniq y5] at y8
    exact y11 r ⟨p1, by rw [y8]; exact p2, by rw [y8]; exact p3⟩
  refine ⟨vp_in_nI (n := 1) (by omega) (by omega), ?_⟩
  simp only [forall_eq]
  rw [show (1 : Int32).toNatClampNeg = 1 by decide, hM1]
  refine ⟨fun q => ?_, fun q => ⟨vp_in_nI (n := 1) (by omega) (by omega), ?_⟩⟩
  · have : S = 8 := (nI_eq (b := 8) (by omega) (by omega)).mp q
    exact h0 (fun ⟨x, p, m, _, y10, y11⟩ => by omega) _ _ _ _ _ _ _ _ rfl KP.rf KP.rf KP.rf KP.rf
  have hS8 : S < 8 := by
    rcases Nat.lt_or_ge S 8 with w | w
    · exact w
    · exact absurd (congrArg nI (show S = 8 by omega)) q
  have hnoF : ∀ r, ¬ Fst nm S (pck (fun i => t (a + 2 + i)) (b - (a + 2))) r := fun r z => hno r z.1 z.2.1
  -- the bases
  have L2 : ∀ (nam : Nat → Int32), KP (24 + 3 * S) names nam → (∀ j, j < b - (a + 2) → nam (24 + 3 * S + j) = nI (t (a + 2 + j))) → b < e → t b = 9 → ∀ m, b + 1 + m = e → 1 ≤ m → m ≤ 4 → ∀ (j k : Nat) (ba : Nat → Int32), k + j = m → KP (32 + 4 * S) bases ba → (∀ i, i < k → isBs (t (b + 1 + i)) = true ∧ ba (32 + 4 * S + i) = nI (t (b + 1 + i))) → ∃ u, w_Mo_segmentLine_142 Q (nI e) f u (nI S) (nI m) (nI k) (nI (b + 1)) (nI (a + 2)) (nI (b - (a + 2))) sg nam (upd sz (8 + S) (nI (b - (a + 2)))) ba length := by
    intro nam hnam1 hnam2 hb1 hb2 m hm1 hm2 hm3 j
    induction j with
    | zero =>
      intro k ba hk hba1 hba2
      obtain rfl : k = m := by omega
      refine ⟨1, ?_⟩
      show w_Mo_segmentLine_142B Q _ (nI e) f _ _ _ _ _ _ _ _ _ _ _
      unfold w_Mo_segmentLine_142B
      refine ⟨fun _ => ?_, fun q => absurd (nI_le (by omega) (by omega)) q⟩
      simp only [forall_eq]
      rw [show (8 : Int32) = nI 8 from rfl, nI_add, nI_clamp (by omega), show (1 : Int32).toNatClampNeg = 1 by decide, hM1, nI_1]
      refine ⟨vp_in_nI (by omega) (by omega), vp_in_nI (n := 1) (by omega) (by omega), vp_in_nI (n := 1) (by omega) (by omega), ?_⟩
      refine h1 (pck (fun i => t (a + 2 + i)) (b - (a + 2))) (b + 1) k ⟨b, z1, z2, z3, z4, hR, by omega, by omega, rfl, hb1, hb2, rfl, hm1, hm2, hm3, fun i hi => (hba2 i hi).1⟩ hS8 hnoF _ _ _ _ _ _ _ _ ⟨pk_us, fun s hs => ?_, fun s hs => ?_⟩ (pk_un (by omega)) (hnam1.le (by omega)) (KP.rf.up (by omega)) (hba1.le (by omega)) (KP.rf.up (by omega))
      · by_cases e1 : s = S
        · subst e1
          refine ⟨b - (a + 2), fun i => t (a + 2 + i), by omega, by omega, pk_us, fun i hi => ⟨hnam2 i hi, (hcd i hi).1, (hcd i hi).2⟩, fu_s⟩
        · obtain ⟨k1, c, q1, q2, q3, q4, q5⟩ := hM2 s (by omega)
          exact ⟨k1, c, q1, q2, by rw [pk_un (by omega)]; exact q3, fun i hi => ⟨by rw [hnam1 _ (by omega)]; exact (q4 i hi).1, (q4 i hi).2⟩, by rw [fu_n e1]; exact q5⟩
      · by_cases e1 : s = S
        · subst e1
          rw [pk_us, fu_s, fu2_s]
          exact ⟨rfl, fun i hi => (hba2 i hi).2⟩
        · rw [pk_un (by omega), fu_n e1, fu2_n e1]
          have hl := hln s (by omega)
          exact ⟨(hM3 s (by omega)).1, fun i hi => by rw [hba1 _ (by omega)]; exact (hM3 s (by omega)).2 i hi⟩
    | succ j ih =>
      intro k ba hk hba1 hba2
      have ht := hT.2 (b + 1 + k) (by omega)
      by_cases hb : isBs (t (b + 1 + k)) = true
      · obtain ⟨u, hu⟩ := ih (k + 1) (upd ba (32 + 4 * S + k) (nI (t (b + 1 + k)))) (by omega) (hba1.up (by omega)) (fun i hi => by
          by_cases e1 : i = k
          · subst e1; exact ⟨hb, pk_us⟩
          · rw [pk_un (by omega)]; exact hba2 i (by omega))
        refine ⟨u + 1, ?_⟩
        show w_Mo_segmentLine_142B Q _ (nI e) f _ _ _ _ _ _ _ _ _ _ _
        unfold w_Mo_segmentLine_142B
        refine ⟨fun q => absurd ((nI_leI (by omega) (by omega)).mp q) (by omega), fun _ => ?_⟩
        simp only [forall_eq]
        rw [nI_add, nI_clamp (by omega), ht.1]
        refine ⟨vp_in_nI (by omega) (by omega), ?_⟩
        refine s_Mo_isBase (fun _ => ⟨fun q => absurd q (by decide), fun _ => ⟨vp_in_nI (by omega) (by omega), ?_⟩⟩) (fun z => absurd ((okB_nI (by omega)).mpr hb) z)
        rw [show (32 : Int32) = nI 32 from rfl, show (4 : Int32) = nI 4 from rfl, pk_mul, nI_add, nI_add, nI_clamp (by omega), nar_c (by omega), nI_1]
        exact ⟨vp_in_nI (by omega) (by omega), hu⟩
      · refine ⟨1, ?_⟩
        show w_Mo_segmentLine_142B Q _ (nI e) f _ _ _ _ _ _ _ _ _ _ _
        unfold w_Mo_segmentLine_142B
        refine ⟨fun q => absurd ((nI_leI (by omega) (by omega)).mp q) (by omega), fun _ => ?_⟩
        simp only [forall_eq]
        rw [nI_add, nI_clamp (by omega), ht.1]
        refine ⟨vp_in_nI (by omega) (by omega), ?_⟩
        refine s_Mo_isBase (fun z => absurd ((okB_nI (by omega)).mp z) hb) (fun _ => ⟨fun _ => ?_, fun q => absurd rfl q⟩)
        refine h0 (fun ⟨x, p, m', ⟨b', y1, y2, y3, y4, y5, y6, y7, y8, y9, y10, y11, y12, y13, y14, y15⟩, _⟩ => ?_) _ _ _ _ _ _ _ _ rfl (hnam1.le (by omega)) (KP.rf.up (by omega)) (hba1.le (by omega)) KP.rf
        have := hR.uniq y5
        subst this
        exact hb (by have := y15 k (by omega); rw [y11] at this; exact this)
  -- the name
  have L1 : ∀ (j k : Nat) (nam : Nat → Int32), k + j = b - (a + 2) → KP (24 + 3 * S) names nam → (∀ i, i < k → nam (24 + 3 * S + i) = nI (t (a + 2 + i))) → ∃ u, w_Mo_segmentLine_56 Q (nI e) f u 9 (nI S) (nI k) (nI b) (nI (a + 2)) (nI (b - (a + 2))) sg nam sz bases length := by
    intro j
    induction j with
    | zero =>
      intro k nam hk hn1 hn2
      obtain rfl : k = b - (a + 2) := by omega
      refine ⟨1, ?_⟩
      show w_Mo_segmentLine_56B _ _ _ _ _ _ _ _ _ _ _ _ _ _ _
      unfold w_Mo_segmentLine_56B
      refine ⟨fun _ => ?_, fun q => absurd (nI_le (by omega) (by omega)) q⟩
      simp only [forall_eq]
      rw [show (8 : Int32) = nI 8 from rfl, nI_add, nI_clamp (by omega)]
      refine ⟨vp_in_nI (by omega) (by omega), ?_⟩
      refine s_Mo_eat (k := 9) hT he r2 (by omega) (fun z5 z6 => ⟨fun q => absurd q (by decide), fun _ => ?_⟩) (fun z => ⟨fun _ => h0 (fun ⟨x, p, m', ⟨b', y1, y2, y3, y4, y5, y6, y7, y8, y9, y10, _⟩, _⟩ => z (by rw [hR.uniq y5]; exact ⟨y9, y10⟩)) _ _ _ _ _ _ _ _ rfl (hn1.le (by omega)) (KP.rf.up (by omega)) KP.rf KP.rf, fun q => absurd rfl q⟩)
      have bad : ¬ (1 ≤ e - (b + 1) ∧ e - (b + 1) ≤ 4) → ¬ ∃ x p m, SegP t e a x p m ∧ S < 8 ∧ ∀ r, ¬ Fst nm S x r := fun z ⟨x, p, m', ⟨b', y1, y2, y3, y4, y5, y6, y7, y8, y9, y10, y11, y12, y13, y14, _⟩, _⟩ => by
        have := hR.uniq y5
        omega
      rw [pk_sub (by omega)]
      refine ⟨fun q => ?_, fun q => ⟨fun q2 => ?_, fun q2 => ?_⟩⟩
      · have : e - (b + 1) < 1 := (nI_ltI (b := 1) (by omega) (by omega)).mp q
        exact h0 (bad (by omega)) _ _ _ _ _ _ _ _ rfl (hn1.le (by omega)) (KP.rf.up (by omega)) KP.rf KP.rf
      · have w1 : ¬ e - (b + 1) < 1 := fun z => q ((nI_ltI (b := 1) (by omega) (by omega)).mpr z)
        have w2 : e - (b + 1) ≤ 4 := (nI_leI (b := 4) (by omega) (by omega)).mp q2
        exact L2 nam hn1 hn2 z5 z6 (e - (b + 1)) (by omega) (by omega) w2 (e - (b + 1)) 0 bases (by omega) KP.rf (fun i hi => by omega)
      · have w2 : ¬ e - (b + 1) ≤ 4 := fun z => q2 ((nI_leI (b := 4) (by omega) (by omega)).mpr z)
        exact h0 (bad (by omega)) _ _ _ _ _ _ _ _ rfl (hn1.le (by omega)) (KP.rf.up (by omega)) KP.rf KP.rf
    | succ j ih =>
      intro k nam hk hn1 hn2
      have ht := hT.2 (a + 2 + k) (by omega)
      obtain ⟨u, hu⟩ := ih (k + 1) (upd nam (24 + 3 * S + k) (nI (t (a + 2 + k)))) (by omega) (hn1.up (by omega)) (fun i hi => by
        by_cases e1 : i = k
        · subst e1; exact pk_us
        · rw [pk_un (by omega)]; exact hn2 i (by omega))
      refine ⟨u + 1, ?_⟩
      show w_Mo_segmentLine_56B _ _ _ _ _ _ _ _ _ _ _ _ _ _ _
      unfold w_Mo_segmentLine_56B
      refine ⟨fun q => absurd ((nI_leI (by omega) (by omega)).mp q) (by omega), fun _ => ?_⟩
      simp only [forall_eq]
      rw [nI_add, nI_clamp (by omega), ht.1, show (24 : Int32) = nI 24 from rfl, show (3 : Int32) = nI 3 from rfl, pk_mul, nI_add, nI_add, nI_clamp (by omega), nar_c (by omega), nI_1]
      exact ⟨vp_in_nI (by omega) (by omega), vp_in_nI (by omega) (by omega), hu⟩
  exact L1 (b - (a + 2)) 0 names (by omega) KP.rf (fun i hi => by omega)
theorem s_takeSegment {Q : Int32 → (Int32 × Int32 × Int32 × (Nat → Int32) × (Nat → Int32) × (Nat → Int32) × (Nat → Int32)) → Prop} {f : Nat → Int32} {t : Nat → Nat} {n a e S : Nat} {nm ln : Nat → Nat} {bs : Nat → Nat → Nat} {aN aS aB aP : Nat → Int32} (hT : Tx f t n) (hE : LE t n a e) (hae : a < e) (hS83 : t a = 83) (hS : S ≤ 8) (hok : NMok nm S) (hX : XS S nm ln bs aN aS aB aP)
    (h1 : ∀ x p m, SegP t e a x p m → e < n → S < 8 → (∀ r, ¬ Fst nm S x r) → x < 2097152 → 1 ≤ x → ∀ aN' aS' aB' aP', XS (S + 1) (fu nm S x) (fu ln S m) (fu2 bs S (fun i => t (p + i))) aN' aS' aB' aP' → Q 1 (nI (e + 1), nI (S + 1), nI (st0 (fu ln S m) (S + 1)), aN', aS', aB', aP'))
    (h0 : ¬ (∃ x p m, SegP t e a x p m ∧ e < n ∧ S < 8 ∧ ∀ r, ¬ Fst nm S x r) → ∀ v, Q 0 v) : wp_X_takeSegment Q (nI n) (nI (a + 1)) f (nI S) (nI (st0 ln S)) aN aS aB aP := by
  have hn := hT.1
  have e2 := hE.2.1
  unfold wp_X_takeSegment
  refine s_takes (k := 9) hT (hE.mv (by omega) (by omega)) (by omega) (by omega) (by omega) (fun z3 z4 => ⟨fun q => absurd q (by decide), fun _ => ?_⟩) (fun z => ⟨fun _ => h0 (fun ⟨x, p, m, ⟨b, y1, y2, y3, y4, _⟩, _⟩ => z ⟨y3, y4⟩) _, fun q => absurd rfl q⟩)
  obtain ⟨b, hR⟩ := run_ex isN t e (e - (a + 2)) (a + 2) (by omega)
  have hR' := hR
  obtain ⟨r1, r2, r3, r4⟩ := hR'
  have hE2 : LE t n (a + 2) e := hE.mv (by omega) (by omega)
  refine s_takeName (a := a + 2) hT hE2 hR (fun k k1 k2 k3 => ?_)
  have hcd : ∀ i, i < k → 1 ≤ t (a + 2 + i) ∧ t (a + 2 + i) < 128 := fun i hi => by have := isN_range (r3 (a + 2 + i) (by omega) (by omega)); omega
  have hp : pck (fun i => t (a + 2 + i)) k < 128 ^ k := pck_lt (fun i hi => (hcd i (by omega)).2)
  have hp2 : 128 ^ k ≤ 2097152 := by
    have : k = 0 ∨ k = 1 ∨ k = 2 ∨ k = 3 := by omega
    rcases this with rfl | rfl | rfl | rfl <;> decide
  have hz0 : pck (fun i => t (a + 2 + i)) k = 0 → k = 0 := fun z => by
    rcases Nat.lt_or_ge 0 k with w | w
    · have := pck_ge (fun i hi => (hcd i hi).1) w
      have : 1 ≤ 128 ^ (k - 1) := Nat.one_le_pow _ _ (by decide)
      omega
    · omega
  refine ⟨fun q => h0 (fun ⟨x, p, m, ⟨b', y1, y2, y3, y4, y5, y6, _⟩, _⟩ => ?_) _, fun q => ?_⟩
  · have := hR.uniq y5
    have := hz0 ((nI_eq (b := 0) (by omega) (by omega)).mp q)
    omega
  have k0 : 1 ≤ k := by
    rcases Nat.lt_or_ge 0 k with w | w
    · exact w
    · obtain rfl : k = 0 := by omega
      exact absurd rfl q
  refine s_takes (k := 9) hT (hE.mv (by omega) (by omega)) (by omega) (by omega) (by omega) (fun z5 z6 => ⟨fun q => absurd q (by decide), fun _ => ?_⟩) (fun z => ⟨fun _ => h0 (fun ⟨x, p, m, ⟨b', y1, y2, y3, y4, y5, y6, y7, y8, y9, y10, _⟩, _⟩ => ?_) _, fun q => absurd rfl q⟩)
  rotate_left
  · have := hR.uniq y5
    subst this
    exact z (by rw [show a + 2 + k = b by omega]; exact ⟨y9, y10⟩)
  -- the name is whole
  have hb : a + 2 + k = b := by
    rcases k3 with w | w
    · rcases Nat.lt_or_ge (a + 2 + k) b with g | g
      · have := isN_range (r3 (a + 2 + k) (by omega) g)
        omega
      · omega
    · omega
  have hk : k = b - (a + 2) := by omega
  obtain ⟨d, hD⟩ := run_ex isBs t e (e - (b + 1)) (b + 1) (by omega)
  have hD' := hD
  obtain ⟨d1, d2, d3, d4⟩ := hD'
  rw [hb]
  refine s_takeBases hT (hE.mv (by omega) (by omega)) hD ?_
  refine s_takesNL hT (hE.mv (by omega) d2) (fun w1 w2 => ⟨fun q => absurd q (by decide), fun _ => ?_⟩) (fun z => ⟨fun _ => h0 (fun ⟨x, p, m, ⟨b', y1, y2, y3, y4, y5, y6, y7, y8, y9, y10, y11, y12, y13, y14, y15⟩, y16, _⟩ => ?_) _, fun q => absurd rfl q⟩)
  rotate_left
  · have := hR.uniq y5
    subst this
    refine z ⟨hD.uniq ⟨by omega, Nat.le_refl _, fun j hj1 hj2 => ?_, fun h => by omega⟩, y16⟩
    have := y15 (j - (b + 1)) (by omega)
    rw [y11, show b + 1 + (j - (b + 1)) = j by omega] at this
    exact this
  have hm : b + 1 + (d - (b + 1)) = e := by omega
  have seg : 1 ≤ d - (b + 1) → d - (b + 1) ≤ 4 → SegP t e a (pck (fun i => t (a + 2 + i)) k) (b + 1) (d - (b + 1)) := fun g1 g2 => ⟨b, hae, hS83, z3, z4, hR, by omega, by omega, by rw [hk], by omega, by rw [← hb]; exact z6, rfl, hm, g1, g2, fun i hi => d3 _ (by omega) (by omega)⟩
  refine s_addSegment hT (by omega) (fun i hi => d3 _ (by omega) (by omega)) hS (by omega) hok hX (fun g1 g2 g3 g4 aN' aS' aB' aP' hX' => ⟨fun q => absurd q (by decide), fun _ => ?_⟩) (fun z => ⟨fun _ => h0 (fun ⟨x, p, m, ⟨b', y1, y2, y3, y4, y5, y6, y7, y8, y9, y10, y11, y12, y13, y14, y15⟩, y16, y17, y18⟩ => ?_) _, fun q => absurd rfl q⟩)
  · exact h1 _ _ _ (seg g2 g3) w2 g1 g4 (by omega) (by
      have := pck_ge (fun i hi => (hcd i hi).1) k0
      have : 1 ≤ 128 ^ (k - 1) := Nat.one_le_pow _ _ (by decide)
      omega) _ _ _ _ hX'
  · have := hR.uniq y5
    subst this
    refine z ⟨y17, by omega, by omega, ?_⟩
    rw [hk, ← y8]
    exact y18
