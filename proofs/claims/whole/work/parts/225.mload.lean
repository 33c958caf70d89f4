/-! the reference loads -/
theorem RG.keep {G : GD} {pl : Int32} {sg names sz bases length lk fa ta pa ti ts sc st sg' names' sz' bases' length' lk' fa' ta' pa' ti' ts' sc' st' so wi : Nat → Int32} (hG : G.ok) (h : RG G pl sg names sz bases length lk fa ta pa sc st so wi) (hk : KH sg names sz bases length lk fa ta pa ti ts sc st sg' names' sz' bases' length' lk' fa' ta' pa' ti' ts' sc' st') : RG G pl sg' names' sz' bases' length' lk' fa' ta' pa' sc' st' so wi := by
  obtain ⟨a1, a2, a3, a4, a5, a6, a7, a8⟩ := h
  obtain ⟨k1, k2, k3, k4, k5, k6, k7, k8, k9, k10, k11, k12, k13⟩ := hk
  have hS := hG.hS
  have hL := hG.hL
  have hP := hG.hP
  refine ⟨k1.trans a1, fun s hs => ?_, fun s hs => ⟨?_, fun i hi => ?_⟩, ⟨k6.trans a4.1, fun k hk => ?_⟩, k9.trans a5, fun p hp => ⟨?_, fun j hj => ?_⟩, a7, a8⟩
  · obtain ⟨k, c, g1, g2, g3, g4, g5⟩ := a2 s hs
    exact ⟨k, c, g1, g2, by rw [k3 _ (by omega)]; exact g3, fun i hi => ⟨by rw [k2 _ (by omega)]; exact (g4 i hi).1, (g4 i hi).2⟩, g5⟩
  · rw [k5 _ (by omega)]; exact (a3 s hs).1
  · have := (hG.hln s hs).2
    rw [k4 _ (by omega)]; exact (a3 s hs).2 i hi
  · rw [k7 _ (by omega), k8 _ (by omega)]; exact a4.2 k hk
  · rw [k12 _ (by omega)]; exact (a6 p hp).1
  · have := (hG.hsn p hp).2
    rw [k13 _ (by omega)]; exact (a6 p hp).2 j hj
theorem s_Mo_load {Q : Int32 → (Int32 × Int32 × Int32 × Int32 × Int32 × Int32 × (Nat → Int32) × (Nat → Int32) × (Nat → Int32) × (Nat → Int32) × (Nat → Int32) × (Nat → Int32) × (Nat → Int32) × (Nat → Int32) × (Nat → Int32) × (Nat → Int32) × (Nat → Int32) × (Nat → Int32) × (Nat → Int32) × (Nat → Int32) × (Nat → Int32)) → Prop} {f : Nat → Int32} {t : Nat → Nat} {n : Nat} {pl th at0 en bg mn : Int32} {sg names sz bases length lk fa ta pa ti ts sc st so wi : Nat → Int32} (hT : Tx f t n)
    (h1 : ∀ G' k, Rd t n k 0 G0 (some G') → G'.ok → ∀ (pl' u1 u2 u3 u4 : Int32) sg' names' sz' bases' length' lk' fa' ta' pa' ti' ts' sc' st' so' wi', RG G' pl' sg' names' sz' bases' length' lk' fa' ta' pa' sc' st' so' wi' → Q 0 (pl', 0, u1, u2, u3, u4, sg', names', sz', bases', length', lk', fa', ta', pa', ti', ts', sc', st', so', wi'))
    (h0 : ∀ k, Rd t n k 0 G0 none → ∀ (u1 u2 u3 u4 : Int32) sg' names' sz' bases' length' lk' fa' ta' pa' ti' ts' sc' st', KH sg names sz bases length lk fa ta pa ti ts sc st sg' names' sz' bases' length' lk' fa' ta' pa' ti' ts' sc' st' → Q (-nI k) (pl, th, u1, u2, u3, u4, sg', names', sz', bases', length', lk', fa', ta', pa', ti', ts', sc', st', so, wi)) : wp_Mo_load Q (nI n) pl th at0 en bg mn f sg names sz bases length lk fa ta pa ti ts sc st so wi := by
  have hn := hT.1
  have L : ∀ (m a l : Nat) (G : GD) (at0 en bg mn : Int32) (sg' names' sz' bases' length' lk' fa' ta' pa' ti' ts' sc' st' : Nat → Int32), n - a < m → a ≤ n → l ≤ a → G.ok → MG G sg' names' sz' bases' length' lk' fa' ta' pa' ti' ts' sc' st' → KH sg names sz bases length lk fa ta pa ti ts sc st sg' names' sz' bases' length' lk' fa' ta' pa' ti' ts' sc' st' → (∀ k r, Rd t n k a G r → Rd t n (k + l) 0 G0 r) → w_Mo_load_25 Q (nI n) f m (nI (l + 1)) (nI a) pl th at0 en bg mn sg' names' sz' bases' length' lk' fa' ta' pa' ti' ts' sc' st' so wi := by
    intro m
    induction m with
    | zero => intro a l G at0 en bg mn sg' names' sz' bases' length' lk' fa' ta' pa' ti' ts' sc' st' h; omega
    | succ m ih =>
      intro a l G at0 en bg mn sg' names' sz' bases' length' lk' fa' ta' pa' ti' ts' sc' st' hm ha hl hG hM hK hacc
      show w_Mo_load_25B Q _ (nI n) f _ _ _ _ _ _ _ _ _ _ _ _ _ _ _ _ _ _ _ _ _ _ _
      unfold w_Mo_load_25B
      refine ⟨fun q => ?_, fun q => ?_⟩
      · have := (nI_leI (by omega) (by omega)).mp q
        exact s_adopt hG hM (fun pl' sg' names' sz' bases' length' lk' fa' ta' pa' sc' st' so' wi' hR => h1 G (0 + l) (hacc 0 (some G) ⟨by omega, rfl⟩) hG _ _ _ _ _ _ _ _ _ _ _ _ _ _ _ _ _ _ _ _ hR)
      have ha' : a < n := by
        rcases Nat.lt_or_ge a n with w | w
        · exact w
        · exact absurd (nI_le (by omega) (by omega)) q
      obtain ⟨e, hE⟩ := LE.ex (t := t) (n := n) (n - a) a (by omega)
      have hae := hE.1
      have hen := hE.2.1
      have L76 : w_Mo_load_76 Q (w_Mo_load_25 Q (nI n) f m) (nI n) f (nI (l + 1)) (nI a) pl th at0 (nI e) bg mn sg' names' sz' bases' length' lk' fa' ta' pa' ti' ts' sc' st' so wi := by
        unfold w_Mo_load_76
        simp only [forall_eq]
        have bad : ¬ (∃ G', LineP t e a G G' ∧ e < n) → Rd t n (l + 1) 0 G0 none := fun w => by
          have := hacc 1 none ⟨ha', e, hE, Or.inl ⟨rfl, rfl, w⟩⟩
          rw [Nat.add_comm] at this
          exact this
        refine ⟨fun q => h0 (l + 1) (bad ?_) _ _ _ _ _ _ _ _ _ _ _ _ _ _ _ _ _ hK, fun q => ?_⟩
        · have : e = n := (nI_eq (by omega) (by omega)).mp q
          exact fun ⟨G', _, w⟩ => by omega
        have hen' : e < n := by
          rcases Nat.lt_or_ge e n with w | w
          · exact w
          · exact absurd (congrArg nI (show e = n by omega)) q
        refine s_line hT hen hae hG hM (fun G' w1 u1 u2 u3 sg1 names1 sz1 bases1 length1 lk1 fa1 ta1 pa1 ti1 ts1 sc1 st1 w2 w3 => ⟨fun q => absurd q (by decide), fun _ => ?_⟩) (fun z u1 u2 u3 sg1 names1 sz1 bases1 length1 lk1 fa1 ta1 pa1 ti1 ts1 sc1 st1 w3 => ⟨fun _ => h0 (l + 1) (bad (fun ⟨G', w, _⟩ => z ⟨G', w⟩)) _ _ _ _ _ _ _ _ _ _ _ _ _ _ _ _ _ (hK.tr w3), fun q => absurd rfl q⟩)
        rw [nI_1, nI_1]
        exact ih (e + 1) (l + 1) G' _ _ _ _ _ _ _ _ _ _ _ _ _ _ _ _ _ (by omega) (by omega) (by omega) (w1.ok hG) w2 (hK.tr w3) (fun k r hr => by rw [show k + (l + 1) = k + 1 + l by omega]; exact hacc _ _ (Rd.good ha' hE w1 hen' hr))
      have L38 : ∀ (j c : Nat), c + j = e → a ≤ c → ∃ u, w_Mo_load_38 Q (w_Mo_load_25 Q (nI n) f m) (nI n) f u (nI (l + 1)) (nI a) pl th at0 (nI c) bg mn sg' names' sz' bases' length' lk' fa' ta' pa' ti' ts' sc' st' so wi := by
        intro j
        induction j with
        | zero =>
          intro c hc hac
          obtain rfl : c = e := by omega
          refine ⟨1, ?_⟩
          show w_Mo_load_38B Q _ _ (nI n) f _ _ _ _ _ _ _ _ _ _ _ _ _ _ _ _ _ _ _ _ _ _ _
          unfold w_Mo_load_38B
          simp only [forall_eq]
          refine ⟨fun _ => L76, fun q => ?_⟩
          have hcn : c < n := by
            rcases Nat.lt_or_ge c n with w | w
            · exact w
            · exact absurd (nI_le (by omega) (by omega)) q
          have ht := hT.2 c hcn
          rw [nI_clamp (by omega), ht.1]
          exact ⟨vp_in_nI (by omega) (by omega), fun _ => L76, fun q => absurd (congrArg nI (hE.2.2.2 hcn)) q⟩
        | succ j ihj =>
          intro c hc hac
          obtain ⟨u, hu⟩ := ihj (c + 1) (by omega) (by omega)
          have ht := hT.2 c (by omega)
          refine ⟨u + 1, ?_⟩
          show w_Mo_load_38B Q _ _ (nI n) f _ _ _ _ _ _ _ _ _ _ _ _ _ _ _ _ _ _ _ _ _ _ _
          unfold w_Mo_load_38B
          simp only [forall_eq]
          refine ⟨fun q => absurd ((nI_leI (by omega) (by omega)).mp q) (by omega), fun _ => ?_⟩
          rw [nI_clamp (by omega), ht.1, nI_1]
          exact ⟨vp_in_nI (by omega) (by omega), fun q => absurd ((nI_eq (b := 10) (by omega) (by omega)).mp q) (hE.2.2.1 c hac (by omega)), fun _ => hu⟩
      exact L38 (e - a) a (by omega) (Nat.le_refl _)
  unfold wp_Mo_load
  simp only [forall_eq]
  rw [show (1 : Int32).toNatClampNeg = 1 by decide]
  have v1 : vp_in (1 : Int32) 2 := vp_in_nI (n := 1) (by omega) (by omega)
  refine ⟨v1, v1, v1, n + 1, ?_⟩
  exact L (n + 1) 0 0 G0 _ _ _ _ _ _ _ _ _ _ _ _ _ _ _ _ _ (by omega) (by omega) (by omega) G0_ok ⟨⟨pk_us, fun j hj => absurd hj (Nat.not_lt_zero _), fun j hj => absurd hj (Nat.not_lt_zero _)⟩, ⟨pk_us, fun j hj => absurd hj (Nat.not_lt_zero _)⟩, pk_us, fun j hj => absurd hj (Nat.not_lt_zero _), fun j hj => absurd hj (Nat.not_lt_zero _)⟩ ⟨pk_un (by omega), KP.rf, KP.rf, KP.rf, KP.rf, pk_un (by omega), KP.rf, KP.rf, pk_un (by omega), KP.rf, KP.rf, KP.rf, KP.rf⟩ (fun k r h => h)
