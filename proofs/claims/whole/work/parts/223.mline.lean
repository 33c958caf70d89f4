/-! a line, and the lines, in the reference -/
def MG (G : GD) (sg names sz bases length lk fa ta pa ti ts sc st : Nat → Int32) : Prop := MSg sg names sz bases length G.S G.nm G.ln G.bs ∧ ML lk fa ta 1 G.fr G.to G.Lk G.S ∧ MP pa ti ts sc st G.P G.pn G.sn G.sp
def KH (sg names sz bases length lk fa ta pa ti ts sc st sg' names' sz' bases' length' lk' fa' ta' pa' ti' ts' sc' st' : Nat → Int32) : Prop := sg' 0 = sg 0 ∧ KP 24 names names' ∧ KP 8 sz sz' ∧ KP 32 bases bases' ∧ KP 8 length length' ∧ lk' 0 = lk 0 ∧ KP 12 fa fa' ∧ KP 12 ta ta' ∧ pa' 0 = pa 0 ∧ KP 12 ti ti' ∧ KP 4 ts ts' ∧ KP 4 sc sc' ∧ KP 32 st st'
theorem KP.tr {k : Nat} {f g h : Nat → Int32} (h1 : KP k f g) (h2 : KP k g h) : KP k f h := fun j hj => (h2 j hj).trans (h1 j hj)
theorem KH.tr {sg names sz bases length lk fa ta pa ti ts sc st sg' names' sz' bases' length' lk' fa' ta' pa' ti' ts' sc' st' sg'' names'' sz'' bases'' length'' lk'' fa'' ta'' pa'' ti'' ts'' sc'' st'' : Nat → Int32} (h1 : KH sg names sz bases length lk fa ta pa ti ts sc st sg' names' sz' bases' length' lk' fa' ta' pa' ti' ts' sc' st') (h2 : KH sg' names' sz' bases' length' lk' fa' ta' pa' ti' ts' sc' st' sg'' names'' sz'' bases'' length'' lk'' fa'' ta'' pa'' ti'' ts'' sc'' st'') : KH sg names sz bases length lk fa ta pa ti ts sc st sg'' names'' sz'' bases'' length'' lk'' fa'' ta'' pa'' ti'' ts'' sc'' st'' := by
  obtain ⟨a1, a2, a3, a4, a5, a6, a7, a8, a9, a10, a11, a12, a13⟩ := h1
  obtain ⟨b1, b2, b3, b4, b5, b6, b7, b8, b9, b10, b11, b12, b13⟩ := h2
  exact ⟨b1.trans a1, a2.tr b2, a3.tr b3, a4.tr b4, a5.tr b5, b6.trans a6, a7.tr b7, a8.tr b8, b9.trans a9, a10.tr b10, a11.tr b11, a12.tr b12, a13.tr b13⟩
theorem KH.rf {sg names sz bases length lk fa ta pa ti ts sc st : Nat → Int32} : KH sg names sz bases length lk fa ta pa ti ts sc st sg names sz bases length lk fa ta pa ti ts sc st := ⟨rfl, KP.rf, KP.rf, KP.rf, KP.rf, rfl, KP.rf, KP.rf, rfl, KP.rf, KP.rf, KP.rf, KP.rf⟩
theorem ML.mono {lk fa ta : Nat → Int32} {g Lk S S' : Nat} {fr to : Nat → Nat} (h : ML lk fa ta g fr to Lk S) (hS : S ≤ S') : ML lk fa ta g fr to Lk S' := ⟨h.1, fun k hk => by have := h.2 k hk; exact ⟨this.1, this.2.1, by omega, by omega⟩⟩
theorem MP.cut {pa ti ts sc st : Nat → Int32} {P x k : Nat} {pn sn : Nat → Nat} {sp : Nat → Nat → Nat} {sd : Nat → Nat} (h : MP pa ti ts sc st (P + 1) (fu pn P x) (fu sn P (k + 1)) (fu2 sp P sd)) : MP pa ti ts sc st (P + 1) (fu pn P x) (fu sn P (k + 1)) (fu2 sp P (cut k sd)) := ⟨h.1, h.2.1, fun p hp => by
  obtain ⟨h1, h2⟩ := h.2.2 p hp
  refine ⟨h1, fun j hj => ?_⟩
  have h6 := h2 j hj
  by_cases e1 : p = P
  · subst e1
    rw [fu_s] at hj
    rw [fu2_s] at h6 ⊢
    rw [cut_le (by omega)]
    exact h6
  · rw [fu2_n e1] at h6 ⊢
    exact h6⟩
theorem s_line {Q : Int32 → (Int32 × Int32 × Int32 × (Nat → Int32) × (Nat → Int32) × (Nat → Int32) × (Nat → Int32) × (Nat → Int32) × (Nat → Int32) × (Nat → Int32) × (Nat → Int32) × (Nat → Int32) × (Nat → Int32) × (Nat → Int32) × (Nat → Int32) × (Nat → Int32)) → Prop} {f : Nat → Int32} {t : Nat → Nat} {n a e : Nat} {G : GD} {bg mn : Int32} {sg names sz bases length lk fa ta pa ti ts sc st : Nat → Int32} (hT : Tx f t n) (he : e ≤ n) (ha : a ≤ e) (hG : G.ok) (hM : MG G sg names sz bases length lk fa ta pa ti ts sc st)
    (h1 : ∀ G', LineP t e a G G' → ∀ (u v w : Int32) sg' names' sz' bases' length' lk' fa' ta' pa' ti' ts' sc' st', MG G' sg' names' sz' bases' length' lk' fa' ta' pa' ti' ts' sc' st' → KH sg names sz bases length lk fa ta pa ti ts sc st sg' names' sz' bases' length' lk' fa' ta' pa' ti' ts' sc' st' → Q 1 (u, v, w, sg', names', sz', bases', length', lk', fa', ta', pa', ti', ts', sc', st'))
    (h0 : ¬ (∃ G', LineP t e a G G') → ∀ (u v w : Int32) sg' names' sz' bases' length' lk' fa' ta' pa' ti' ts' sc' st', KH sg names sz bases length lk fa ta pa ti ts sc st sg' names' sz' bases' length' lk' fa' ta' pa' ti' ts' sc' st' → Q 0 (u, v, w, sg', names', sz', bases', length', lk', fa', ta', pa', ti', ts', sc', st')) : wp_Mo_line Q (nI a) (nI e) bg mn f sg names sz bases length lk fa ta pa ti ts sc st := by
  have hn := hT.1
  have hM' := hM
  obtain ⟨hM1, hM2, hM3⟩ := hM'
  have hM1' := hM1
  obtain ⟨m1, m2, m3⟩ := hM1'
  unfold wp_Mo_line
  refine ⟨fun q => ?_, fun q => h0 (fun ⟨G', w⟩ => ?_) _ _ _ _ _ _ _ _ _ _ _ _ _ _ _ _ KH.rf⟩
  rotate_left
  · refine q ((nI_ltI (by omega) (by omega)).mpr ?_)
    rcases w with ⟨w, _⟩ | ⟨x, p, m, ⟨b, w, _⟩, _⟩ | ⟨x, y, ⟨_, _, w, _⟩, _⟩ | ⟨x, k, sd, ⟨b, w, _⟩, _⟩ <;> exact w
  have hae : a < e := (nI_ltI (by omega) (by omega)).mp q
  have ht := hT.2 a (by omega)
  simp only [forall_eq]
  rw [nI_clamp (by omega), ht.1]
  refine ⟨vp_in_nI (by omega) (by omega), fun q => ?_, fun q => ?_⟩
  · have : t a = 72 := (nI_eq (b := 72) (by omega) (by omega)).mp q
    unfold w_Mo_line_68
    exact h1 G (Or.inl ⟨hae, this, rfl⟩) _ _ _ _ _ _ _ _ _ _ _ _ _ _ _ _ hM KH.rf
  have n72 : t a ≠ 72 := fun w => q (congrArg nI w)
  refine ⟨fun q => ?_, fun q => ?_⟩
  · have h83 : t a = 83 := (nI_eq (b := 83) (by omega) (by omega)).mp q
    refine s_segmentLine hT he ha hG.hS (fun s hs => (hG.hln s hs).2) hM1 (fun x p m w1 w2 w3 u v w sg' names' sz' bases' length' k0 k1 k2 k3 k4 k5 => ⟨fun q => absurd q (by decide), fun _ => ?_⟩) (fun z u v w sg' names' sz' bases' length' k1 k2 k3 k4 k5 => ⟨fun _ => ?_, fun q => absurd rfl q⟩)
    · unfold w_Mo_line_68
      exact h1 (G.seg x m (fun i => t (p + i))) (Or.inr (Or.inl ⟨x, p, m, w1, w2, w3, rfl⟩)) _ _ _ _ _ _ _ _ _ _ _ _ _ _ _ _ ⟨k0, hM2.mono (by show G.S ≤ G.S + 1; omega), hM3⟩ ⟨k1, k2, k3, k4, k5, rfl, KP.rf, KP.rf, rfl, KP.rf, KP.rf, KP.rf, KP.rf⟩
    · unfold w_Mo_line_42 w_Mo_line_55
      refine ⟨fun q => absurd ((nI_eq (b := 76) (by omega) (by omega)).mp q) (by omega), fun _ => ⟨fun q => absurd ((nI_eq (b := 80) (by omega) (by omega)).mp q) (by omega), fun _ => h0 (fun ⟨G', w⟩ => ?_) _ _ _ _ _ _ _ _ _ _ _ _ _ _ _ _ ⟨k1, k2, k3, k4, k5, rfl, KP.rf, KP.rf, rfl, KP.rf, KP.rf, KP.rf, KP.rf⟩⟩⟩
      rcases w with ⟨_, g1, _⟩ | ⟨x, p, m, g1, g2, g3, _⟩ | ⟨x, y, g1, _⟩ | ⟨x, k, sd, g1, _⟩
      · omega
      · exact z ⟨x, p, m, g1, g2, g3⟩
      · have := g1.tag; omega
      · have := g1.tag; omega
  have n83 : t a ≠ 83 := fun w => q (congrArg nI w)
  unfold w_Mo_line_42
  refine ⟨fun q => ?_, fun q => ?_⟩
  · have h76 : t a = 76 := (nI_eq (b := 76) (by omega) (by omega)).mp q
    refine s_linkLine hT he ha hG.hS hG.hL m1 m2 hM2 (fun x y w1 w2 w3 u v w lk' fa' ta' k0 k1 k2 k3 => ⟨fun q => absurd q (by decide), fun _ => ?_⟩) (fun z u v w => ⟨fun _ => ?_, fun q => absurd rfl q⟩)
    · unfold w_Mo_line_68
      exact h1 (G.lnk x y) (Or.inr (Or.inr (Or.inl ⟨x, y, w1, w2, w3, rfl⟩))) _ _ _ _ _ _ _ _ _ _ _ _ _ _ _ _ ⟨hM1, k0, hM3⟩ ⟨rfl, KP.rf, KP.rf, KP.rf, KP.rf, k1, k2, k3, rfl, KP.rf, KP.rf, KP.rf, KP.rf⟩
    · unfold w_Mo_line_55
      refine ⟨fun q => absurd ((nI_eq (b := 80) (by omega) (by omega)).mp q) (by omega), fun _ => h0 (fun ⟨G', w⟩ => ?_) _ _ _ _ _ _ _ _ _ _ _ _ _ _ _ _ KH.rf⟩
      rcases w with ⟨_, g1, _⟩ | ⟨x, p, m, g1, g2, g3, _⟩ | ⟨x, y, g1, g2, g3, _⟩ | ⟨x, k, sd, g1, _⟩
      · omega
      · have := g1.tag; omega
      · exact z ⟨x, y, g1, g2, g3⟩
      · have := g1.tag; omega
  have n76 : t a ≠ 76 := fun w => q (congrArg nI w)
  unfold w_Mo_line_55
  refine ⟨fun q => ?_, fun q => h0 (fun ⟨G', w⟩ => ?_) _ _ _ _ _ _ _ _ _ _ _ _ _ _ _ _ KH.rf⟩
  · have h80 : t a = 80 := (nI_eq (b := 80) (by omega) (by omega)).mp q
    refine s_pathLine hT he ha hG.hS hG.hL hG.hP (fun p hp => (hG.hsn p hp).2) m1 m2 hM2 hM3 (fun x k sd w1 w2 w3 u v w pa' ti' ts' sc' st' k0 k1 k2 k3 k4 k5 => ⟨fun q => absurd q (by decide), fun _ => ?_⟩) (fun z u v w pa' ti' ts' sc' st' k1 k2 k3 k4 k5 => ⟨fun _ => h0 (fun ⟨G', w⟩ => ?_) _ _ _ _ _ _ _ _ _ _ _ _ _ _ _ _ ⟨rfl, KP.rf, KP.rf, KP.rf, KP.rf, rfl, KP.rf, KP.rf, k1, k2, k3, k4, k5⟩, fun q => absurd rfl q⟩)
    · unfold w_Mo_line_68
      exact h1 (G.pth x k sd) (Or.inr (Or.inr (Or.inr ⟨x, k, sd, w1, w2, w3, rfl⟩))) _ _ _ _ _ _ _ _ _ _ _ _ _ _ _ _ ⟨hM1, hM2, k0.cut⟩ ⟨rfl, KP.rf, KP.rf, KP.rf, KP.rf, rfl, KP.rf, KP.rf, k1, k2, k3, k4, k5⟩
    · rcases w with ⟨_, g1, _⟩ | ⟨x, p, m, g1, g2, g3, _⟩ | ⟨x, y, g1, g2, g3, _⟩ | ⟨x, k, sd, g1, g2, g3, _⟩
      · omega
      · have := g1.tag; omega
      · have := g1.tag; omega
      · exact z ⟨x, k, sd, g1, g2, g3⟩
  · have n80 : t a ≠ 80 := fun w => q (congrArg nI w)
    rcases w with ⟨g0, g1, _⟩ | ⟨x, p, m, g1, _⟩ | ⟨x, y, g1, _⟩ | ⟨x, k, sd, g1, _⟩
    · exact n72 g1
    · exact n83 g1.tag
    · exact n76 g1.tag
    · exact n80 g1.tag
