/-! a line, and the lines, in the class -/
def XG (G : GD) (aN aS aB aP aF aQ aC aT : Nat → Int32) : Prop := XS G.S G.nm G.ln G.bs aN aS aB aP ∧ FX aF G.fr G.to G.Lk ∧ XP G.S G.P G.pn G.sn G.sp aQ aC aT
theorem XP.mono {S S' P : Nat} {pn sn : Nat → Nat} {sp : Nat → Nat → Nat} {aQ aC aT : Nat → Int32} (h : XP S P pn sn sp aQ aC aT) (hS : S ≤ S') : XP S' P pn sn sp aQ aC aT := fun p hp => by
  obtain ⟨h1, h2, h3, h4, h5⟩ := h p hp
  exact ⟨h1, h2, h3, h4, fun j hj => ⟨(h5 j hj).1, by have := (h5 j hj).2; omega⟩⟩
theorem XP.cut {S P x k : Nat} {pn sn : Nat → Nat} {sp : Nat → Nat → Nat} {sd : Nat → Nat} {aQ aC aT : Nat → Int32} (h : XP S (P + 1) (fu pn P x) (fu sn P (k + 1)) (fu2 sp P sd) aQ aC aT) : XP S (P + 1) (fu pn P x) (fu sn P (k + 1)) (fu2 sp P (cut k sd)) aQ aC aT := fun p hp => by
  obtain ⟨h1, h2, h3, h4, h5⟩ := h p hp
  refine ⟨h1, h2, h3, h4, fun j hj => ?_⟩
  have h6 := h5 j hj
  by_cases e1 : p = P
  · subst e1
    rw [fu_s] at hj
    rw [fu2_s] at h6 ⊢
    rw [cut_le (by omega)]
    exact h6
  · rw [fu2_n e1] at h6 ⊢
    exact h6
theorem s_takeLine {Q : Int32 → (Int32 × Int32 × Int32 × Int32 × Int32 × (Nat → Int32) × (Nat → Int32) × (Nat → Int32) × (Nat → Int32) × (Nat → Int32) × (Nat → Int32) × (Nat → Int32) × (Nat → Int32)) → Prop} {f : Nat → Int32} {t : Nat → Nat} {n a e : Nat} {G : GD} {aN aS aB aP aF aQ aC aT : Nat → Int32} (hT : Tx f t n) (hE : LE t n a e) (hG : G.ok) (hX : XG G aN aS aB aP aF aQ aC aT)
    (h1 : ∀ G', LineP t e a G G' → e < n → ∀ aN' aS' aB' aP' aF' aQ' aC' aT', XG G' aN' aS' aB' aP' aF' aQ' aC' aT' → Q 1 (nI (e + 1), nI G'.S, nI G'.Lk, nI G'.P, nI (st0 G'.ln G'.S), aN', aS', aB', aP', aF', aQ', aC', aT'))
    (h0 : ¬ (∃ G', LineP t e a G G' ∧ e < n) → ∀ v, Q 0 v) : wp_X_takeLine Q (nI n) (nI a) f (nI G.S) (nI G.Lk) (nI G.P) (nI (st0 G.ln G.S)) aN aS aB aP aF aQ aC aT := by
  have hn := hT.1
  have e2 := hE.2.1
  obtain ⟨hX1, hX2, hX3⟩ := hX
  have hN : ∀ j, j < G.S → aN j = nI (G.nm j) := fun j hj => (hX1 j hj).2.1
  unfold wp_X_takeLine
  refine s_takes (k := 72) hT hE (by omega) (by omega) (by omega) (fun z1 z2 => ⟨fun q => absurd q (by decide), fun _ => ?_⟩) (fun zH => ⟨fun _ => ?_, fun q => absurd rfl q⟩)
  · exact s_rest hT (fun w => ⟨rfl, h1 G (Or.inl ⟨z1, z2, rfl⟩) w _ _ _ _ _ _ _ _ ⟨hX1, hX2, hX3⟩⟩) (fun w => ⟨rfl, h0 (fun ⟨_, _, w'⟩ => w w') _⟩) (e - (a + 1)) (a + 1) (by omega) (hE.mv (by omega) (by omega))
  refine s_takes (k := 83) hT hE (by omega) (by omega) (by omega) (fun z1 z2 => ⟨fun q => absurd q (by decide), fun _ => ?_⟩) (fun zS => ⟨fun _ => ?_, fun q => absurd rfl q⟩)
  · refine s_takeSegment hT hE z1 z2 hG.hS hG.hN hX1 (fun x p m w1 w2 w3 w4 w5 w6 aN' aS' aB' aP' w7 => ⟨rfl, h1 (G.seg x m (fun i => t (p + i))) (Or.inr (Or.inl ⟨x, p, m, w1, w3, w4, rfl⟩)) w2 _ _ _ _ _ _ _ _ ⟨w7, hX2, hX3.mono (by show G.S ≤ G.S + 1; omega)⟩⟩) (fun w v => ⟨rfl, h0 (fun ⟨G', w1, w2⟩ => ?_) _⟩)
    rcases w1 with ⟨_, g1, _⟩ | ⟨x, p, m, g1, g2, g3, _⟩ | ⟨x, y, g1, _⟩ | ⟨x, k, sd, g1, _⟩
    · omega
    · exact w ⟨x, p, m, g1, w2, g2, g3⟩
    · have := g1.tag; omega
    · have := g1.tag; omega
  refine s_takes (k := 76) hT hE (by omega) (by omega) (by omega) (fun z1 z2 => ⟨fun q => absurd q (by decide), fun _ => ?_⟩) (fun zL => ⟨fun _ => ?_, fun q => absurd rfl q⟩)
  · refine s_takeLink hT hE z1 z2 hG.hS hG.hL hN hG.hN hX2 (fun x y w1 w2 w3 w4 aF' w5 => ⟨rfl, h1 (G.lnk x y) (Or.inr (Or.inr (Or.inl ⟨x, y, w1, w3, w4, rfl⟩))) w2 _ _ _ _ _ _ _ _ ⟨hX1, w5, hX3⟩⟩) (fun w v => ⟨rfl, h0 (fun ⟨G', w1, w2⟩ => ?_) _⟩)
    rcases w1 with ⟨_, g1, _⟩ | ⟨x, p, m, g1, g2, g3, _⟩ | ⟨x, y, g1, g2, g3, _⟩ | ⟨x, k, sd, g1, _⟩
    · omega
    · have := g1.tag; omega
    · exact w ⟨x, y, g1, w2, g2, g3⟩
    · have := g1.tag; omega
  refine s_takes (k := 80) hT hE (by omega) (by omega) (by omega) (fun z1 z2 => ⟨fun q => absurd q (by decide), fun _ => ?_⟩) (fun zP => ⟨fun _ => h0 (fun ⟨G', w1, w2⟩ => ?_) _, fun q => absurd rfl q⟩)
  · refine s_takePath hT hE z1 z2 hG.hS hG.hP hN hG.hN hX2 hX3 (fun x k sd w1 w2 w3 w4 aQ' aC' aT' w5 => ⟨fun q => absurd q (by decide), fun _ => h1 (G.pth x k sd) (Or.inr (Or.inr (Or.inr ⟨x, k, sd, w1, w3, w4, rfl⟩))) w2 _ _ _ _ _ _ _ _ ⟨hX1, hX2, w5.cut⟩⟩) (fun w v => ⟨fun _ => h0 (fun ⟨G', w1, w2⟩ => ?_) _, fun q => absurd rfl q⟩)
    rcases w1 with ⟨_, g1, _⟩ | ⟨x, p, m, g1, g2, g3, _⟩ | ⟨x, y, g1, g2, g3, _⟩ | ⟨x, k, sd, g1, g2, g3, _⟩
    · omega
    · have := g1.tag; omega
    · have := g1.tag; omega
    · exact w ⟨x, k, sd, g1, w2, g2, g3⟩
  · rcases w1 with ⟨g0, g1, _⟩ | ⟨x, p, m, g1, _⟩ | ⟨x, y, g1, _⟩ | ⟨x, k, sd, g1, _⟩
    · exact zH ⟨g0, g1⟩
    · obtain ⟨b, y1, y2, _⟩ := g1; exact zS ⟨y1, y2⟩
    · obtain ⟨_, _, y1, y2, _⟩ := g1; exact zL ⟨y1, y2⟩
    · obtain ⟨b, y1, y2, _⟩ := g1; exact zP ⟨y1, y2⟩
def G0 : GD := (0, fun _ => 0, fun _ => 0, fun _ _ => 0, 0, fun _ => 0, fun _ => 0, 0, fun _ => 0, fun _ => 0, fun _ _ => 0)
theorem G0_ok : G0.ok := ⟨Nat.zero_le _, fun j hj => absurd hj (Nat.not_lt_zero _), Nat.zero_le _, Nat.zero_le _, fun j hj => absurd hj (Nat.not_lt_zero _), fun j hj => absurd hj (Nat.not_lt_zero _), fun j hj => absurd hj (Nat.not_lt_zero _), fun j hj => absurd hj (Nat.not_lt_zero _), fun j hj => absurd hj (Nat.not_lt_zero _), fun j hj => absurd hj (Nat.not_lt_zero _)⟩
theorem Rd.good {t : Nat → Nat} {n a e k : Nat} {G G' : GD} {r : Option GD} (h1 : a < n) (h2 : LE t n a e) (h3 : LineP t e a G G') (h4 : e < n) (h5 : Rd t n k (e + 1) G' r) : Rd t n (k + 1) a G r := ⟨h1, e, h2, Or.inr ⟨G', h3, h4, h5⟩⟩
theorem s_firstBadLine {Q : Int32 → (Int32 × Int32 × Int32 × Int32 × Int32 × (Nat → Int32) × (Nat → Int32) × (Nat → Int32) × (Nat → Int32) × (Nat → Int32) × (Nat → Int32) × (Nat → Int32) × (Nat → Int32)) → Prop} {f : Nat → Int32} {t : Nat → Nat} {n : Nat} {at0 : Int32} {aN aS aB aP aF aQ aC aT : Nat → Int32} (hT : Tx f t n) (hX : XG G0 aN aS aB aP aF aQ aC aT)
    (h1 : ∀ G' k, Rd t n k 0 G0 (some G') → G'.ok → ∀ (a : Int32) aN' aS' aB' aP' aF' aQ' aC' aT', XG G' aN' aS' aB' aP' aF' aQ' aC' aT' → Q 0 (a, nI G'.S, nI G'.Lk, nI G'.P, nI (st0 G'.ln G'.S), aN', aS', aB', aP', aF', aQ', aC', aT'))
    (h0 : ∀ k, 1 ≤ k → k ≤ n → Rd t n k 0 G0 none → ∀ v, Q (nI k) v) : wp_X_firstBadLine Q (nI n) at0 f 0 0 0 0 aN aS aB aP aF aQ aC aT := by
  have hn := hT.1
  have L : ∀ (m a l : Nat) (G : GD) (aN aS aB aP aF aQ aC aT : Nat → Int32), n - a < m → a ≤ n → l ≤ a → G.ok → XG G aN aS aB aP aF aQ aC aT → (∀ k r, Rd t n k a G r → Rd t n (k + l) 0 G0 r) → w_X_firstBadLine_7 Q (nI n) f m (nI (l + 1)) (nI a) (nI G.S) (nI G.Lk) (nI G.P) (nI (st0 G.ln G.S)) aN aS aB aP aF aQ aC aT := by
    intro m
    induction m with
    | zero => intro a l G aN aS aB aP aF aQ aC aT h; omega
    | succ m ih =>
      intro a l G aN aS aB aP aF aQ aC aT hm ha hl hG hX hacc
      show w_X_firstBadLine_7B Q _ (nI n) f _ _ _ _ _ _ _ _ _ _ _ _ _ _
      unfold w_X_firstBadLine_7B
      have fin : a = n → Q 0 (nI a, nI G.S, nI G.Lk, nI G.P, nI (st0 G.ln G.S), aN, aS, aB, aP, aF, aQ, aC, aT) := fun w => h1 G (0 + l) (hacc 0 (some G) ⟨by omega, rfl⟩) hG _ _ _ _ _ _ _ _ _ hX
      refine ⟨fun q => fin ?_, fun _ => ⟨fun q => fin ?_, fun q => ?_⟩⟩
      · have := (nI_ltI (by omega) (by omega)).mp q
        omega
      · have := (nI_leI (by omega) (by omega)).mp q
        omega
      have ha' : a < n := by
        rcases Nat.lt_or_ge a n with w | w
        · exact w
        · exact absurd (nI_le (by omega) (by omega)) q
      obtain ⟨e, hE⟩ := LE.ex (t := t) (n := n) (n - a) a (by omega)
      have hae := hE.1
      refine s_takeLine hT hE hG hX (fun G' w1 w2 aN' aS' aB' aP' aF' aQ' aC' aT' w3 => ⟨fun q => absurd q (by decide), fun _ => ?_⟩) (fun w v => ⟨fun _ => ?_, fun q => absurd rfl q⟩)
      · simp only [forall_eq]
        rw [nI_1]
        exact ih (e + 1) (l + 1) G' _ _ _ _ _ _ _ _ (by omega) (by omega) (by omega) (w1.ok hG) w3 (fun k r hr => by rw [show k + (l + 1) = k + 1 + l by omega]; exact hacc _ _ (Rd.good ha' hE w1 w2 hr))
      · have := hacc 1 none ⟨ha', e, hE, Or.inl ⟨rfl, rfl, w⟩⟩
        rw [Nat.add_comm] at this
        exact h0 (l + 1) (by omega) (by omega) this _
  exact ⟨n + 1, L (n + 1) 0 0 G0 _ _ _ _ _ _ _ _ (by omega) (by omega) (by omega) G0_ok hX (fun k r h => h)⟩
