/-! a line 'P' in the reference -/
def MP (pa ti ts sc st : Nat → Int32) (P : Nat) (pn sn : Nat → Nat) (sp : Nat → Nat → Nat) : Prop := pa 1 = nI P ∧ MN ti ts 4 12 P pn ∧ ∀ p, p < P → sc (4 + p) = nI (sn p) ∧ ∀ j, j < sn p → st (32 + 8 * p + j) = nI (sp p j)
theorem s_pathLine {Q : Int32 → (Int32 × Int32 × Int32 × (Nat → Int32) × (Nat → Int32) × (Nat → Int32) × (Nat → Int32) × (Nat → Int32)) → Prop} {f : Nat → Int32} {t : Nat → Nat} {n a e S Lk P : Nat} {bg mn : Int32} {sg names sz lk fa ta pa ti ts sc st : Nat → Int32} {nm fr to pn sn : Nat → Nat} {sp : Nat → Nat → Nat} (hT : Tx f t n) (he : e ≤ n) (ha : a ≤ e) (hS : S ≤ 8) (hL : Lk ≤ 12) (hP : P ≤ 4) (hsn : ∀ p, p < P → sn p ≤ 8) (hsg : sg 1 = nI S) (hMN : MN names sz 8 24 S nm) (hML : ML lk fa ta 1 fr to Lk S) (hM : MP pa ti ts sc st P pn sn sp)
    (h1 : ∀ x k sd, PthP t e S nm (LinkP fr to Lk) a x k sd → P < 4 → (∀ r, ¬ Fst pn P x r) → ∀ (u v w : Int32) (pa' ti' ts' sc' st' : Nat → Int32), MP pa' ti' ts' sc' st' (P + 1) (fu pn P x) (fu sn P (k + 1)) (fu2 sp P sd) → pa' 0 = pa 0 → KP 12 ti ti' → KP 4 ts ts' → KP 4 sc sc' → KP 32 st st' → Q 1 (u, v, w, pa', ti', ts', sc', st'))
    (h0 : ¬ (∃ x k sd, PthP t e S nm (LinkP fr to Lk) a x k sd ∧ P < 4 ∧ ∀ r, ¬ Fst pn P x r) → ∀ (u v w : Int32) (pa' ti' ts' sc' st' : Nat → Int32), pa' 0 = pa 0 → KP 12 ti ti' → KP 4 ts ts' → KP 4 sc sc' → KP 32 st st' → Q 0 (u, v, w, pa', ti', ts', sc', st')) : wp_Mo_pathLine Q (nI a) (nI e) bg mn f sg names sz lk fa ta pa ti ts sc st := by
  have hn := hT.1
  obtain ⟨hM1, hM2, hM3⟩ := hM
  unfold wp_Mo_pathLine
  refine s_Mo_eat (k := 80) hT he ha (by omega) (fun z1 z2 => ⟨fun q => absurd q (by decide), fun _ => ?_⟩) (fun z => ⟨fun _ => h0 (fun ⟨x, k, sd, ⟨b, y1, y2, y3⟩, _⟩ => z ⟨y1, y2⟩) _ _ _ _ _ _ _ _ rfl KP.rf KP.rf KP.rf KP.rf, fun q => absurd rfl q⟩)
  refine s_Mo_eat (k := 9) hT he (by omega) (by omega) (fun z3 z4 => ⟨fun q => absurd q (by decide), fun _ => ?_⟩) (fun z => ⟨fun _ => h0 (fun ⟨x, k, sd, ⟨b, y1, y2, y3, y4, _⟩, _⟩ => z ⟨y3, y4⟩) _ _ _ _ _ _ _ _ rfl KP.rf KP.rf KP.rf KP.rf, fun q => absurd rfl q⟩)
  obtain ⟨b, hR⟩ := run_ex isN t e (e - (a + 2)) (a + 2) (by omega)
  have hR' := hR
  obtain ⟨r1, r2, r3, r4⟩ := hR'
  refine s_Mo_eatName (a := a + 2) hT he hR (fun hk => ⟨fun q => absurd q (by decide), fun _ => ?_⟩) (fun hk => ⟨fun _ => h0 (fun ⟨x, k, sd, ⟨b', y1, y2, y3, y4, y5, y6, y7, _⟩, _⟩ => hk (by rw [hR.uniq y5]; exact ⟨y6, y7⟩)) _ _ _ _ _ _ _ _ rfl KP.rf KP.rf KP.rf KP.rf, fun q => absurd rfl q⟩)
  have hcd : ∀ i, i < b - (a + 2) → 1 ≤ t (a + 2 + i) ∧ t (a + 2 + i) < 128 := fun i hi => by have := isN_range (r3 (a + 2 + i) (by omega) (by omega)); omega
  refine s_Mo_titled hT (by omega) hk hP hM1 hM2 (fun r p1 p2 p3 => ⟨fun q => absurd q (by decide), fun _ => ?_⟩) (fun hno => ⟨fun _ => ?_, fun q => absurd rfl q⟩)
  · refine h0 (fun ⟨x, k, sd, ⟨b', y1, y2, y3, y4, y5, y6, y7, y8, _⟩, y10, y11⟩ => ?_) _ _ _ _ _ _ _ _ rfl KP.rf KP.rf KP.rf KP.rf
    rw [← hR.uniq y5] at y8
    exact y11 r ⟨p1, by rw [y8]; exact p2, by rw [y8]; exact p3⟩
  refine ⟨vp_in_nI (n := 1) (by omega) (by omega), ?_⟩
  simp only [forall_eq]
  rw [show (1 : Int32).toNatClampNeg = 1 by decide, hM1]
  refine ⟨fun q => ?_, fun q => ⟨vp_in_nI (n := 1) (by omega) (by omega), ?_⟩⟩
  · have : P = 4 := (nI_eq (b := 4) (by omega) (by omega)).mp q
    exact h0 (fun ⟨x, k, sd, _, y10, y11⟩ => by omega) _ _ _ _ _ _ _ _ rfl KP.rf KP.rf KP.rf KP.rf
  have hP4 : P < 4 := by
    rcases Nat.lt_or_ge P 4 with w | w
    · exact w
    · exact absurd (congrArg nI (show P = 4 by omega)) q
  have hnoF : ∀ r, ¬ Fst pn P (pck (fun i => t (a + 2 + i)) (b - (a + 2))) r := fun r z => hno r z.1 z.2.1
  have none : (∀ k' sd', ¬ Fin t e S nm (LinkP fr to Lk) (b + 1) k' sd') → ¬ (∃ x k sd, PthP t e S nm (LinkP fr to Lk) a x k sd ∧ P < 4 ∧ ∀ r, ¬ Fst pn P x r) := fun z ⟨x, k', sd, ⟨b', y1, y2, y3, y4, y5, y6, y7, y8, y9, y10, y11⟩, _⟩ => by
    have := hR.uniq y5
    subst this
    exact z k' sd y11
  -- the steps
  have L2 : ∀ (tt : Nat → Int32), KP (12 + 3 * P) ti tt → (∀ j, j < b - (a + 2) → tt (12 + 3 * P + j) = nI (t (a + 2 + j))) → b < e → t b = 9 → ∀ (j i c : Nat) (sd : Nat → Nat) (T : Nat → Int32), i + j = 8 → Pre t e S nm (LinkP fr to Lk) (b + 1) i sd c → KP (32 + 8 * P) st T → (∀ q, q < i → T (32 + 8 * P + q) = nI (sd q) ∧ sd q < 2 * S) → ∃ u, ∀ v w : Int32, w_Mo_pathLine_120 Q (nI e) f sg names sz lk fa ta u 9 (nI P) (nI i) 1 (nI c) v w pa tt (upd ts (4 + P) (nI (b - (a + 2)))) sc T := by
    intro tt ht1 ht2 hb1 hb2 j
    induction j with
    | zero =>
      intro i c sd T hi hpre hT1 hT2
      have hpos := hpre.pos (by omega)
      have bad : ∀ u v' w', Q 0 (u, v', w', pa, tt, upd ts (4 + P) (nI (b - (a + 2))), sc, T) := fun u v' w' => h0 (none (fun k' sd' hF' => by
        obtain ⟨a1, -, -, w1, w2, -⟩ := hF'.at hpre
        omega)) _ _ _ _ _ _ _ _ rfl (ht1.le (by omega)) (KP.rf.up (by omega)) KP.rf (hT1.le (by omega))
      refine ⟨1, fun v w => ?_⟩
      show w_Mo_pathLine_120B Q _ (nI e) f sg names sz lk fa ta _ _ _ _ _ _ _ _ _ _ _ _
      unfold w_Mo_pathLine_120B
      refine ⟨fun q => absurd q (by decide), fun _ => ?_⟩
      refine s_namedSide (tb := 0) hT he (by omega) (Or.inl rfl) hS hsg hMN (fun x a1 _ _ hx => ⟨fun _ => bad _ _ _, fun _ => ⟨fun _ => bad _ _ _, fun q => absurd (congrArg nI (show i = 8 by omega)) q⟩⟩) (fun hno a' _ _ q1 q2 => ⟨fun _ => bad _ _ _, fun q => absurd (by decide) q⟩)
    | succ j ih =>
      intro i c sd T hi hpre hT1 hT2
      have hpos := hpre.pos (by omega)
      have bad : (∀ k' sd', ¬ Fin t e S nm (LinkP fr to Lk) (b + 1) k' sd') → ∀ u v' w', Q 0 (u, v', w', pa, tt, upd ts (4 + P) (nI (b - (a + 2))), sc, T) := fun z u v' w' => h0 (none z) _ _ _ _ _ _ _ _ rfl (ht1.le (by omega)) (KP.rf.up (by omega)) KP.rf (hT1.le (by omega))
      by_cases hs : ∃ x a1, SideP t e S nm 0 c x a1
      · obtain ⟨x, a1, hs⟩ := hs
        have hsl := hs.le
        by_cases hl : 0 < i → LinkP fr to Lk (sd (i - 1)) x
        · have hpre' : ∀ j, j < i → sd j = fu sd i x j := fun j hj => (fu_n (by omega)).symm
          have hl' : 0 < i → LinkP fr to Lk (fu sd i x (i - 1)) (fu sd i x i) := fun h => by rw [fu_s, fu_n (by omega)]; exact hl h
          have hs' : SideP t e S nm 0 c (fu sd i x i) a1 := by rw [fu_s]; exact hs
          have hT1' : KP (32 + 8 * P) st (upd T (32 + 8 * P + i) (nI x)) := hT1.up (by omega)
          have hT2' : ∀ q, q < i + 1 → upd T (32 + 8 * P + i) (nI x) (32 + 8 * P + q) = nI (fu sd i x q) ∧ fu sd i x q < 2 * S := fun q hq => by
            by_cases eq : q = i
            · subst eq; rw [pk_us, fu_s]; exact ⟨rfl, hsl.2.2⟩
            · rw [pk_un (by omega), fu_n eq]; exact hT2 q (by omega)
          -- whatever stands for began and many behind the side
          have cont : ∃ u, ∀ v' w' : Int32, (a1 < e ∧ t a1 = 44 → w_Mo_pathLine_120 Q (nI e) f sg names sz lk fa ta u 9 (nI P) (nI (i + 1)) 1 (nI (a1 + 1)) v' w' pa tt (upd ts (4 + P) (nI (b - (a + 2)))) sc (upd T (32 + 8 * P + i) (nI x))) ∧ (¬ (a1 < e ∧ t a1 = 44) → w_Mo_pathLine_120 Q (nI e) f sg names sz lk fa ta u 9 (nI P) (nI (i + 1)) 0 (nI a1) v' w' pa tt (upd ts (4 + P) (nI (b - (a + 2)))) sc (upd T (32 + 8 * P + i) (nI x))) := by
            by_cases hc : a1 < e ∧ t a1 = 44
            · obtain ⟨u, hu⟩ := ih (i + 1) (a1 + 1) (fu sd i x) (upd T (32 + 8 * P + i) (nI x)) (by omega) ⟨c, a1, hpre.congr hpre', hs', hl', hc.1, hc.2, rfl⟩ hT1' hT2'
              exact ⟨u, fun v' w' => ⟨fun _ => hu v' w', fun z => absurd hc z⟩⟩
            · refine ⟨1, fun v' w' => ⟨fun z => absurd z hc, fun _ => ?_⟩⟩
              have fin9 : ∀ {k' sd'}, Fin t e S nm (LinkP fr to Lk) (b + 1) k' sd' → a1 < e ∧ t a1 = 9 ∧ a1 + 1 < e ∧ t (a1 + 1) = 42 ∧ a1 + 2 = e := fun hF' => by
                obtain ⟨a1', w0, -, w1, w2, w3, w4⟩ := hF'.at hpre
                obtain ⟨-, i2⟩ := hs.uniq w0
                subst i2
                rcases w4 with w4 | w4
                · exact absurd ⟨w3, w4.2⟩ hc
                · exact ⟨w3, w4.2⟩
              have bad' : (∀ k' sd', ¬ Fin t e S nm (LinkP fr to Lk) (b + 1) k' sd') → ∀ u v' w', Q 0 (u, v', w', pa, tt, upd ts (4 + P) (nI (b - (a + 2))), sc, upd T (32 + 8 * P + i) (nI x)) := fun z u v' w' => h0 (none z) _ _ _ _ _ _ _ _ rfl (ht1.le (by omega)) (KP.rf.up (by omega)) KP.rf (hT1'.le (by omega))
              show w_Mo_pathLine_120B Q _ (nI e) f sg names sz lk fa ta _ _ _ _ _ _ _ _ _ _ _ _
              unfold w_Mo_pathLine_120B
              refine ⟨fun _ => ?_, fun q => absurd rfl q⟩
              refine s_Mo_eat (k := 9) hT he (by omega) (by omega) (fun v1 v2 => ⟨fun q => absurd q (by decide), fun _ => ?_⟩) (fun z => ⟨fun _ => bad' (fun k' sd' hF' => z ⟨(fin9 hF').1, (fin9 hF').2.1⟩) _ _ _, fun q => absurd rfl q⟩)
              refine s_Mo_eat (k := 42) hT he (by omega) (by omega) (fun v3 v4 => ⟨fun q => absurd q (by decide), fun _ => ?_⟩) (fun z => ⟨fun _ => bad' (fun k' sd' hF' => z ⟨(fin9 hF').2.2.1, (fin9 hF').2.2.2.1⟩) _ _ _, fun q => absurd rfl q⟩)
              refine ⟨fun q => ?_, fun q => bad' (fun k' sd' hF' => q (congrArg nI (by have := (fin9 hF').2.2.2.2; omega))) _ _ _⟩
              have hend : a1 + 1 + 1 = e := (nI_eq (by omega) (by omega)).mp q
              simp only [forall_eq]
              rw [show (4 : Int32) = nI 4 from rfl, nI_add, nI_clamp (by omega), show (1 : Int32).toNatClampNeg = 1 by decide, hM1, nI_1]
              refine ⟨vp_in_nI (by omega) (by omega), vp_in_nI (n := 1) (by omega) (by omega), vp_in_nI (n := 1) (by omega) (by omega), ?_⟩
              refine h1 (pck (fun i => t (a + 2 + i)) (b - (a + 2))) i (fu sd i x) ⟨b, z1, z2, z3, z4, hR, by omega, by omega, rfl, hb1, hb2, ⟨c, a1, by omega, hpre.congr hpre', hs', hl', v1, v2, v3, v4, by omega⟩⟩ hP4 hnoF _ _ _ _ _ _ _ _ ⟨pk_us, fun p hp => ?_, fun p hp => ?_⟩ (pk_un (by omega)) (ht1.le (by omega)) (KP.rf.up (by omega)) (KP.rf.up (by omega)) (hT1'.le (by omega))
              · by_cases e1 : p = P
                · subst e1
                  exact ⟨b - (a + 2), fun i => t (a + 2 + i), by omega, by omega, pk_us, fun i hi => ⟨ht2 i hi, (hcd i hi).1, (hcd i hi).2⟩, fu_s⟩
                · obtain ⟨k1, c', q1, q2, q3, q4, q5⟩ := hM2 p (by omega)
                  exact ⟨k1, c', q1, q2, by rw [pk_un (by omega)]; exact q3, fun i hi => ⟨by rw [ht1 _ (by omega)]; exact (q4 i hi).1, (q4 i hi).2⟩, by rw [fu_n e1]; exact q5⟩
              · by_cases e1 : p = P
                · subst e1
                  rw [pk_us, fu_s, fu2_s]
                  exact ⟨rfl, fun q hq => (hT2' q hq).1⟩
                · have hs8 := hsn p (by omega)
                  rw [pk_un (by omega), fu_n e1, fu2_n e1]
                  exact ⟨(hM3 p (by omega)).1, fun q hq => by rw [hT1' _ (by omega)]; exact (hM3 p (by omega)).2 q hq⟩
          have body : ∀ (v' w' : Int32) (u : Nat), ((a1 < e ∧ t a1 = 44 → w_Mo_pathLine_120 Q (nI e) f sg names sz lk fa ta u 9 (nI P) (nI (i + 1)) 1 (nI (a1 + 1)) v' w' pa tt (upd ts (4 + P) (nI (b - (a + 2)))) sc (upd T (32 + 8 * P + i) (nI x))) ∧ (¬ (a1 < e ∧ t a1 = 44) → w_Mo_pathLine_120 Q (nI e) f sg names sz lk fa ta u 9 (nI P) (nI (i + 1)) 0 (nI a1) v' w' pa tt (upd ts (4 + P) (nI (b - (a + 2)))) sc (upd T (32 + 8 * P + i) (nI x)))) → w_Mo_pathLine_175 Q (w_Mo_pathLine_120 Q (nI e) f sg names sz lk fa ta u) (nI e) f sg names sz lk fa ta 9 (nI P) (nI i) (nI x) (nI a1) v' w' pa tt (upd ts (4 + P) (nI (b - (a + 2)))) sc T := by
            intro v' w' u hu
            unfold w_Mo_pathLine_175
            simp only [forall_eq]
            rw [show (32 : Int32) = nI 32 from rfl, show (8 : Int32) = nI 8 from rfl, pk_mul, nI_add, nI_add, nI_clamp (by omega), nI_1]
            refine ⟨vp_in_nI (by omega) (by omega), ?_⟩
            exact s_Mo_eat (k := 44) hT he (by omega) (by omega) (fun v1 v2 => hu.1 ⟨v1, v2⟩) (fun z => hu.2 z)
          obtain ⟨u, hu⟩ := cont
          refine ⟨u + 1, fun v w => ?_⟩
          show w_Mo_pathLine_120B Q _ (nI e) f sg names sz lk fa ta _ _ _ _ _ _ _ _ _ _ _ _
          unfold w_Mo_pathLine_120B
          refine ⟨fun q => absurd q (by decide), fun _ => ?_⟩
          refine s_namedSide (tb := 0) hT he (by omega) (Or.inl rfl) hS hsg hMN (fun x' a1' v' w' hx => ⟨fun q => absurd q (Int32.not_lt.mpr (nI_pos' (n := x') (by have := hx.le; omega))), fun _ => ⟨fun q => ?_, fun _ => ?_⟩⟩) (fun hno a' _ _ q1 q2 => absurd hs (hno _ _))
          · have : i = 8 := (nI_eq (b := 8) (by omega) (by omega)).mp q
            omega
          · obtain ⟨rfl, rfl⟩ := hx.uniq hs
            refine ⟨fun _ => body v' w' u (hu v' w'), fun q => ?_⟩
            have hi0 : 0 < i := by
              rcases Nat.eq_zero_or_pos i with z | z
              · subst z; exact absurd (by decide) q
              · exact z
            simp only [forall_eq]
            rw [show (32 : Int32) = nI 32 from rfl, show (8 : Int32) = nI 8 from rfl, pk_mul, nI_add, nI_add, show (1 : Int32) = nI 1 from rfl, pk_sub (by omega), nI_clamp (by omega), show 32 + 8 * P + i - 1 = 32 + 8 * P + (i - 1) by omega, (hT2 (i - 1) (by omega)).1]
            have hq := (hT2 (i - 1) (by omega)).2
            refine ⟨vp_in_nI (by omega) (by omega), ?_⟩
            exact s_linked (g := 1) (by omega) hL hS hML (by omega) (by omega) (fun _ => ⟨fun q => absurd q (by decide), fun _ => body v' w' u (hu v' w')⟩) (fun z => absurd (hl hi0) z)
        · have hi0 : 0 < i := by
            rcases Nat.eq_zero_or_pos i with z | z
            · exact absurd (fun w => by omega) hl
            · exact z
          have hl0 : ¬ LinkP fr to Lk (sd (i - 1)) x := fun z => hl (fun _ => z)
          refine ⟨1, fun v w => ?_⟩
          have bad1 := bad (fun k' sd' hF' => by
            obtain ⟨a1', w0, w1, -⟩ := hF'.at hpre
            obtain ⟨i1, -⟩ := hs.uniq w0
            exact hl0 (by rw [i1]; exact w1 hi0))
          show w_Mo_pathLine_120B Q _ (nI e) f sg names sz lk fa ta _ _ _ _ _ _ _ _ _ _ _ _
          unfold w_Mo_pathLine_120B
          refine ⟨fun q => absurd q (by decide), fun _ => ?_⟩
          refine s_namedSide (tb := 0) hT he (by omega) (Or.inl rfl) hS hsg hMN (fun x' a1' v' w' hx => ⟨fun q => bad1 _ _ _, fun _ => ⟨fun q => bad1 _ _ _, fun _ => ?_⟩⟩) (fun hno a' _ _ q1 q2 => absurd hs (hno _ _))
          obtain ⟨rfl, rfl⟩ := hx.uniq hs
          refine ⟨fun q => ?_, fun q => ?_⟩
          · rw [show (0 : Int32) = nI 0 from rfl] at q
            exact absurd ((nI_leI (by omega) (by omega)).mp q) (by omega)
          simp only [forall_eq]
          rw [show (32 : Int32) = nI 32 from rfl, show (8 : Int32) = nI 8 from rfl, pk_mul, nI_add, nI_add, show (1 : Int32) = nI 1 from rfl, pk_sub (by omega), nI_clamp (by omega), show 32 + 8 * P + i - 1 = 32 + 8 * P + (i - 1) by omega, (hT2 (i - 1) (by omega)).1]
          have hq := (hT2 (i - 1) (by omega)).2
          refine ⟨vp_in_nI (by omega) (by omega), ?_⟩
          exact s_linked (g := 1) (by omega) hL hS hML (by omega) (by omega) (fun z => absurd z hl0) (fun _ => ⟨fun _ => bad1 _ _ _, fun q => absurd rfl q⟩)
      · refine ⟨1, fun v w => ?_⟩
        show w_Mo_pathLine_120B Q _ (nI e) f sg names sz lk fa ta _ _ _ _ _ _ _ _ _ _ _ _
        unfold w_Mo_pathLine_120B
        refine ⟨fun q => absurd q (by decide), fun _ => ?_⟩
        refine s_namedSide (tb := 0) hT he (by omega) (Or.inl rfl) hS hsg hMN (fun x a1 _ _ hx => absurd ⟨x, a1, hx⟩ hs) (fun hno a' _ _ q1 q2 => ⟨fun _ => bad (fun k' sd' hF' => ?_) _ _ _, fun q => absurd (by decide) q⟩)
        obtain ⟨a1', w0, -⟩ := hF'.at hpre
        exact hs ⟨_, _, w0⟩
  have L1 : ∀ (j k : Nat) (tt : Nat → Int32), k + j = b - (a + 2) → KP (12 + 3 * P) ti tt → (∀ i, i < k → tt (12 + 3 * P + i) = nI (t (a + 2 + i))) → ∃ u, w_Mo_pathLine_55 Q (nI e) f sg names sz lk fa ta u 9 (nI P) (nI k) (nI b) (nI (a + 2)) (nI (b - (a + 2))) pa tt ts sc st := by
    intro j
    induction j with
    | zero =>
      intro k tt hk' ht1 ht2
      refine ⟨1, ?_⟩
      show w_Mo_pathLine_55B Q _ (nI e) f sg names sz lk fa ta _ _ _ _ _ _ _ _ _ _ _
      unfold w_Mo_pathLine_55B
      refine ⟨fun _ => ?_, fun q => absurd (nI_le (by omega) (by omega)) q⟩
      simp only [forall_eq]
      rw [show (4 : Int32) = nI 4 from rfl, nI_add, nI_clamp (by omega)]
      refine ⟨vp_in_nI (by omega) (by omega), ?_⟩
      refine s_Mo_eat (k := 9) hT he (by omega) (by omega) (fun v1 v2 => ⟨fun q => absurd q (by decide), fun _ => ?_⟩) (fun z => ⟨fun _ => h0 (fun ⟨x, k, sd, ⟨b', y1, y2, y3, y4, y5, y6, y7, y8, y9, y10, _⟩, _⟩ => z (by rw [hR.uniq y5]; exact ⟨y9, y10⟩)) _ _ _ _ _ _ _ _ rfl (ht1.le (by omega)) (KP.rf.up (by omega)) KP.rf KP.rf, fun q => absurd rfl q⟩)
      obtain ⟨u, hu⟩ := L2 tt ht1 (fun j hj => ht2 j (by omega)) v1 v2 8 0 (b + 1) (fun _ => 0) st (by omega) rfl KP.rf (fun q hq => absurd hq (by omega))
      exact ⟨u, hu _ _⟩
    | succ j ih =>
      intro k tt hk' ht1 ht2
      have ht := hT.2 (a + 2 + k) (by omega)
      obtain ⟨u, hu⟩ := ih (k + 1) (upd tt (12 + 3 * P + k) (nI (t (a + 2 + k)))) (by omega) (ht1.up (by omega)) (fun i hi => by
        by_cases e1 : i = k
        · subst e1; exact pk_us
        · rw [pk_un (by omega)]; exact ht2 i (by omega))
      refine ⟨u + 1, ?_⟩
      show w_Mo_pathLine_55B Q _ (nI e) f sg names sz lk fa ta _ _ _ _ _ _ _ _ _ _ _
      unfold w_Mo_pathLine_55B
      refine ⟨fun q => absurd ((nI_leI (by omega) (by omega)).mp q) (by omega), fun _ => ?_⟩
      simp only [forall_eq]
      rw [show (12 : Int32) = nI 12 from rfl, show (3 : Int32) = nI 3 from rfl, pk_mul, nI_add, nI_add, nI_add, nI_clamp (by omega), nI_clamp (by omega), ht.1, nar_c (by omega), nI_1]
      exact ⟨vp_in_nI (by omega) (by omega), vp_in_nI (by omega) (by omega), hu⟩
  exact L1 (b - (a + 2)) 0 ti (by omega) KP.rf (fun i hi => absurd hi (by omega))
