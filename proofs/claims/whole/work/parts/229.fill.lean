/-! the class fills its table -/
def WkT (G : GD) (rd P : Nat → Nat) (i : Nat) (T : Nat → Nat) : Prop := ∀ v, v < G.N → (Bc G rd P i v (T v) ∨ ∃ u, Fo G u v ∧ T u + 1 ≤ T v) ∧ ∀ d, Bc G rd P i v d → T v ≤ d
theorem WkT.le {G : GD} {rd P T : Nat → Nat} {i v : Nat} (h : WkT G rd P i T) (hv : v < G.N) : T v ≤ i + 1 := by
  rcases Nat.eq_zero_or_pos i with w | w
  · have := (h v hv).2 1 (Or.inl ⟨w, rfl⟩)
    omega
  · have := (h v hv).2 _ (Or.inr ⟨w, Or.inl rfl⟩)
    have := mm_le (G := G) (rd := rd) (i := i) (v := v)
    omega
theorem WkT.fix {G : GD} {rd P T : Nat → Nat} {i : Nat} (h : WkT G rd P i T) (hF : ∀ u v, Fo G u v → T v ≤ T u + 1) : Fix G rd P i T := fun v hv => by
  refine ⟨(h v hv).2, fun u hu => hF u v hu, ?_⟩
  rcases (h v hv).1 with w | ⟨u, w1, w2⟩
  · exact Or.inl w
  · exact Or.inr ⟨u, w1, Nat.le_antisymm (hF u v w1) w2⟩
theorem WkT.low {G : GD} {rd P T : Nat → Nat} {i u v : Nat} (h : WkT G rd P i T) (hF : Fo G u v) (hlt : T u + 1 < T v) : WkT G rd P i (fu T v (T u + 1)) := fun w hw => by
  have huv : u ≠ v := fun e => by subst e; omega
  by_cases e1 : w = v
  · subst e1
    refine ⟨Or.inr ⟨u, hF, ?_⟩, fun d hd => ?_⟩
    · rw [fu_s, fu_n huv]; exact Nat.le_refl _
    · have := (h w hw).2 d hd
      rw [fu_s]; omega
  · refine ⟨?_, fun d hd => by rw [fu_n e1]; exact (h w hw).2 d hd⟩
    rcases (h w hw).1 with g | ⟨u', g1, g2⟩
    · exact Or.inl (by rw [fu_n e1]; exact g)
    · refine Or.inr ⟨u', g1, ?_⟩
      rw [fu_n e1]
      by_cases e2 : u' = v
      · subst e2; rw [fu_s]; omega
      · rw [fu_n e2]; exact g2
theorem s_deletePlaces {Q : (Nat → Int32) → Prop} {G : GD} {tb : Nat → Int32} {i c : Nat} {P T : Nat → Nat} {rd jf jt : Nat → Nat} {aJ aK : Nat → Int32} (hG : G.ok) (hJ : JS G c jf jt aJ aK) (hC : JC G c jf jt) (hc : c ≤ 72) (hi : i ≤ 12) (hW : RW G tb i T) (hT : WkT G rd P i T)
    (h : ∀ tb' T', KP (64 * i) tb tb' → RW G tb' i T' → Fix G rd P i T' → Q tb') : wp_Co_deletePlaces Q (nI i) tb (nI c) aJ aK := by
  have h64 := hG.n64
  have L : ∀ (m r lo : Nat) (T : Nat → Nat) (tb' : Nat → Int32), 64 - r < m → r ≤ 64 → lo < 2 → KP (64 * i) tb tb' → RW G tb' i T → WkT G rd P i T → (∀ u v, Fo G u v → T v ≤ T u + 1 ∨ r ≤ T u) → (lo = 0 → ∀ u v, Fo G u v → T v ≤ T u + 1) → w_Co_deletePlaces_5 Q (nI i) (nI c) aJ aK m (nI lo) (nI r) tb' := by
    intro m
    induction m with
    | zero => intro r lo T tb' h1; omega
    | succ m ih =>
      intro r lo T tb' hm hr hlo hkp hW hT ha hl0
      show w_Co_deletePlaces_5B Q _ (nI i) (nI c) aJ aK _ _ _
      unfold w_Co_deletePlaces_5B
      refine ⟨fun q => ?_, fun q => ⟨fun q2 => ?_, fun q2 => ?_⟩⟩
      · have : lo = 0 := (nI_eq (b := 0) (by omega) (by omega)).mp q
        exact h tb' T hkp hW (hT.fix (hl0 this))
      · have : 64 ≤ r := (nI_leI (a := 64) (by omega) (by omega)).mp q2
        refine h tb' T hkp hW (hT.fix (fun u v hF => ?_))
        rcases ha u v hF with w | w
        · exact w
        · have := hT.le (v := u) hF.lt.1
          omega
      have hr64 : r < 64 := by
        rcases Nat.lt_or_ge r 64 with w | w
        · exact w
        · exact absurd (nI_le (a := 64) w (by omega)) q2
      have L21 : ∀ (j k lo : Nat) (T : Nat → Nat) (tb' : Nat → Int32), k + j = c → lo < 2 → KP (64 * i) tb tb' → RW G tb' i T → WkT G rd P i T → (∀ u v, Fo G u v → T v ≤ T u + 1 ∨ r ≤ T u) → (∀ l, l < k → T (jt l) ≤ T (jf l) + 1 ∨ r + 1 ≤ T (jf l)) → (lo = 0 → ∀ l, l < k → T (jt l) ≤ T (jf l) + 1) → ∃ w, w_Co_deletePlaces_21 Q (w_Co_deletePlaces_5 Q (nI i) (nI c) aJ aK m) (nI i) (nI c) aJ aK w (nI lo) (nI r) (nI k) tb' := by
        intro j
        induction j with
        | zero =>
          intro k lo T tb' hk hlo hkp hW hT ha hb hl0
          refine ⟨1, ?_⟩
          show w_Co_deletePlaces_21B Q _ _ (nI i) (nI c) aJ aK _ _ _ _
          unfold w_Co_deletePlaces_21B
          simp only [forall_eq]
          rw [nI_1]
          refine ⟨fun _ => ih (r + 1) lo T tb' (by omega) (by omega) hlo hkp hW hT (fun u v hF => ?_) (fun w u v hF => ?_), fun q => absurd (nI_le (by omega) (by omega)) q⟩
          · obtain ⟨l, l1, rfl, rfl⟩ := hC u v hF
            exact hb l (by omega)
          · obtain ⟨l, l1, rfl, rfl⟩ := hC u v hF
            exact hl0 w l (by omega)
        | succ j ihj =>
          intro k lo T tb' hk hlo hkp hW hT ha hb hl0
          obtain ⟨j1, j2, j3⟩ := hJ.1 k (by omega)
          have hu : jf k < G.N := j3.lt.1
          have hv : jt k < G.N := j3.lt.2
          have hTu := hT.le hu
          have hTv := hT.le hv
          have hstep : ∃ w, (T (jf k) + 1 < T (jt k) → w_Co_deletePlaces_21 Q (w_Co_deletePlaces_5 Q (nI i) (nI c) aJ aK m) (nI i) (nI c) aJ aK w 1 (nI r) (nI (k + 1)) (upd tb' (64 * i + jt k) (nI (T (jf k) + 1)))) ∧ (T (jt k) ≤ T (jf k) + 1 → w_Co_deletePlaces_21 Q (w_Co_deletePlaces_5 Q (nI i) (nI c) aJ aK m) (nI i) (nI c) aJ aK w (nI lo) (nI r) (nI (k + 1)) tb') := by
            rcases Nat.lt_or_ge (T (jf k) + 1) (T (jt k)) with w | w
            · have hra : r ≤ T (jf k) := by
                rcases ha _ _ j3 with g | g
                · omega
                · exact g
              have huv : jf k ≠ jt k := fun e => by rw [e] at w; omega
              have any : ∀ r', r' ≤ r + 1 → ∀ u v, (T v ≤ T u + 1 ∨ r' ≤ T u) → (fu T (jt k) (T (jf k) + 1) v ≤ fu T (jt k) (T (jf k) + 1) u + 1 ∨ r' ≤ fu T (jt k) (T (jf k) + 1) u) := fun r' hr' u v g => by
                by_cases e1 : u = jt k
                · rw [e1, fu_s]; exact Or.inr (by omega)
                · rw [fu_n e1]
                  by_cases e2 : v = jt k
                  · rw [e2, fu_s]
                    rw [e2] at g
                    omega
                  · rw [fu_n e2]; exact g
              obtain ⟨z, hz⟩ := ihj (k + 1) 1 (fu T (jt k) (T (jf k) + 1)) _ (by omega) (by omega) (hkp.up (by omega)) hW.up (hT.low j3 w) (fun u v hF => any r (by omega) u v (ha u v hF)) (fun l hl => by
                by_cases e1 : l = k
                · subst e1; exact Or.inl (by rw [fu_s, fu_n huv]; exact Nat.le_refl _)
                · exact any (r + 1) (Nat.le_refl _) _ _ (hb l (by omega))) (fun w => absurd w (by omega))
              exact ⟨z, fun _ => hz, fun g => by omega⟩
            · obtain ⟨z, hz⟩ := ihj (k + 1) lo T tb' (by omega) hlo hkp hW hT ha (fun l hl => by
                by_cases e1 : l = k
                · subst e1; exact Or.inl w
                · exact hb l (by omega)) (fun g l hl => by
                by_cases e1 : l = k
                · subst e1; exact w
                · exact hl0 g l (by omega))
              exact ⟨z, fun g => by omega, fun _ => hz⟩
          obtain ⟨z, hz1, hz2⟩ := hstep
          refine ⟨z + 1, ?_⟩
          show w_Co_deletePlaces_21B Q _ _ (nI i) (nI c) aJ aK _ _ _ _
          unfold w_Co_deletePlaces_21B
          refine ⟨fun q => absurd ((nI_leI (by omega) (by omega)).mp q) (by omega), fun _ => ?_⟩
          simp only [forall_eq]
          rw [nI_clamp (by omega), j1, j2]
          refine ⟨vp_in_nI (by omega) (by omega), vp_in_nI (by omega) (by omega), ?_⟩
          refine s_Co_at hG hi hu hW ?_
          rw [nI_1]
          refine s_Co_lower hG hi hv hW (by omega) (by omega) (fun w => ⟨fun q => absurd q (by decide), fun _ => ?_⟩) (fun w => ⟨fun _ => ?_, fun q => absurd rfl q⟩)
          · unfold w_Co_deletePlaces_61
            simp only [forall_eq]
            rw [nI_1]
            exact hz1 w
          · unfold w_Co_deletePlaces_61
            simp only [forall_eq]
            rw [nI_1]
            exact hz2 w
      exact L21 c 0 0 T tb' (by omega) (by omega) hkp hW hT ha (fun l hl => absurd hl (Nat.not_lt_zero _)) (fun _ l hl => absurd hl (Nat.not_lt_zero _))
  exact ⟨65, L 65 0 1 T tb (by omega) (by omega) (by omega) KP.rf hW hT (fun u v _ => Or.inr (Nat.zero_le _)) (fun w => absurd w (by omega))⟩
def TBp (G : GD) (tb : Nat → Int32) (n : Nat) (E : Nat → Nat → Nat) : Prop := ∀ i, i ≤ n → RW G tb i (E i)
theorem s_fill {Q : (Nat → Int32) → Prop} {G : GD} {tb : Nat → Int32} {n R c : Nat} {rd jf jt : Nat → Nat} {re aN aS aB aP aJ aK : Nat → Int32} (hG : G.ok) (hX : XS G.S G.nm G.ln G.bs aN aS aB aP) (hJ : JS G c jf jt aJ aK) (hC : JC G c jf jt) (hc : c ≤ 72) (hr : RDp re rd R) (hn : n ≤ R)
    (h : ∀ tb' E, FixT G rd n E → TBp G tb' n E → Q tb') : wp_Co_fill Q (nI n) tb (nI G.N) (nI c) aB aJ aK re := by
  have h64 := hG.n64
  have h12 := hr.1
  have L : ∀ (m i : Nat) (E : Nat → Nat → Nat) (tb : Nat → Int32), n + 1 - i < m → i ≤ n + 1 → (∀ j, j < i → Fix G rd (E (j - 1)) j (E j) ∧ RW G tb j (E j)) → w_Co_fill_3 Q (nI n) (nI G.N) (nI c) aB aJ aK re m (nI i) tb := by
    intro m
    induction m with
    | zero => intro i E tb h1; omega
    | succ m ih =>
      intro i E tb hm hi hE
      show w_Co_fill_3B Q _ (nI n) (nI G.N) (nI c) aB aJ aK re _ _
      unfold w_Co_fill_3B
      refine ⟨fun q => ?_, fun q => ?_⟩
      · have := (nI_ltI (by omega) (by omega)).mp q
        exact h tb E (fun j hj => (hE j (by omega)).1) (fun j hj => (hE j (by omega)).2)
      have hin : i ≤ n := by
        rcases Nat.lt_or_ge n i with w | w
        · exact absurd (nI_lt w (by omega)) q
        · exact w
      have hP : 1 ≤ i → RW G tb (i - 1) (E (i - 1)) ∧ ∀ v, v < G.N → E (i - 1) v < 100 := fun w => ⟨(hE (i - 1) (by omega)).2, fun v hv => by
        have := ((hE (i - 1) (by omega)).1.le hv).1
        omega⟩
      have last : ∀ tb' T, KP (64 * i) tb tb' → RW G tb' i T → WkT G rd (E (i - 1)) i T → w_Co_fill_30 Q (w_Co_fill_3 Q (nI n) (nI G.N) (nI c) aB aJ aK re m) (nI n) (nI G.N) (nI c) aB aJ aK re (nI i) tb' := by
        intro tb' T k1 k2 k3
        unfold w_Co_fill_30
        refine s_deletePlaces hG hJ hC hc (by omega) k2 k3 (fun tb'' T' g1 g2 g3 => ?_)
        simp only [forall_eq]
        rw [nI_1]
        refine ih (i + 1) (fun j => if j = i then T' else E j) tb'' (by omega) (by omega) (fun j hj => ?_)
        by_cases e1 : j = i
        · subst e1
          simp only [if_true]
          refine ⟨?_, g2⟩
          rcases Nat.eq_zero_or_pos j with w | w
          · intro v hv
            obtain ⟨q1, q2, q3⟩ := g3 v hv
            refine ⟨fun d hd => q1 d (hd.congr hv (fun w' => by omega)), q2, ?_⟩
            rcases q3 with q3 | q3
            · exact Or.inl (q3.congr hv (fun w' => by omega))
            · exact Or.inr q3
          · rw [if_neg (by omega)]
            exact g3
        · have := hE j (by omega)
          simp only [if_neg e1]
          rw [if_neg (by omega)]
          exact ⟨this.1, (this.2.kp hG k1 (by omega)).kp hG g1 (by omega)⟩
      refine s_beginRow hG hX hr (by omega) hP (fun tb' T k1 k2 k3 => ⟨fun q => ?_, fun q => ?_⟩)
      · have i0 : i = 0 := by have := (nI_leI (b := 0) (by omega) (by omega)).mp q; omega
        refine last tb' T k1 k2 (fun v hv => ?_)
        have := k3 v hv
        rw [if_pos i0] at this
        rw [this]
        exact ⟨Or.inl (Or.inl ⟨i0, rfl⟩), fun d hd => by
          rcases hd with hd | hd
          · omega
          · omega⟩
      · have hi1 : 1 ≤ i := by
          rcases Nat.eq_zero_or_pos i with w | w
          · subst w; exact absurd (by decide) q
          · exact w
        obtain ⟨hP1, hP2⟩ := hP hi1
        refine s_comeFrom (P := E (i - 1)) hG hX hJ hC hc hr hi1 (by omega) ⟨hP1.kp hG k1 (by omega), hP2⟩ k2 (fun v hv => by have := k3 v hv; rw [if_neg (by omega)] at this; exact this) (fun tb'' T' g1 g2 g3 => ?_)
        exact last tb'' T' (k1.tr g1) g2 (fun v hv => ⟨Or.inl (g3 v hv).1, (g3 v hv).2⟩)
  exact ⟨n + 2, L (n + 2) 0 (fun _ _ => 0) tb (by omega) (by omega) (fun j hj => absurd hj (Nat.not_lt_zero _))⟩
