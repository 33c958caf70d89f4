/-! the least costs: what both tables hold -/
def Bc (G : GD) (rd : Nat → Nat) (P : Nat → Nat) (i v c : Nat) : Prop := (i = 0 ∧ c = 1) ∨ (1 ≤ i ∧ (c = i - 1 + mm rd G i v ∨ c = P v + 1 ∨ ∃ u, Fo G u v ∧ c = P u + mm rd G i v))
def Fix (G : GD) (rd : Nat → Nat) (P : Nat → Nat) (i : Nat) (T : Nat → Nat) : Prop := ∀ v, v < G.N → (∀ c, Bc G rd P i v c → T v ≤ c) ∧ (∀ u, Fo G u v → T v ≤ T u + 1) ∧ (Bc G rd P i v (T v) ∨ ∃ u, Fo G u v ∧ T v = T u + 1)
theorem Bc.congr {G : GD} {rd P P' : Nat → Nat} {i v c : Nat} (h : Bc G rd P i v c) (hv : v < G.N) (hP : 1 ≤ i → ∀ v, v < G.N → P v = P' v) : Bc G rd P' i v c := by
  rcases h with h | ⟨h1, h | h | ⟨u, h2, h3⟩⟩
  · exact Or.inl h
  · exact Or.inr ⟨h1, Or.inl h⟩
  · exact Or.inr ⟨h1, Or.inr (Or.inl (by rw [← hP h1 v hv]; exact h))⟩
  · exact Or.inr ⟨h1, Or.inr (Or.inr ⟨u, h2, by rw [← hP h1 u h2.lt.1]; exact h3⟩)⟩
theorem Fix.half {G : GD} {rd P P' T T' : Nat → Nat} {i : Nat} (h : Fix G rd P i T) (h' : Fix G rd P' i T') (hP : 1 ≤ i → ∀ v, v < G.N → P v = P' v) : ∀ k v, v < G.N → T v ≤ k → T' v ≤ T v := by
  intro k
  induction k with
  | zero =>
    intro v hv hk
    obtain ⟨h1, h2, h3⟩ := h v hv
    rcases h3 with h3 | ⟨u, h3, h4⟩
    · exact (h' v hv).1 _ (h3.congr hv hP)
    · omega
  | succ k ih =>
    intro v hv hk
    obtain ⟨h1, h2, h3⟩ := h v hv
    rcases h3 with h3 | ⟨u, h3, h4⟩
    · exact (h' v hv).1 _ (h3.congr hv hP)
    · have := ih u h3.lt.1 (by omega)
      have := (h' v hv).2.1 u h3
      omega
theorem Fix.uniq {G : GD} {rd P P' T T' : Nat → Nat} {i : Nat} (h : Fix G rd P i T) (h' : Fix G rd P' i T') (hP : 1 ≤ i → ∀ v, v < G.N → P v = P' v) : ∀ v, v < G.N → T v = T' v := fun v hv =>
  Nat.le_antisymm (h'.half h (fun w v hv => (hP w v hv).symm) _ v hv (Nat.le_refl _)) (h.half h' hP _ v hv (Nat.le_refl _))
theorem Fix.le {G : GD} {rd P T : Nat → Nat} {i v : Nat} (h : Fix G rd P i T) (hv : v < G.N) : T v ≤ i + 1 ∧ (1 ≤ i → T v ≤ i) := by
  rcases Nat.eq_zero_or_pos i with w | w
  · have := (h v hv).1 1 (Or.inl ⟨w, rfl⟩)
    omega
  · have := (h v hv).1 _ (Or.inr ⟨w, Or.inl rfl⟩)
    have := mm_le (G := G) (rd := rd) (i := i) (v := v)
    omega
def FixT (G : GD) (rd : Nat → Nat) (n : Nat) (E : Nat → Nat → Nat) : Prop := ∀ i, i ≤ n → Fix G rd (E (i - 1)) i (E i)
theorem FixT.uniq {G : GD} {rd : Nat → Nat} {n n' : Nat} {E E' : Nat → Nat → Nat} (h : FixT G rd n E) (h' : FixT G rd n' E') : ∀ i, i ≤ n → i ≤ n' → ∀ v, v < G.N → E i v = E' i v := by
  intro i
  induction i with
  | zero => intro h1 h2; exact (h 0 h1).uniq (h' 0 h2) (fun w => by omega)
  | succ i ih => intro h1 h2; exact (h (i + 1) h1).uniq (h' (i + 1) h2) (fun _ => ih (by omega) (by omega))
def RW (G : GD) (tb : Nat → Int32) (i : Nat) (T : Nat → Nat) : Prop := ∀ v, v < G.N → tb (64 * i + v) = nI (T v)
theorem RW.up {G : GD} {tb : Nat → Int32} {i v c : Nat} {T : Nat → Nat} (h : RW G tb i T) : RW G (upd tb (64 * i + v) (nI c)) i (fu T v c) := fun w hw => by
  by_cases e1 : w = v
  · subst e1; rw [pk_us, fu_s]
  · rw [pk_un (by omega), fu_n e1]; exact h w hw
theorem RW.kp {G : GD} {tb tb' : Nat → Int32} {i j : Nat} {T : Nat → Nat} (hG : G.ok) (h : RW G tb i T) (hk : KP (64 * j) tb tb') (hij : i < j) : RW G tb' i T := fun w hw => by
  have := hG.n64
  rw [hk _ (by omega)]
  exact h w hw
/-! the class's table -/
theorem s_Co_at {Q : Int32 → Unit → Prop} {G : GD} {tb : Nat → Int32} {i v : Nat} {T : Nat → Nat} (hG : G.ok) (hi : i ≤ 12) (hv : v < G.N) (hW : RW G tb i T) (h : Q (nI (T v)) ()) : wp_Co_at Q (nI i) (nI v) tb := by
  have := hG.n64
  unfold wp_Co_at
  simp only [forall_eq]
  rw [show (64 : Int32) = nI 64 from rfl, pk_mul, nI_add, nI_clamp (by omega), Nat.mul_comm i 64, hW v hv]
  exact ⟨vp_in_nI (by omega) (by omega), h⟩
theorem s_Co_lower {Q : Int32 → (Nat → Int32) → Prop} {G : GD} {tb : Nat → Int32} {i v c : Nat} {T : Nat → Nat} (hG : G.ok) (hi : i ≤ 12) (hv : v < G.N) (hW : RW G tb i T) (hT : T v < 1000) (hc : c < 1000) (h1 : c < T v → Q 1 (upd tb (64 * i + v) (nI c))) (h0 : T v ≤ c → Q 0 tb) : wp_Co_lower Q (nI i) (nI v) (nI c) tb := by
  have := hG.n64
  unfold wp_Co_lower
  refine s_Co_at hG hi hv hW ⟨fun q => ?_, fun q => h0 ?_⟩
  · simp only [forall_eq]
    rw [show (64 : Int32) = nI 64 from rfl, pk_mul, nI_add, nI_clamp (by omega), Nat.mul_comm i 64]
    exact ⟨vp_in_nI (by omega) (by omega), h1 ((nI_ltI (by omega) (by omega)).mp q)⟩
  · rcases Nat.lt_or_ge c (T v) with w | w
    · exact absurd (nI_lt w (by omega)) q
    · exact w
theorem s_beginRow {Q : (Nat → Int32) → Prop} {G : GD} {tb : Nat → Int32} {i R : Nat} {P : Nat → Nat} {rd : Nat → Nat} {re aN aS aB aP : Nat → Int32} (hG : G.ok) (hX : XS G.S G.nm G.ln G.bs aN aS aB aP) (hr : RDp re rd R) (hiR : i ≤ R) (hP : 1 ≤ i → RW G tb (i - 1) P ∧ ∀ v, v < G.N → P v < 100)
    (h : ∀ tb' T, KP (64 * i) tb tb' → RW G tb' i T → (∀ v, v < G.N → T v = if i = 0 then 1 else min (P v + 1) (i - 1 + mm rd G i v)) → Q tb') : wp_Co_beginRow Q (nI i) tb (nI G.N) aB re := by
  have h64 := hG.n64
  have h12 := hr.1
  have L : ∀ (j v : Nat) (tb' : Nat → Int32), v + j = G.N → KP (64 * i) tb tb' → (∀ w, w < v → tb' (64 * i + w) = nI (if i = 0 then 1 else min (P w + 1) (i - 1 + mm rd G i w))) → ∃ m, w_Co_beginRow_3 Q (nI i) (nI G.N) aB re m (nI v) tb' := by
    intro j
    induction j with
    | zero =>
      intro v tb' hv hk hw
      refine ⟨1, ?_⟩
      show w_Co_beginRow_3B Q _ (nI i) (nI G.N) aB re _ _
      unfold w_Co_beginRow_3B
      exact ⟨fun _ => h tb' (fun w => if i = 0 then 1 else min (P w + 1) (i - 1 + mm rd G i w)) hk (fun w hw' => hw w (by omega)) (fun _ _ => rfl), fun q => absurd (nI_le (by omega) (by omega)) q⟩
    | succ j ih =>
      intro v tb' hv hk hw
      obtain ⟨m, hm⟩ := ih (v + 1) (upd tb' (64 * i + v) (nI (if i = 0 then 1 else min (P v + 1) (i - 1 + mm rd G i v)))) (by omega) (hk.up (by omega)) (fun w hw' => by
        by_cases e1 : w = v
        · subst e1; rw [pk_us]
        · rw [pk_un (by omega)]; exact hw w (by omega))
      have step : ∀ d : Nat, d = (if i = 0 then 1 else min (P v + 1) (i - 1 + mm rd G i v)) → w_Co_beginRow_57 Q (w_Co_beginRow_3 Q (nI i) (nI G.N) aB re m) (nI i) (nI G.N) aB re (nI v) (nI d) tb' := by
        intro d hd
        unfold w_Co_beginRow_57
        simp only [forall_eq]
        rw [show (64 : Int32) = nI 64 from rfl, pk_mul, nI_add, nI_clamp (by omega), Nat.mul_comm i 64, nI_1, hd]
        exact ⟨vp_in_nI (by omega) (by omega), hm⟩
      refine ⟨m + 1, ?_⟩
      show w_Co_beginRow_3B Q _ (nI i) (nI G.N) aB re _ _
      unfold w_Co_beginRow_3B
      refine ⟨fun q => absurd ((nI_leI (by omega) (by omega)).mp q) (by omega), fun _ => ?_⟩
      simp only [forall_eq]
      refine ⟨fun q => ?_, fun q => ?_⟩
      · have : i = 0 := by have := (nI_leI (b := 0) (by omega) (by omega)).mp q; omega
        rw [nI_1]
        exact step (i + 1) (by rw [if_pos this, this])
      · have hi1 : 1 ≤ i := by
          rcases Nat.eq_zero_or_pos i with w | w
          · subst w; exact absurd (by decide) q
          · exact w
        obtain ⟨hP1, hP2⟩ := hP hi1
        have hP2' := hP2 v (by omega)
        have hmm := mm_le (G := G) (rd := rd) (i := i) (v := v)
        rw [nI_clamp (by omega), hX.base (v := v) (by omega)]
        refine ⟨vp_in_nI (by omega) (by omega), s_costOn hG hr hi1 hiR (by omega) ?_⟩
        rw [show (1 : Int32) = nI 1 from rfl, pk_sub (by omega)]
        refine s_Co_at (T := P) hG (by omega) (by omega) (hP1.kp hG hk (by omega)) ?_
        rw [nI_add, nI_add]
        split
        · rename_i q2
          have := (nI_ltI (by omega) (by omega)).mp q2
          exact step _ (by rw [if_neg (by omega)]; omega)
        · rename_i q2
          have : ¬ P v + 1 < i - 1 + mm rd G i v := fun w => q2 (nI_lt w (by omega))
          exact step _ (by rw [if_neg (by omega)]; omega)
  exact L G.N 0 tb (by omega) KP.rf (fun w hw => absurd hw (Nat.not_lt_zero _))
theorem s_comeFrom {Q : (Nat → Int32) → Prop} {G : GD} {tb : Nat → Int32} {i R c : Nat} {P T : Nat → Nat} {rd jf jt : Nat → Nat} {re aN aS aB aP aJ aK : Nat → Int32} (hG : G.ok) (hX : XS G.S G.nm G.ln G.bs aN aS aB aP) (hJ : JS G c jf jt aJ aK) (hC : JC G c jf jt) (hc : c ≤ 72) (hr : RDp re rd R) (hi1 : 1 ≤ i) (hiR : i ≤ R) (hP : RW G tb (i - 1) P ∧ ∀ v, v < G.N → P v < 100) (hW : RW G tb i T) (hT : ∀ v, v < G.N → T v = min (P v + 1) (i - 1 + mm rd G i v))
    (h : ∀ tb' T', KP (64 * i) tb tb' → RW G tb' i T' → (∀ v, v < G.N → Bc G rd P i v (T' v) ∧ ∀ d, Bc G rd P i v d → T' v ≤ d) → Q tb') : wp_Co_comeFromRowBefore Q (nI i) tb (nI c) aB aJ aK re := by
  have h64 := hG.n64
  have h12 := hr.1
  have L : ∀ (j k : Nat) (T' : Nat → Nat) (tb' : Nat → Int32), k + j = c → KP (64 * i) tb tb' → RW G tb' i T' → (∀ v, v < G.N → Bc G rd P i v (T' v) ∧ T' v ≤ min (P v + 1) (i - 1 + mm rd G i v)) → (∀ l, l < k → T' (jt l) ≤ P (jf l) + mm rd G i (jt l)) → ∃ m, w_Co_comeFromRowBefore_3 Q (nI i) (nI c) aB aJ aK re m (nI k) tb' := by
    intro j
    induction j with
    | zero =>
      intro k T' tb' hk hkp hW' hB hl
      refine ⟨1, ?_⟩
      show w_Co_comeFromRowBefore_3B Q _ (nI i) (nI c) aB aJ aK re _ _
      unfold w_Co_comeFromRowBefore_3B
      refine ⟨fun _ => h tb' T' hkp hW' (fun v hv => ⟨(hB v hv).1, fun d hd => ?_⟩), fun q => absurd (nI_le (by omega) (by omega)) q⟩
      have hB2 := (hB v hv).2
      rcases hd with hd | ⟨_, hd | hd | ⟨u, hF, hd⟩⟩
      · omega
      · omega
      · omega
      · obtain ⟨l, l1, rfl, rfl⟩ := hC u v hF
        rw [hd]
        exact hl l (by omega)
    | succ j ih =>
      intro k T' tb' hk hkp hW' hB hl
      obtain ⟨j1, j2, j3⟩ := hJ.1 k (by omega)
      have hu : jf k < G.N := j3.lt.1
      have hv : jt k < G.N := j3.lt.2
      have hPu := hP.2 _ hu
      have hPv := hP.2 _ hv
      have hmm := mm_le (G := G) (rd := rd) (i := i) (v := jt k)
      have hTv := (hB _ hv).2
      have fin : ∀ T'' tb'', KP (64 * i) tb tb'' → RW G tb'' i T'' → (∀ v, v < G.N → Bc G rd P i v (T'' v) ∧ T'' v ≤ T' v) → T'' (jt k) ≤ P (jf k) + mm rd G i (jt k) → ∃ m, w_Co_comeFromRowBefore_3 Q (nI i) (nI c) aB aJ aK re m (nI (k + 1)) tb'' := fun T'' tb'' g1 g2 g3 g4 => ih (k + 1) T'' tb'' (by omega) g1 g2 (fun v hv => ⟨(g3 v hv).1, Nat.le_trans (g3 v hv).2 (hB v hv).2⟩) (fun l hl' => by
        by_cases e1 : l = k
        · subst e1; exact g4
        · exact Nat.le_trans (g3 _ ((hJ.1 l (by omega)).2.2.lt.2)).2 (hl l (by omega)))
      have hstep : ∃ m, (P (jf k) + mm rd G i (jt k) < T' (jt k) → w_Co_comeFromRowBefore_3 Q (nI i) (nI c) aB aJ aK re m (nI (k + 1)) (upd tb' (64 * i + jt k) (nI (P (jf k) + mm rd G i (jt k))))) ∧ (T' (jt k) ≤ P (jf k) + mm rd G i (jt k) → w_Co_comeFromRowBefore_3 Q (nI i) (nI c) aB aJ aK re m (nI (k + 1)) tb') := by
        rcases Nat.lt_or_ge (P (jf k) + mm rd G i (jt k)) (T' (jt k)) with w | w
        · obtain ⟨m, hm⟩ := fin (fu T' (jt k) (P (jf k) + mm rd G i (jt k))) _ (hkp.up (by omega)) hW'.up (fun v hv => by
            by_cases e1 : v = jt k
            · subst e1; rw [fu_s]; exact ⟨Or.inr ⟨hi1, Or.inr (Or.inr ⟨jf k, j3, rfl⟩)⟩, by omega⟩
            · rw [fu_n e1]; exact ⟨(hB v hv).1, Nat.le_refl _⟩) (by rw [fu_s]; exact Nat.le_refl _)
          exact ⟨m, fun _ => hm, fun z => by omega⟩
        · obtain ⟨m, hm⟩ := fin T' tb' hkp hW' (fun v hv => ⟨(hB v hv).1, Nat.le_refl _⟩) w
          exact ⟨m, fun z => by omega, fun _ => hm⟩
      obtain ⟨m, hm1, hm2⟩ := hstep
      refine ⟨m + 1, ?_⟩
      show w_Co_comeFromRowBefore_3B Q _ (nI i) (nI c) aB aJ aK re _ _
      unfold w_Co_comeFromRowBefore_3B
      refine ⟨fun q => absurd ((nI_leI (by omega) (by omega)).mp q) (by omega), fun _ => ?_⟩
      simp only [forall_eq]
      rw [nI_clamp (by omega), j1, j2, show (1 : Int32) = nI 1 from rfl, pk_sub (by omega)]
      refine ⟨vp_in_nI (by omega) (by omega), vp_in_nI (by omega) (by omega), ?_⟩
      refine s_Co_at (T := P) hG (by omega) hu (hP.1.kp hG hkp (by omega)) ?_
      rw [nI_clamp (by omega), hX.base hv]
      refine ⟨vp_in_nI (by omega) (by omega), s_costOn hG hr hi1 hiR hv ?_⟩
      rw [nI_add, nI_add]
      exact s_Co_lower hG (by omega) hv hW' (by omega) (by omega) (fun w => hm1 w) (fun w => hm2 w)
  exact L c 0 T tb (by omega) KP.rf hW (fun v hv => by
    rw [hT v hv]
    refine ⟨Or.inr ⟨hi1, ?_⟩, Nat.le_refl _⟩
    rcases Nat.le_total (P v + 1) (i - 1 + mm rd G i v) with w | w
    · exact Or.inr (Or.inl (Nat.min_eq_left w))
    · exact Or.inl (Nat.min_eq_right w)) (fun l hl => absurd hl (Nat.not_lt_zero _))
