/-! the reference aligns -/
theorem NT.put {a : Nat → Int32} {f : Nat → Nat} {n v : Nat} (h : NT a f n) (hv : f n = v) : NT (upd a n (nI v)) f (n + 1) := fun j hj => by
  by_cases e1 : j = n
  · subst e1; rw [pk_us, hv]
  · rw [pk_un e1]; exact h j (by omega)
theorem s_note {Q : (Int32 × (Nat → Int32)) → Prop} {c ne : Nat} {eb : Nat → Int32} (hc : c < 65536) (hn : ne < 64) (h : Q (nI (ne + 1), upd eb ne (nI c))) : wp_Mo_note Q (nI c) (nI ne) eb := by
  unfold wp_Mo_note
  simp only [forall_eq]
  rw [nI_clamp (by omega), nar_c hc, nI_1]
  exact ⟨vp_in_nI (by omega) (by omega), h⟩
theorem s_visit {Q : (Int32 × (Nat → Int32)) → Prop} {v nw : Nat} {wb : Nat → Int32} (hn : nw < 64) (h : Q (nI (nw + 1), upd wb nw (nI v))) : wp_Mo_visit Q (nI v) (nI nw) wb := by
  unfold wp_Mo_visit
  simp only [forall_eq]
  rw [nI_clamp (by omega), nI_1]
  exact ⟨vp_in_nI (by omega) (by omega), h⟩
section REF
variable {G : GD} {bases length lk fa ta so wi re : Nat → Int32} {rd : Nat → Nat} {R : Nat}
theorem s_Mo_before {Q : Int32 → Unit → Prop} {tb : Nat → Int32} {i1 i m v : Nat} {E : Nat → Nat → Nat} (hG : G.ok) (hR : RP G (nI G.N) bases length lk fa ta so wi) (hi1 : i1 ≤ 12) (hi : i ≤ 12) (hW1 : RW G tb i1 (E i1)) (hW : RW G tb i (E i)) (hT1 : ∀ v, v < G.N → E i1 v < 100) (hT : ∀ v, v < G.N → E i v < 100) (hm : m ≤ 1) (hv : v < G.N)
    (h1 : ∀ u, Lst (Bf G E i1 m (E i v) v) u → Q (nI u) ()) (h0 : (∀ u, ¬ Bf G E i1 m (E i v) v u) → Q (-1) ()) : wp_Mo_before Q (nI i1) (nI m) (nI i) (nI v) (nI G.N) length lk fa ta so wi tb := by
  have h64 := hG.n64
  have hTv := hT v hv
  have L : ∀ (j u : Nat), u + j = G.N → (∀ w, w < u → ¬ Bf G E i1 m (E i v) v w) → ∃ z, w_Mo_before_3 Q (nI i1) (nI m) (nI i) (nI v) (nI G.N) length lk fa ta so wi tb z (nI u) := by
    intro j
    induction j with
    | zero =>
      intro u hu hl
      refine ⟨1, ?_⟩
      show w_Mo_before_3B Q _ (nI i1) (nI m) (nI i) (nI v) (nI G.N) length lk fa ta so wi tb _
      unfold w_Mo_before_3B
      exact ⟨fun _ => h0 (fun w hB => hl w (by have : w < G.N := hB.1.lt.1; omega) hB), fun q => absurd (nI_le (by omega) (by omega)) q⟩
    | succ j ih =>
      intro u hu hl
      have huN : u < G.N := by omega
      have hTu := hT1 u huN
      by_cases hB : Bf G E i1 m (E i v) v u
      · refine ⟨1, ?_⟩
        show w_Mo_before_3B Q _ (nI i1) (nI m) (nI i) (nI v) (nI G.N) length lk fa ta so wi tb _
        unfold w_Mo_before_3B
        refine ⟨fun q => absurd ((nI_leI (by omega) (by omega)).mp q) (by omega), fun _ => ?_⟩
        refine s_after hG hR huN hv (fun _ => ⟨fun q => absurd q (by decide), fun _ => ?_⟩) (fun z => absurd hB.1 z)
        simp only [forall_eq]
        rw [show (64 : Int32) = nI 64 from rfl, pk_mul, nI_add, nI_clamp (by omega), hW1 u huN, nI_add, pk_mul, nI_add, nI_clamp (by omega), hW v hv]
        exact ⟨vp_in_nI (by omega) (by omega), vp_in_nI (by omega) (by omega), fun _ => h1 u ⟨hB, hl⟩, fun q => absurd (congrArg nI hB.2) q⟩
      · obtain ⟨z, hz⟩ := ih (u + 1) (by omega) (fun w hw => by
          by_cases e1 : w = u
          · subst e1; exact hB
          · exact hl w (by omega))
        have nx : w_Mo_before_55 Q (w_Mo_before_3 Q (nI i1) (nI m) (nI i) (nI v) (nI G.N) length lk fa ta so wi tb z) (nI i1) (nI m) (nI i) (nI v) (nI G.N) length lk fa ta so wi tb (nI u) := by
          unfold w_Mo_before_55
          simp only [forall_eq]
          rw [nI_1]
          exact hz
        refine ⟨z + 1, ?_⟩
        show w_Mo_before_3B Q _ (nI i1) (nI m) (nI i) (nI v) (nI G.N) length lk fa ta so wi tb _
        unfold w_Mo_before_3B
        refine ⟨fun q => absurd ((nI_leI (by omega) (by omega)).mp q) (by omega), fun _ => ?_⟩
        refine s_after hG hR huN hv (fun hF => ⟨fun q => absurd q (by decide), fun _ => ?_⟩) (fun z => ⟨fun _ => nx, fun q => absurd rfl q⟩)
        simp only [forall_eq]
        rw [show (64 : Int32) = nI 64 from rfl, pk_mul, nI_add, nI_clamp (by omega), hW1 u huN, nI_add, pk_mul, nI_add, nI_clamp (by omega), hW v hv]
        exact ⟨vp_in_nI (by omega) (by omega), vp_in_nI (by omega) (by omega), fun q => absurd ⟨hF, (nI_eq (by omega) (by omega)).mp q⟩ hB, fun _ => nx⟩
  exact L G.N 0 (by omega) (fun w hw => absurd hw (Nat.not_lt_zero _))
theorem s_back {Q : Int32 → (Int32 × Int32 × Int32 × Int32 × (Nat → Int32) × (Nat → Int32) × (Nat → Int32)) → Prop} {tb sg : Nat → Int32} {tot : Int32} {E : Nat → Nat → Nat} {ed wk : Nat → Nat} {NE NW : Nat} (hG : G.ok) (hR : RP G (nI G.N) bases length lk fa ta so wi) (hr : RDp re rd R) (hF : FixT G rd R E) (hTB : TBp G tb R E) (hNE : NE ≤ 24) (hNW : NW ≤ 24)
    (h : ∀ walk' edits', NT edits' ed NE → NT walk' wk NW → Q tot (1, tot, nI NW, nI NE, tb, walk', edits')) : ∀ (k i v ne nw : Nat) (walk edits : Nat → Int32), Tr G rd E ed wk NE NW k i v ne nw → v < G.N → i ≤ R → NT edits ed ne → NT walk wk nw → w_Mo_align_111 Q (nI G.N) (nI R) sg bases length lk fa ta so wi re (k + 1) (nI v) (nI i) (-1) 1 tot (nI nw) (nI ne) tb walk edits := by
  have h64 := hG.n64
  have h12 := hr.1
  -- the inserts at the front
  have L333 : ∀ (n ne : Nat) (walk : Nat → Int32), NE = ne + n → (∀ j, j < n → ed (ne + j) = 73) → NT walk wk NW → ∀ (j q : Nat) (edits : Nat → Int32), q + j = n → NT edits ed (ne + q) → ∃ m, w_Mo_align_333 Q (nI G.N) (nI R) sg bases length lk fa ta so wi re m (nI n) (nI q) 1 tot (nI NW) (nI (ne + q)) tb walk edits := by
    intro n ne walk hn h73 hwk j
    induction j with
    | zero =>
      intro q edits hq hE
      obtain rfl : q = n := by omega
      refine ⟨1, ?_⟩
      show w_Mo_align_333B Q _ (nI G.N) (nI R) sg bases length lk fa ta so wi re _ _ _ _ _ _ _ _ _
      unfold w_Mo_align_333B
      refine ⟨fun _ => ?_, fun z => absurd (nI_le (by omega) (by omega)) z⟩
      rw [← hn] at hE ⊢
      exact h walk edits hE hwk
    | succ j ih =>
      intro q edits hq hE
      obtain ⟨m, hm⟩ := ih (q + 1) (upd edits (ne + q) (nI 73)) (by omega) (hE.put (h73 q (by omega)))
      refine ⟨m + 1, ?_⟩
      show w_Mo_align_333B Q _ (nI G.N) (nI R) sg bases length lk fa ta so wi re _ _ _ _ _ _ _ _ _
      unfold w_Mo_align_333B
      refine ⟨fun z => absurd ((nI_leI (by omega) (by omega)).mp z) (by omega), fun _ => ?_⟩
      refine s_note (c := 73) (by omega) (by omega) ?_
      simp only [forall_eq]
      rw [nI_1]
      exact hm
  -- the walk is whole
  have fin : ∀ (n ne : Nat) (x y : Int32) (walk edits : Nat → Int32) (m : Nat), n < 100 → NE = ne + n → (∀ j, j < n → ed (ne + j) = 73) → NT walk wk NW → NT edits ed ne → w_Mo_align_111 Q (nI G.N) (nI R) sg bases length lk fa ta so wi re (m + 1) x y (nI n) 1 tot (nI NW) (nI ne) tb walk edits := by
    intro n ne x y walk edits m hn hNE' h73 hwk hE
    show w_Mo_align_111B Q _ (nI G.N) (nI R) sg bases length lk fa ta so wi re _ _ _ _ _ _ _ _ _ _
    unfold w_Mo_align_111B
    exact ⟨fun _ => L333 n ne walk hNE' h73 hwk n 0 edits (by omega) hE, fun q => absurd (nI_pos' (by omega)) q⟩
  intro k
  induction k with
  | zero => intro i v ne nw walk edits hT; exact hT.elim
  | succ k ih =>
    intro i v ne nw walk edits hT hv hi hE hWk
    have hch := hT.chain hv
    have heds := hT.eds
    have hne : ne < 64 := by omega
    have hnw : nw < 64 := by omega
    have hFi := hF i hi
    have hTi : ∀ v, v < G.N → E i v < 100 := fun v hv => by have := (hFi.le hv).1; omega
    have hTv := hTi v hv
    have hm := mm_le (G := G) (rd := rd) (i := i) (v := v)
    have h292 : (1 ≤ i → i - 1 + mm rd G i v ≠ E i v ∧ (∀ u, ¬ Bf G E (i - 1) (mm rd G i v) (E i v) v u) ∧ E (i - 1) v + 1 ≠ E i v) → ∀ x7 : Int32, ((∃ u, Lst (Bf G E i 1 (E i v) v) u ∧ x7 = nI u) ∨ ((∀ u, ¬ Bf G E i 1 (E i v) v u) ∧ x7 = -1)) → w_Mo_align_292 Q (w_Mo_align_111 Q (nI G.N) (nI R) sg bases length lk fa ta so wi re (k + 1)) (nI G.N) (nI R) sg bases length lk fa ta so wi re (nI v) (nI i) (-1) x7 1 tot (nI nw) (nI ne) tb walk edits := by
      intro hn x7 hx
      unfold w_Mo_align_292 w_Mo_align_327
      rcases hT with ⟨h1, h2, _⟩ | ⟨h1, _, u, h3, _⟩ | ⟨h1, _, _, h4, _⟩ | ⟨_, u, h3, h4, h5, h6⟩ | ⟨_, h2, h3, h4, h5, h6, h7⟩
      · exact absurd h2 (hn h1).1
      · exact absurd h3.1 ((hn h1).2.1 u)
      · exact absurd h4 (hn h1).2.2
      · rcases hx with ⟨u', g1, rfl⟩ | ⟨g1, _⟩
        · obtain rfl := h3.uniq g1
          have huN : u < G.N := h3.1.1.lt.1
          refine ⟨fun q => absurd q (nI_pos (by omega)), fun _ => s_note (c := 68) (by omega) hne (s_visit hnw ?_)⟩
          exact ih i u (ne + 1) (nw + 1) _ _ h6 huN hi (hE.put h4) (hWk.put h5)
        · exact absurd h3.1 (g1 u)
      · rcases hx with ⟨u', g1, _⟩ | ⟨_, rfl⟩
        · exact absurd g1.1 (h2 u')
        · refine ⟨fun _ => s_note (c := 68) (by omega) hne (s_visit hnw ?_), fun q => absurd (by decide) q⟩
          subst h7
          exact fin i (ne + 1) _ _ _ _ k (by omega) h6 h5 (hWk.put h4) (hE.put h3)
    show w_Mo_align_111B Q _ (nI G.N) (nI R) sg bases length lk fa ta so wi re _ _ _ _ _ _ _ _ _ _
    unfold w_Mo_align_111B
    refine ⟨fun q => absurd q (by decide), fun _ => ⟨fun q => ?_, fun q => ?_⟩⟩
    · have i0 : i = 0 := by have := (nI_leI (b := 0) (by omega) (by omega)).mp q; omega
      unfold w_Mo_align_129
      simp only [forall_eq]
      rw [show (64 : Int32) = nI 64 from rfl, pk_mul, nI_add, nI_clamp (by omega), hTB i hi v hv]
      refine ⟨vp_in_nI (by omega) (by omega), fun _ => ?_, fun z => absurd q z⟩
      unfold w_Mo_align_163
      have h218 : ∀ x7 : Int32, ((∃ u, Lst (Bf G E i 1 (E i v) v) u ∧ x7 = nI u) ∨ ((∀ u, ¬ Bf G E i 1 (E i v) v u) ∧ x7 = -1)) → w_Mo_align_218 Q (w_Mo_align_111 Q (nI G.N) (nI R) sg bases length lk fa ta so wi re (k + 1)) (nI G.N) (nI R) sg bases length lk fa ta so wi re (nI v) (nI i) (-1) 2 (nI (E i v)) (-1) x7 1 tot (nI nw) (nI ne) tb walk edits := by
        intro x7 hx
        unfold w_Mo_align_218
        exact ⟨fun _ => ⟨fun _ => h292 (fun w => by omega) x7 hx, fun z => absurd q z⟩, fun z => absurd (by decide) z⟩
      exact s_Mo_before (m := 1) hG hR (by omega) (by omega) (hTB i hi) (hTB i hi) hTi hTi (by omega) hv (fun u hu => ⟨fun _ => h218 _ (Or.inl ⟨u, hu, rfl⟩), fun z => absurd q z⟩) (fun hno => ⟨fun _ => h218 _ (Or.inr ⟨hno, rfl⟩), fun z => absurd q z⟩)
    · have hi1 : 1 ≤ i := by
        rcases Nat.eq_zero_or_pos i with w | w
        · subst w; exact absurd (by decide) q
        · exact w
      have hTi' : ∀ v, v < G.N → E (i - 1) v < 100 := fun v hv => by have := ((hF (i - 1) (by omega)).le hv).1; omega
      have hTv' := hTi' v hv
      refine s_change hG hR hr hi1 hi hv ?_
      unfold w_Mo_align_129
      simp only [forall_eq]
      rw [show (64 : Int32) = nI 64 from rfl, pk_mul, nI_add, nI_clamp (by omega), hTB i hi v hv]
      refine ⟨vp_in_nI (by omega) (by omega), fun z => absurd z q, fun _ => ?_⟩
      rw [show (1 : Int32) = nI 1 from rfl, pk_sub (by omega)]
      have h218 : i - 1 + mm rd G i v ≠ E i v → ∀ x6 x7 : Int32, ((∃ u, Lst (Bf G E (i - 1) (mm rd G i v) (E i v) v) u ∧ x6 = nI u) ∨ ((∀ u, ¬ Bf G E (i - 1) (mm rd G i v) (E i v) v u) ∧ x6 = -1)) → ((∃ u, Lst (Bf G E i 1 (E i v) v) u ∧ x7 = nI u) ∨ ((∀ u, ¬ Bf G E i 1 (E i v) v u) ∧ x7 = -1)) → w_Mo_align_218 Q (w_Mo_align_111 Q (nI G.N) (nI R) sg bases length lk fa ta so wi re (k + 1)) (nI G.N) (nI R) sg bases length lk fa ta so wi re (nI v) (nI i) (-1) (nI (mm rd G i v)) (nI (E i v)) x6 x7 1 tot (nI nw) (nI ne) tb walk edits := by
        intro hnA x6 x7 hx6 hx7
        unfold w_Mo_align_218
        rcases hx6 with ⟨u, g1, rfl⟩ | ⟨g1, rfl⟩
        · have huN : u < G.N := g1.1.1.lt.1
          refine ⟨fun z => absurd z (nI_pos (by omega)), fun _ => ?_⟩
          have h236 : ∀ e, e = edc (mm rd G i v) → e < 65536 → w_Mo_align_236 Q (w_Mo_align_111 Q (nI G.N) (nI R) sg bases length lk fa ta so wi re (k + 1)) (nI G.N) (nI R) sg bases length lk fa ta so wi re (nI v) (nI i) (-1) (nI u) (nI e) 1 tot (nI nw) (nI ne) tb walk edits := by
            intro e he he2
            unfold w_Mo_align_236 w_Mo_align_327
            rcases hT with ⟨h1, h2, _⟩ | ⟨h1, _, u', h3, h4, h5, h6⟩ | ⟨h1, _, h3, _⟩ | ⟨h1, _⟩ | ⟨h1, _⟩
            · exact absurd h2 hnA
            · obtain rfl := g1.uniq h3
              refine s_note he2 hne (s_visit hnw ?_)
              simp only [forall_eq]
              rw [show (1 : Int32) = nI 1 from rfl, pk_sub (by omega)]
              exact ih (i - 1) u (ne + 1) (nw + 1) _ _ h6 huN (by omega) (hE.put (by rw [h4, he])) (hWk.put h5)
            · exact absurd g1.1 (h3 u)
            · exact absurd g1.1 ((h1 hi1).2.1 u)
            · exact absurd g1.1 ((h1 hi1).2.1 u)
          refine ⟨fun z => ?_, fun z => ?_⟩
          · have : mm rd G i v = 0 := (nI_eq (b := 0) (by omega) (by omega)).mp z
            exact h236 61 (by unfold edc; rw [if_pos this]) (by omega)
          · have : mm rd G i v ≠ 0 := fun w => z (congrArg nI w)
            exact h236 88 (by unfold edc; rw [if_neg this]) (by omega)
        · refine ⟨fun _ => ⟨fun z => absurd z q, fun _ => ?_⟩, fun z => absurd (by decide) z⟩
          simp only [forall_eq]
          rw [show (64 : Int32) = nI 64 from rfl, pk_mul, pk_sub (by omega), nI_add, nI_clamp (by omega), show 64 * i - 64 + v = 64 * (i - 1) + v by omega, hTB (i - 1) (by omega) v hv, nI_1]
          refine ⟨vp_in_nI (by omega) (by omega), fun z => ?_, fun z => h292 (fun _ => ⟨hnA, g1, fun w => z (congrArg nI w)⟩) x7 hx7⟩
          have e1 : E (i - 1) v + 1 = E i v := (nI_eq (by omega) (by omega)).mp z
          unfold w_Mo_align_327
          rcases hT with ⟨h1, h2, _⟩ | ⟨h1, _, u', h3, h4, h5, h6⟩ | ⟨h1, _, h3, h4, h5, h6⟩ | ⟨h1, _⟩ | ⟨h1, _⟩
          · exact absurd h2 hnA
          · exact absurd h3.1 (g1 u')
          · refine s_note (c := 73) (by omega) hne ?_
            rw [show (1 : Int32) = nI 1 from rfl, pk_sub (by omega)]
            exact ih (i - 1) v (ne + 1) nw _ _ h6 hv (by omega) (hE.put h5) hWk
          · exact absurd e1 (h1 hi1).2.2
          · exact absurd e1 (h1 hi1).2.2
      have h163 : ∀ x6 : Int32, ((∃ u, Lst (Bf G E (i - 1) (mm rd G i v) (E i v) v) u ∧ x6 = nI u) ∨ ((∀ u, ¬ Bf G E (i - 1) (mm rd G i v) (E i v) v u) ∧ x6 = -1)) → w_Mo_align_163 Q (w_Mo_align_111 Q (nI G.N) (nI R) sg bases length lk fa ta so wi re (k + 1)) (nI G.N) (nI R) sg bases length lk fa ta so wi re (nI v) (nI i) (-1) (nI (mm rd G i v)) (nI (E i v)) x6 1 tot (nI nw) (nI ne) tb walk edits := by
        intro x6 hx6
        unfold w_Mo_align_163
        have body : ∀ x7 : Int32, ((∃ u, Lst (Bf G E i 1 (E i v) v) u ∧ x7 = nI u) ∨ ((∀ u, ¬ Bf G E i 1 (E i v) v u) ∧ x7 = -1)) → (∀ x_37 : Int32, x_37 = nI i - 1 + nI (mm rd G i v) → (x_37 = nI (E i v) → (nI (mm rd G i v) = 0 → w_Mo_align_203 Q (w_Mo_align_111 Q (nI G.N) (nI R) sg bases length lk fa ta so wi re (k + 1)) (nI G.N) (nI R) sg bases length lk fa ta so wi re (nI v) (nI i) 61 1 tot (nI nw) (nI ne) tb walk edits) ∧ (¬ nI (mm rd G i v) = 0 → w_Mo_align_203 Q (w_Mo_align_111 Q (nI G.N) (nI R) sg bases length lk fa ta so wi re (k + 1)) (nI G.N) (nI R) sg bases length lk fa ta so wi re (nI v) (nI i) 88 1 tot (nI nw) (nI ne) tb walk edits)) ∧ (¬ x_37 = nI (E i v) → w_Mo_align_218 Q (w_Mo_align_111 Q (nI G.N) (nI R) sg bases length lk fa ta so wi re (k + 1)) (nI G.N) (nI R) sg bases length lk fa ta so wi re (nI v) (nI i) (-1) (nI (mm rd G i v)) (nI (E i v)) x6 x7 1 tot (nI nw) (nI ne) tb walk edits)) := by
          intro x7 hx7
          simp only [forall_eq]
          rw [show (1 : Int32) = nI 1 from rfl, pk_sub (by omega), nI_add]
          refine ⟨fun z => ?_, fun z => h218 (fun w => z (congrArg nI w)) x6 x7 hx6 hx7⟩
          have e1 : i - 1 + mm rd G i v = E i v := (nI_eq (by omega) (by omega)).mp z
          have h203 : ∀ e, e = edc (mm rd G i v) → e < 65536 → w_Mo_align_203 Q (w_Mo_align_111 Q (nI G.N) (nI R) sg bases length lk fa ta so wi re (k + 1)) (nI G.N) (nI R) sg bases length lk fa ta so wi re (nI v) (nI i) (nI e) 1 tot (nI nw) (nI ne) tb walk edits := by
            intro e he he2
            unfold w_Mo_align_203 w_Mo_align_327
            rcases hT with ⟨h1, h2, h3, h4, h5, h6, h7⟩ | ⟨h1, h2, _⟩ | ⟨h1, h2, _⟩ | ⟨h1, _⟩ | ⟨h1, _⟩
            · refine s_note he2 hne (s_visit hnw ?_)
              simp only [forall_eq]
              rw [show (1 : Int32) = nI 1 from rfl, pk_sub (by omega)]
              subst h7
              exact fin (i - 1) (ne + 1) _ _ _ _ k (by omega) h6 h5 (hWk.put h4) (hE.put (by rw [h3, he]))
            · exact absurd e1 h2
            · exact absurd e1 h2
            · exact absurd e1 (h1 hi1).1
            · exact absurd e1 (h1 hi1).1
          refine ⟨fun z => ?_, fun z => ?_⟩
          · have : mm rd G i v = 0 := (nI_eq (b := 0) (by omega) (by omega)).mp z
            exact h203 61 (by unfold edc; rw [if_pos this]) (by omega)
          · have : mm rd G i v ≠ 0 := fun w => z (congrArg nI w)
            exact h203 88 (by unfold edc; rw [if_neg this]) (by omega)
        exact s_Mo_before (m := 1) hG hR (by omega) (by omega) (hTB i hi) (hTB i hi) hTi hTi (by omega) hv (fun u hu => ⟨fun z => absurd z q, fun _ => body _ (Or.inl ⟨u, hu, rfl⟩)⟩) (fun hno => ⟨fun z => absurd z q, fun _ => body _ (Or.inr ⟨hno, rfl⟩)⟩)
      exact s_Mo_before hG hR (by omega) (by omega) (hTB (i - 1) (by omega)) (hTB i hi) hTi' hTi hm hv (fun u hu => h163 _ (Or.inl ⟨u, hu, rfl⟩)) (fun hno => h163 _ (Or.inr ⟨hno, rfl⟩))
theorem s_Mo_align {Q : Int32 → (Int32 × Int32 × Int32 × Int32 × (Nat → Int32) × (Nat → Int32) × (Nat → Int32)) → Prop} {tb sg walk edits : Nat → Int32} {th tot wd edn : Int32} {E : Nat → Nat → Nat} {ed wk : Nat → Nat} {NE NW k b : Nat} (hG : G.ok) (hS1 : 1 ≤ G.S) (hsg : sg 0 = nI G.S) (hR : RP G (nI G.N) bases length lk fa ta so wi) (hr : RDp re rd R) (hF : FixT G rd R E) (hb : Best G (E R) b) (hT : Tr G rd E ed wk NE NW k R b 0 0) (hNE : NE ≤ 24) (hNW : NW ≤ 24)
    (h : ∀ tb' walk' edits', NT edits' ed NE → NT walk' wk NW → Q (nI (E R b)) (1, nI (E R b), nI NW, nI NE, tb', walk', edits')) : wp_Mo_align Q (nI G.N) (nI R) th tot wd edn sg bases length lk fa ta so wi re tb walk edits := by
  have h64 := hG.n64
  have h12 := hr.1
  have hS := hG.hS
  unfold wp_Mo_align
  simp only [forall_eq]
  rw [show (0 : Int32).toNatClampNeg = 0 by decide, hsg]
  refine ⟨vp_in_nI (n := 0) (by omega) (by omega), fun q => absurd ((nI_eq (b := 0) (by omega) (by omega)).mp q) (by omega), fun _ => ?_⟩
  refine s_Mo_costs hG hR hr (fun tb' E' hF' hTB' => ?_)
  have hTB : TBp G tb' R E := fun i hi v hv => by rw [hF.uniq hF' i hi hi v hv]; exact hTB' i hi v hv
  have hFR := hF R (Nat.le_refl _)
  have hTR : ∀ v, v < G.N → E R v < 100 := fun v hv => by have := (hFR.le hv).1; omega
  have L : ∀ (j u c : Nat), u + j = G.N → c < G.N → (∀ w, w < u → E R c ≤ E R w) → (∀ w, w < c → E R c < E R w) → ∃ m, w_Mo_align_20 Q (nI G.N) (nI R) sg bases length lk fa ta so wi re m (nI c) (nI u) th tot wd edn tb' walk edits := by
    intro j
    induction j with
    | zero =>
      intro u c hu hc h1 h2
      have hcb : c = b := Best.uniq (G := G) (T := E R) ⟨hc, fun w hw => h1 w (by omega), h2⟩ hb
      subst hcb
      refine ⟨1, ?_⟩
      show w_Mo_align_20B Q _ (nI G.N) (nI R) sg bases length lk fa ta so wi re _ _ _ _ _ _ _ _ _
      unfold w_Mo_align_20B
      refine ⟨fun _ => ?_, fun q => absurd (nI_le (by omega) (by omega)) q⟩
      simp only [forall_eq]
      rw [show (64 : Int32) = nI 64 from rfl, pk_mul, nI_add, nI_clamp (by omega), hTB R (Nat.le_refl _) c hc]
      exact ⟨vp_in_nI (by omega) (by omega), k + 1, s_back hG hR hr hF hTB hNE hNW (h tb') k R c 0 0 walk edits hT hc (Nat.le_refl _) (fun j hj => absurd hj (Nat.not_lt_zero _)) (fun j hj => absurd hj (Nat.not_lt_zero _))⟩
    | succ j ih =>
      intro u c hu hc h1 h2
      have huN : u < G.N := by omega
      have hTu := hTR u huN
      have hTc := hTR c hc
      rcases Nat.lt_or_ge (E R u) (E R c) with w | w
      · obtain ⟨m, hm⟩ := ih (u + 1) u (by omega) huN (fun w' hw' => by
          by_cases e1 : w' = u
          · subst e1; exact Nat.le_refl _
          · have := h1 w' (by omega); omega) (fun w' hw' => by have := h1 w' hw'; omega)
        refine ⟨m + 1, ?_⟩
        show w_Mo_align_20B Q _ (nI G.N) (nI R) sg bases length lk fa ta so wi re _ _ _ _ _ _ _ _ _
        unfold w_Mo_align_20B
        refine ⟨fun q => absurd ((nI_leI (by omega) (by omega)).mp q) (by omega), fun _ => ?_⟩
        simp only [forall_eq]
        rw [show (64 : Int32) = nI 64 from rfl, pk_mul, nI_add, nI_clamp (by omega), hTB R (Nat.le_refl _) u huN, nI_add, nI_clamp (by omega), hTB R (Nat.le_refl _) c hc]
        refine ⟨vp_in_nI (by omega) (by omega), vp_in_nI (by omega) (by omega), fun q => absurd ((nI_leI (by omega) (by omega)).mp q) (by omega), fun _ => ?_⟩
        unfold w_Mo_align_64
        simp only [forall_eq]
        rw [nI_1]
        exact hm
      · obtain ⟨m, hm⟩ := ih (u + 1) c (by omega) hc (fun w' hw' => by
          by_cases e1 : w' = u
          · subst e1; exact w
          · exact h1 w' (by omega)) h2
        refine ⟨m + 1, ?_⟩
        show w_Mo_align_20B Q _ (nI G.N) (nI R) sg bases length lk fa ta so wi re _ _ _ _ _ _ _ _ _
        unfold w_Mo_align_20B
        refine ⟨fun q => absurd ((nI_leI (by omega) (by omega)).mp q) (by omega), fun _ => ?_⟩
        simp only [forall_eq]
        rw [show (64 : Int32) = nI 64 from rfl, pk_mul, nI_add, nI_clamp (by omega), hTB R (Nat.le_refl _) u huN, nI_add, nI_clamp (by omega), hTB R (Nat.le_refl _) c hc]
        refine ⟨vp_in_nI (by omega) (by omega), vp_in_nI (by omega) (by omega), fun _ => ?_, fun q => absurd (nI_le w (by omega)) q⟩
        unfold w_Mo_align_64
        simp only [forall_eq]
        rw [nI_1]
        exact hm
  exact L G.N 0 0 (by omega) (by have := hb.1; omega) (fun w hw => absurd hw (Nat.not_lt_zero _)) (fun w hw => absurd hw (Nat.not_lt_zero _))
end REF
