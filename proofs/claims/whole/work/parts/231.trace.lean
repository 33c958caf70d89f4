/-! the way back through the costs -/
def Lst (p : Nat → Prop) (u : Nat) : Prop := p u ∧ ∀ w, w < u → ¬ p w
theorem Lst.uniq {p : Nat → Prop} {u u' : Nat} (h : Lst p u) (h' : Lst p u') : u = u' := by
  rcases Nat.lt_trichotomy u u' with w | w | w
  · exact absurd h.1 (h'.2 u w)
  · exact w
  · exact absurd h'.1 (h.2 u' w)
/-- a place before v, in row i, whose cost and m make c -/
abbrev Bf (G : GD) (E : Nat → Nat → Nat) (i m c v u : Nat) : Prop := Fo G u v ∧ E i u + m = c
def edc (m : Nat) : Nat := if m = 0 then 61 else 88
def Tr (G : GD) (rd : Nat → Nat) (E : Nat → Nat → Nat) (ed wk : Nat → Nat) (NE NW : Nat) : Nat → Nat → Nat → Nat → Nat → Prop
  | 0, _, _, _, _ => False
  | k + 1, i, v, ne, nw =>
    (1 ≤ i ∧ i - 1 + mm rd G i v = E i v ∧ ed ne = edc (mm rd G i v) ∧ wk nw = v ∧ (∀ j, j < i - 1 → ed (ne + 1 + j) = 73) ∧ NE = ne + 1 + (i - 1) ∧ NW = nw + 1) ∨
    (1 ≤ i ∧ i - 1 + mm rd G i v ≠ E i v ∧ ∃ u, Lst (Bf G E (i - 1) (mm rd G i v) (E i v) v) u ∧ ed ne = edc (mm rd G i v) ∧ wk nw = v ∧ Tr G rd E ed wk NE NW k (i - 1) u (ne + 1) (nw + 1)) ∨
    (1 ≤ i ∧ i - 1 + mm rd G i v ≠ E i v ∧ (∀ u, ¬ Bf G E (i - 1) (mm rd G i v) (E i v) v u) ∧ E (i - 1) v + 1 = E i v ∧ ed ne = 73 ∧ Tr G rd E ed wk NE NW k (i - 1) v (ne + 1) nw) ∨
    ((1 ≤ i → i - 1 + mm rd G i v ≠ E i v ∧ (∀ u, ¬ Bf G E (i - 1) (mm rd G i v) (E i v) v u) ∧ E (i - 1) v + 1 ≠ E i v) ∧ ∃ u, Lst (Bf G E i 1 (E i v) v) u ∧ ed ne = 68 ∧ wk nw = v ∧ Tr G rd E ed wk NE NW k i u (ne + 1) (nw + 1)) ∨
    ((1 ≤ i → i - 1 + mm rd G i v ≠ E i v ∧ (∀ u, ¬ Bf G E (i - 1) (mm rd G i v) (E i v) v u) ∧ E (i - 1) v + 1 ≠ E i v) ∧ (∀ u, ¬ Bf G E i 1 (E i v) v u) ∧ ed ne = 68 ∧ wk nw = v ∧ (∀ j, j < i → ed (ne + 1 + j) = 73) ∧ NE = ne + 1 + i ∧ NW = nw + 1)
/-- costs of 0 rows or more: the last step is at row 0 -/
theorem Fix.last {G : GD} {rd : Nat → Nat} {E : Nat → Nat → Nat} {i v : Nat} (h : Fix G rd (E (i - 1)) i (E i)) (hv : v < G.N) (h1 : 1 ≤ i → i - 1 + mm rd G i v ≠ E i v ∧ (∀ u, ¬ Bf G E (i - 1) (mm rd G i v) (E i v) v u) ∧ E (i - 1) v + 1 ≠ E i v) (h2 : ∀ u, ¬ Bf G E i 1 (E i v) v u) : i = 0 := by
  rcases (h v hv).2.2 with w | ⟨u, w1, w2⟩
  · rcases w with w | ⟨w1, w2 | w2 | ⟨u, w2, w3⟩⟩
    · exact w.1
    · exact absurd w2.symm (h1 w1).1
    · exact absurd w2.symm (h1 w1).2.2
    · exact absurd ⟨w2, w3.symm⟩ ((h1 w1).2.1 u)
  · exact absurd ⟨w1, w2.symm⟩ (h2 u)
theorem Fix.pos {G : GD} {rd P T : Nat → Nat} {i v : Nat} (h : Fix G rd P i T) (hv : v < G.N) : 1 ≤ i + T v := by
  rcases Nat.eq_zero_or_pos i with w | w
  · rcases (h v hv).2.2 with g | ⟨u, g1, g2⟩
    · rcases g with g | g <;> omega
    · omega
  · omega
theorem Tr.chain {G : GD} {rd : Nat → Nat} {E : Nat → Nat → Nat} {ed wk : Nat → Nat} {NE NW : Nat} : ∀ {k i v ne nw : Nat}, v < G.N → Tr G rd E ed wk NE NW k i v ne nw → wk nw = v ∧ nw < NW ∧ (∀ j, nw ≤ j → j < NW → wk j < G.N) ∧ ∀ j, nw ≤ j → j + 1 < NW → Fo G (wk (j + 1)) (wk j) := by
  intro k
  induction k with
  | zero => intro i v ne nw hv h; exact h.elim
  | succ k ih =>
    intro i v ne nw hv h
    have one : wk nw = v → NW = nw + 1 → wk nw = v ∧ nw < NW ∧ (∀ j, nw ≤ j → j < NW → wk j < G.N) ∧ ∀ j, nw ≤ j → j + 1 < NW → Fo G (wk (j + 1)) (wk j) := fun w1 w2 => ⟨w1, by omega, fun j j1 j2 => by
      obtain rfl : j = nw := by omega
      rw [w1]; exact hv, fun j j1 j2 => by omega⟩
    have more : ∀ u i', Fo G u v → wk nw = v → Tr G rd E ed wk NE NW k i' u (ne + 1) (nw + 1) → wk nw = v ∧ nw < NW ∧ (∀ j, nw ≤ j → j < NW → wk j < G.N) ∧ ∀ j, nw ≤ j → j + 1 < NW → Fo G (wk (j + 1)) (wk j) := fun u i' hF w1 w2 => by
      obtain ⟨g1, g2, g3, g4⟩ := ih hF.lt.1 w2
      refine ⟨w1, by omega, fun j j1 j2 => ?_, fun j j1 j2 => ?_⟩
      · by_cases e1 : j = nw
        · subst e1; rw [w1]; exact hv
        · exact g3 j (by omega) j2
      · by_cases e1 : j = nw
        · subst e1; rw [w1, g1]; exact hF
        · exact g4 j (by omega) j2
    rcases h with ⟨h1, h2, h3, h4, h5, h6, h7⟩ | ⟨h1, h2, u, h3, h4, h5, h6⟩ | ⟨h1, h2, h3, h4, h5, h6⟩ | ⟨h1, u, h3, h4, h5, h6⟩ | ⟨h1, h2, h3, h4, h5, h6, h7⟩
    · exact one h4 h7
    · exact more u _ h3.1.1 h5 h6
    · exact ih hv h6
    · exact more u _ h3.1.1 h5 h6
    · exact one h4 h7
def Best (G : GD) (T : Nat → Nat) (b : Nat) : Prop := b < G.N ∧ (∀ u, u < G.N → T b ≤ T u) ∧ ∀ u, u < b → T b < T u
theorem Best.uniq {G : GD} {T : Nat → Nat} {b b' : Nat} (h : Best G T b) (h' : Best G T b') : b = b' := by
  rcases Nat.lt_trichotomy b b' with w | w | w
  · have := h'.2.2 b w; have := h.2.1 b' h'.1; omega
  · exact w
  · have := h.2.2 b' w; have := h'.2.1 b h.1; omega
/-! the class's way back -/
theorem s_bestPlace {Q : Int32 → Unit → Prop} {G : GD} {tb : Nat → Int32} {i : Nat} {T : Nat → Nat} (hG : G.ok) (hi : i ≤ 12) (hN : 1 ≤ G.N) (hW : RW G tb i T) (hT : ∀ v, v < G.N → T v < 100) (h : ∀ b, Best G T b → Q (nI b) ()) : wp_Co_bestPlace Q (nI i) tb (nI G.N) := by
  have h64 := hG.n64
  have L : ∀ (j v b : Nat), v + j = G.N → b < v → (∀ u, u < v → T b ≤ T u) → (∀ u, u < b → T b < T u) → ∃ m, w_Co_bestPlace_5 Q (nI i) tb (nI G.N) m (nI b) (nI v) := by
    intro j
    induction j with
    | zero =>
      intro v b hv hb h1 h2
      refine ⟨1, ?_⟩
      show w_Co_bestPlace_5B Q _ (nI i) tb (nI G.N) _ _
      unfold w_Co_bestPlace_5B
      exact ⟨fun _ => h b ⟨by omega, fun u hu => h1 u (by omega), h2⟩, fun q => absurd (nI_le (by omega) (by omega)) q⟩
    | succ j ih =>
      intro v b hv hb h1 h2
      have hTv := hT v (by omega)
      have hTb := hT b (by omega)
      rcases Nat.lt_or_ge (T v) (T b) with w | w
      · obtain ⟨m, hm⟩ := ih (v + 1) v (by omega) (by omega) (fun u hu => by
          by_cases e1 : u = v
          · subst e1; exact Nat.le_refl _
          · have := h1 u (by omega); omega) (fun u hu => by have := h1 u hu; omega)
        refine ⟨m + 1, ?_⟩
        show w_Co_bestPlace_5B Q _ (nI i) tb (nI G.N) _ _
        unfold w_Co_bestPlace_5B
        refine ⟨fun q => absurd ((nI_leI (by omega) (by omega)).mp q) (by omega), fun _ => ?_⟩
        refine s_Co_at hG hi (by omega) hW (s_Co_at hG hi (by omega) hW ⟨fun q => absurd ((nI_leI (by omega) (by omega)).mp q) (by omega), fun _ => ?_⟩)
        unfold w_Co_bestPlace_33
        simp only [forall_eq]
        rw [nI_1]
        exact hm
      · obtain ⟨m, hm⟩ := ih (v + 1) b (by omega) (by omega) (fun u hu => by
          by_cases e1 : u = v
          · subst e1; exact w
          · exact h1 u (by omega)) h2
        refine ⟨m + 1, ?_⟩
        show w_Co_bestPlace_5B Q _ (nI i) tb (nI G.N) _ _
        unfold w_Co_bestPlace_5B
        refine ⟨fun q => absurd ((nI_leI (by omega) (by omega)).mp q) (by omega), fun _ => ?_⟩
        refine s_Co_at hG hi (by omega) hW (s_Co_at hG hi (by omega) hW ⟨fun _ => ?_, fun q => absurd (nI_le w (by omega)) q⟩)
        unfold w_Co_bestPlace_33
        simp only [forall_eq]
        rw [nI_1]
        exact hm
  exact L (G.N - 1) 1 0 (by omega) (by omega) (fun u hu => by obtain rfl : u = 0 := by omega
                                                              exact Nat.le_refl _) (fun u hu => absurd hu (Nat.not_lt_zero _))
theorem s_placeBefore {Q : Int32 → Unit → Prop} {G : GD} {tb : Nat → Int32} {i c v m d : Nat} {E : Nat → Nat → Nat} {jf jt : Nat → Nat} {aJ aK : Nat → Int32} (hG : G.ok) (hJ : JS G c jf jt aJ aK) (hC : JC G c jf jt) (hc : c ≤ 72) (hi : i ≤ 12) (hW : RW G tb i (E i)) (hT : ∀ v, v < G.N → E i v < 100) (hm : m ≤ 1) (hd : d < 100) (hv : v < G.N)
    (h1 : ∀ u, Lst (Bf G E i m d v) u → Q (nI u) ()) (h0 : (∀ u, ¬ Bf G E i m d v u) → Q (-1) ()) : wp_Co_placeBefore Q (nI v) (nI i) (nI d - nI m) tb (nI c) aJ aK := by
  have h64 := hG.n64
  have cmp : ∀ e, e < 100 → (nI e = nI d - nI m ↔ e + m = d) := by
    intro e he
    rcases Nat.lt_or_ge d m with w | w
    · have e1 : d = 0 ∧ m = 1 := by omega
      rw [e1.1, e1.2]
      refine ⟨fun q => absurd (nI_pos (n := e) (by omega)) ?_, fun q => by omega⟩
      rw [q]
      decide
    · rw [pk_sub w, nI_eq (by omega) (by omega)]
      omega
  have L : ∀ (j k : Nat), k + j = c → (∀ l, l < k → ¬ (jt l = v ∧ E i (jf l) + m = d)) → ∃ z, w_Co_placeBefore_3 Q (nI v) (nI i) (nI d - nI m) tb (nI c) aJ aK z (nI k) := by
    intro j
    induction j with
    | zero =>
      intro k hk hl
      refine ⟨1, ?_⟩
      show w_Co_placeBefore_3B Q _ (nI v) (nI i) _ tb (nI c) aJ aK _
      unfold w_Co_placeBefore_3B
      refine ⟨fun _ => h0 (fun u hB => ?_), fun q => absurd (nI_le (by omega) (by omega)) q⟩
      obtain ⟨l, l1, l2, l3⟩ := hC u v hB.1
      exact hl l (by omega) ⟨l3, by rw [l2]; exact hB.2⟩
    | succ j ih =>
      intro k hk hl
      obtain ⟨j1, j2, j3⟩ := hJ.1 k (by omega)
      have hu : jf k < G.N := j3.lt.1
      have hv' : jt k < G.N := j3.lt.2
      by_cases hB : jt k = v ∧ E i (jf k) + m = d
      · refine ⟨1, ?_⟩
        show w_Co_placeBefore_3B Q _ (nI v) (nI i) _ tb (nI c) aJ aK _
        unfold w_Co_placeBefore_3B
        refine ⟨fun q => absurd ((nI_leI (by omega) (by omega)).mp q) (by omega), fun _ => ?_⟩
        simp only [forall_eq]
        rw [nI_clamp (by omega), j1, j2]
        refine ⟨vp_in_nI (by omega) (by omega), fun _ => ⟨vp_in_nI (by omega) (by omega), s_Co_at hG hi hu hW ⟨fun _ => ⟨vp_in_nI (by omega) (by omega), ?_⟩, fun q => absurd ((cmp _ (hT _ hu)).mpr hB.2) q⟩⟩, fun q => absurd (congrArg nI hB.1) q⟩
        refine h1 (jf k) ⟨⟨by rw [← hB.1]; exact j3, hB.2⟩, fun w hw hBw => ?_⟩
        obtain ⟨l, l1, l2, l3⟩ := hC w v hBw.1
        have : l < k := by
          rcases Nat.lt_or_ge l k with z | z
          · exact z
          · exfalso
            rcases Nat.eq_or_lt_of_le z with z | z
            · rw [← z] at l2; omega
            · have := hJ.2 k l z l1; omega
        exact hl l this ⟨l3, by rw [l2]; exact hBw.2⟩
      · obtain ⟨z, hz⟩ := ih (k + 1) (by omega) (fun l hl' => by
          by_cases e1 : l = k
          · subst e1; exact hB
          · exact hl l (by omega))
        refine ⟨z + 1, ?_⟩
        show w_Co_placeBefore_3B Q _ (nI v) (nI i) _ tb (nI c) aJ aK _
        unfold w_Co_placeBefore_3B
        refine ⟨fun q => absurd ((nI_leI (by omega) (by omega)).mp q) (by omega), fun _ => ?_⟩
        simp only [forall_eq]
        rw [nI_clamp (by omega), j1, j2]
        have nx : w_Co_placeBefore_48 Q (w_Co_placeBefore_3 Q (nI v) (nI i) (nI d - nI m) tb (nI c) aJ aK z) (nI v) (nI i) (nI d - nI m) tb (nI c) aJ aK (nI k) := by
          unfold w_Co_placeBefore_48
          simp only [forall_eq]
          rw [nI_1]
          exact hz
        refine ⟨vp_in_nI (by omega) (by omega), fun q => ⟨vp_in_nI (by omega) (by omega), s_Co_at hG hi hu hW ⟨fun q2 => absurd ⟨(nI_eq (by omega) (by omega)).mp q, (cmp _ (hT _ hu)).mp q2⟩ hB, fun _ => nx⟩⟩, fun _ => nx⟩
  exact L c 0 (by omega) (fun l hl => absurd hl (Nat.not_lt_zero _))
/-! edits and places noted -/
def NT (a : Nat → Int32) (f : Nat → Nat) (n : Nat) : Prop := ∀ j, j < n → a j = nI (f j)
theorem NT.add {a : Nat → Int32} {f : Nat → Nat} {n v : Nat} (h : NT a f n) : NT (upd a n (nI v)) (fu f n v) (n + 1) := fun j hj => by
  by_cases e1 : j = n
  · subst e1; rw [pk_us, fu_s]
  · rw [pk_un e1, fu_n e1]; exact h j (by omega)
theorem s_addEdit {Q : (Int32 × (Nat → Int32)) → Prop} {c ne : Nat} {eb : Nat → Int32} (hc : c < 65536) (hn : ne < 25) (h : Q (nI (ne + 1), upd eb ne (nI c))) : wp_Rs_addEdit Q (nI c) (nI ne) eb := by
  unfold wp_Rs_addEdit
  refine ⟨fun q => absurd ((nI_leI (a := 25) (by omega) (by omega)).mp q) (by omega), fun _ => ?_⟩
  simp only [forall_eq]
  rw [nI_clamp (by omega), nar_c hc, nI_1]
  exact ⟨vp_in_nI (by omega) (by omega), h⟩
theorem s_usePlace {Q : (Int32 × Int32 × (Nat → Int32) × (Nat → Int32)) → Prop} {c ne nw v : Nat} {wb eb : Nat → Int32} (hc : c < 65536) (hn : ne < 25) (hw : nw < 25) (h : Q (nI (nw + 1), nI (ne + 1), upd wb nw (nI v), upd eb ne (nI c))) : wp_Rs_usePlace Q (nI c) (nI nw) (nI ne) (nI v) wb eb := by
  unfold wp_Rs_usePlace
  refine s_addEdit hc hn ⟨fun q => absurd ((nI_leI (a := 25) (by omega) (by omega)).mp q) (by omega), fun _ => ?_⟩
  simp only [forall_eq]
  rw [nI_clamp (by omega), nI_1]
  exact ⟨vp_in_nI (by omega) (by omega), h⟩
theorem s_insertFirst {Q : (Int32 × (Nat → Int32)) → Prop} {n ne : Nat} {f : Nat → Nat} {eb : Nat → Int32} (hn : ne + n ≤ 25) (hE : NT eb f ne) (h : ∀ f' eb', NT eb' f' (ne + n) → (∀ j, j < ne → f' j = f j) → (∀ j, j < n → f' (ne + j) = 73) → Q (nI (ne + n), eb')) : wp_Rs_insertFirst Q (nI n) (nI ne) eb := by
  have L : ∀ (j k : Nat) (f' : Nat → Nat) (eb' : Nat → Int32), k + j = n → NT eb' f' (ne + k) → (∀ j, j < ne → f' j = f j) → (∀ j, j < k → f' (ne + j) = 73) → ∃ m, w_Rs_insertFirst_2 Q (nI n) m (nI k) (nI (ne + k)) eb' := by
    intro j
    induction j with
    | zero =>
      intro k f' eb' hk h1 h2 h3
      obtain rfl : k = n := by omega
      refine ⟨1, ?_⟩
      show w_Rs_insertFirst_2B Q _ (nI k) _ _ _
      unfold w_Rs_insertFirst_2B
      exact ⟨fun _ => h f' eb' h1 h2 h3, fun q => absurd (nI_le (by omega) (by omega)) q⟩
    | succ j ih =>
      intro k f' eb' hk h1 h2 h3
      obtain ⟨m, hm⟩ := ih (k + 1) (fu f' (ne + k) 73) (upd eb' (ne + k) (nI 73)) (by omega) h1.add (fun j hj => by rw [fu_n (by omega)]; exact h2 j hj) (fun j hj => by
        by_cases e1 : j = k
        · subst e1; exact fu_s
        · rw [fu_n (by omega)]; exact h3 j (by omega))
      refine ⟨m + 1, ?_⟩
      show w_Rs_insertFirst_2B Q _ (nI n) _ _ _
      unfold w_Rs_insertFirst_2B
      refine ⟨fun q => absurd ((nI_leI (by omega) (by omega)).mp q) (by omega), fun _ => ?_⟩
      refine s_addEdit (c := 73) (by omega) (by omega) ?_
      simp only [forall_eq]
      rw [nI_1]
      exact hm
  exact L n 0 f eb (by omega) hE (fun j hj => rfl) (fun j hj => absurd hj (Nat.not_lt_zero _))
