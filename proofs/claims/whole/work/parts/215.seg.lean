/-! segments and places -/
def st0 (ln : Nat → Nat) : Nat → Nat
  | 0 => 0
  | s + 1 => st0 ln s + 2 * ln s
def cp (b : Nat) : Nat := if b = 65 then 84 else if b = 67 then 71 else if b = 71 then 67 else 65
theorem cp_lt (b : Nat) : 65 ≤ cp b ∧ cp b ≤ 84 := by unfold cp; split <;> (try split) <;> (try split) <;> omega
theorem isBs_range {c : Nat} (h : isBs c = true) : 65 ≤ c ∧ c ≤ 84 := by
  have : ((c = 65 ∨ c = 67) ∨ c = 71) ∨ c = 84 := by simpa [isBs] using h
  omega
theorem nar_c {q : Nat} (h : q < 65536) : vp_nar .char (nI q) = nI q := by
  unfold vp_nar
  rw [(pk_charN h).1]
theorem st0_congr {ln ln' : Nat → Nat} : ∀ {s : Nat}, (∀ r, r < s → ln r = ln' r) → st0 ln s = st0 ln' s := by
  intro s
  induction s with
  | zero => intro _; rfl
  | succ s ih =>
    intro h
    show st0 ln s + 2 * ln s = st0 ln' s + 2 * ln' s
    rw [ih (fun r hr => h r (by omega)), h s (by omega)]
theorem st0_le {ln : Nat → Nat} : ∀ {s : Nat}, (∀ r, r < s → ln r ≤ 4) → st0 ln s ≤ 8 * s := by
  intro s
  induction s with
  | zero => intro _; show 0 ≤ 0; omega
  | succ s ih =>
    intro h
    have h1 := ih (fun r hr => h r (by omega))
    have h2 := h s (by omega)
    show st0 ln s + 2 * ln s ≤ _
    omega
theorem st0_mono {ln : Nat → Nat} {r s : Nat} (h : r < s) : st0 ln r + 2 * ln r ≤ st0 ln s := by
  induction s with
  | zero => omega
  | succ s ih =>
    show _ ≤ st0 ln s + 2 * ln s
    by_cases e : r = s
    · subst e; omega
    · have := ih (by omega)
      omega
def XS (S : Nat) (nm ln : Nat → Nat) (bs : Nat → Nat → Nat) (aN aS aB aP : Nat → Int32) : Prop :=
  ∀ s, s < S → (1 ≤ ln s ∧ ln s ≤ 4) ∧ aN s = nI (nm s) ∧ aS (2 * s) = nI (st0 ln s) ∧ aS (2 * s + 1) = nI (st0 ln s + ln s) ∧ ∀ i, i < ln s → isBs (bs s i) = true ∧ aB (st0 ln s + i) = nI (bs s i) ∧ aP (st0 ln s + i) = nI (2 * s) ∧ aB (st0 ln s + ln s + i) = nI (cp (bs s (ln s - 1 - i))) ∧ aP (st0 ln s + ln s + i) = nI (2 * s + 1)
def fu2 (f : Nat → Nat → Nat) (k : Nat) (v : Nat → Nat) : Nat → Nat → Nat := fun j => if j = k then v else f j
theorem fu2_s {f : Nat → Nat → Nat} {k : Nat} {v : Nat → Nat} : fu2 f k v k = v := if_pos rfl
theorem fu2_n {f : Nat → Nat → Nat} {k j : Nat} {v : Nat → Nat} (h : j ≠ k) : fu2 f k v j = f j := if_neg h
theorem s_partner {Q : Int32 → Unit → Prop} {k : Nat} (hk : k < 65536) (h : Q (nI (cp k)) ()) : wp_X_partner Q (nI k) := by
  have e : ∀ j : Nat, j < 200 → (nI k = nI j ↔ k = j) := fun j hj => nI_eq (by omega) (by omega)
  unfold cp at h
  unfold wp_X_partner
  rw [show (65 : Int32) = nI 65 from rfl, show (67 : Int32) = nI 67 from rfl, show (71 : Int32) = nI 71 from rfl, show (84 : Int32) = nI 84 from rfl, e 65 (by omega), e 67 (by omega), e 71 (by omega)]
  refine ⟨fun q => ?_, fun q => ⟨fun q2 => ?_, fun q2 => ⟨fun q3 => ?_, fun q3 => ?_⟩⟩⟩
  · rw [if_pos q] at h; exact h
  · rw [if_neg q, if_pos q2] at h; exact h
  · rw [if_neg q, if_neg q2, if_pos q3] at h; exact h
  · rw [if_neg q, if_neg q2, if_neg q3] at h; exact h
theorem s_addPlace {Q : (Int32 × (Nat → Int32) × (Nat → Int32)) → Prop} {b x p : Nat} {aB aP : Nat → Int32} (hb : b < 65536) (hp : p < 64) (h : Q (nI (p + 1), upd aB p (nI b), upd aP p (nI x))) : wp_Gr_addPlace Q (nI b) (nI x) (nI p) aB aP := by
  unfold wp_Gr_addPlace
  rw [nI_clamp (by omega), nar_c hb]
  simp only [forall_eq, L0, NA]
  exact ⟨vp_in_nI hp (by omega), vp_in_nI hp (by omega), h⟩
/-- the cells of places that a segment's two sides bring -/
def PB (p m S : Nat) (t : Nat → Nat) (k i : Nat) (aB aP B P : Nat → Int32) : Prop := (∀ j, j < p → B j = aB j ∧ P j = aP j) ∧ (∀ j, j < k → B (p + j) = nI (t j) ∧ P (p + j) = nI (2 * S)) ∧ (∀ j, j < i → B (p + m + j) = nI (cp (t (m - 1 - j))) ∧ P (p + m + j) = nI (2 * S + 1))
theorem s_addSegment {Q : Int32 → (Int32 × Int32 × (Nat → Int32) × (Nat → Int32) × (Nat → Int32) × (Nat → Int32)) → Prop} {f : Nat → Int32} {t : Nat → Nat} {n a m S x : Nat} {nm ln : Nat → Nat} {bs : Nat → Nat → Nat} {aN aS aB aP : Nat → Int32} (hT : Tx f t n) (ham : a + m ≤ n) (hbs : ∀ i, i < m → isBs (t (a + i)) = true) (hS : S ≤ 8) (hx : x < 2097152) (hok : NMok nm S) (hX : XS S nm ln bs aN aS aB aP)
    (h1 : S < 8 → 1 ≤ m → m ≤ 4 → (∀ r, ¬ Fst nm S x r) → ∀ aN' aS' aB' aP', XS (S + 1) (fu nm S x) (fu ln S m) (fu2 bs S (fun i => t (a + i))) aN' aS' aB' aP' → Q 1 (nI (S + 1), nI (st0 (fu ln S m) (S + 1)), aN', aS', aB', aP')) (h0 : ¬ (S < 8 ∧ 1 ≤ m ∧ m ≤ 4 ∧ ∀ r, ¬ Fst nm S x r) → Q 0 (nI S, nI (st0 ln S), aN, aS, aB, aP)) : wp_Gr_addSegment Q (nI x) (nI a) (nI m) (nI S) (nI (st0 ln S)) aN aS aB aP 400 f := by
  have hn := hT.1
  have hst : st0 ln S ≤ 8 * S := st0_le (fun r hr => (hX r hr).1.2)
  have hlast : st0 (fu ln S m) S = st0 ln S := st0_congr (fun r hr => fu_n (by omega))
  have hfin : st0 (fu ln S m) (S + 1) = st0 ln S + 2 * m := by
    show st0 (fu ln S m) S + 2 * (fu ln S m S) = _
    rw [hlast, fu_s]
  have hcd : ∀ i, i < m → 65 ≤ t (a + i) ∧ t (a + i) ≤ 84 := fun i hi => isBs_range (hbs i hi)
  -- the end
  have done : S < 8 → 1 ≤ m → m ≤ 4 → (∀ r, ¬ Fst nm S x r) → ∀ B P, PB (st0 ln S) m S (fun i => t (a + i)) m m aB aP B P → Q 1 (nI (S + 1), nI (st0 ln S + m + m), upd aN S (nI x), upd (upd aS (2 * S) (nI (st0 ln S))) (2 * S + 1) (nI (st0 ln S + m)), B, P) := by
    intro g1 g2 g3 g4 B P hB
    rw [show st0 ln S + m + m = st0 (fu ln S m) (S + 1) by omega]
    refine h1 g1 g2 g3 g4 _ _ _ _ (fun s hs => ?_)
    by_cases e : s = S
    · subst e
      rw [hlast, fu_s, fu_s, fu2_s, pk_us, pk_us, pk_un (by omega), pk_us]
      refine ⟨⟨g2, g3⟩, rfl, rfl, rfl, fun i hi => ⟨hbs i hi, (hB.2.1 i hi).1, (hB.2.1 i hi).2, (hB.2.2 i hi).1, (hB.2.2 i hi).2⟩⟩
    · obtain ⟨k1, k2, k3, k4, k5⟩ := hX s (by omega)
      have hs' : st0 (fu ln S m) s = st0 ln s := st0_congr (fun r hr => fu_n (by omega))
      have hm := st0_mono (ln := ln) (show s < S by omega)
      rw [hs', fu_n e, fu_n e, fu2_n e, pk_un e, pk_un (show (2 * s : Nat) ≠ 2 * S + 1 by omega), pk_un (show (2 * s : Nat) ≠ 2 * S by omega), pk_un (show 2 * s + 1 ≠ 2 * S + 1 by omega), pk_un (show 2 * s + 1 ≠ 2 * S by omega)]
      refine ⟨k1, k2, k3, k4, fun i hi => ?_⟩
      obtain ⟨q1, q2, q3, q4, q5⟩ := k5 i hi
      rw [(hB.1 (st0 ln s + i) (by omega)).1, (hB.1 (st0 ln s + i) (by omega)).2, (hB.1 (st0 ln s + ln s + i) (by omega)).1, (hB.1 (st0 ln s + ln s + i) (by omega)).2]
      exact ⟨q1, q2, q3, q4, q5⟩
  -- backwards
  have L2 : S < 8 → 1 ≤ m → m ≤ 4 → (∀ r, ¬ Fst nm S x r) → ∀ (j i : Nat) (B P : Nat → Int32) (z : Int32), i + j = m → z = nI (m - i) + (-1) → PB (st0 ln S) m S (fun i => t (a + i)) m i aB aP B P → ∃ u, w_Gr_addSegment_130 Q (nI a) 400 f u (nI (2 * S)) z (nI (S + 1)) (nI (st0 ln S + m + i)) (upd aN S (nI x)) (upd (upd aS (2 * S) (nI (st0 ln S))) (2 * S + 1) (nI (st0 ln S + m))) B P := by
    intro g1 g2 g3 g4 j
    induction j with
    | zero =>
      intro i B P z hi hz hB
      refine ⟨1, ?_⟩
      show w_Gr_addSegment_130B _ _ _ _ _ _ _ _ _ _ _ _ _
      unfold w_Gr_addSegment_130B
      have : z < 0 := by
        rw [hz, show m - i = 0 by omega]
        decide
      obtain rfl : i = m := by omega
      exact ⟨fun _ => done g1 g2 g3 g4 B P hB, fun q => absurd this q⟩
    | succ j ih =>
      intro i B P z hi hz hB
      have hz' : z = nI (m - 1 - i) := by rw [hz, show m - i = (m - 1 - i) + 1 by omega]; exact pk_m1 _
      obtain ⟨u, hu⟩ := ih (i + 1) (upd B (st0 ln S + m + i) (nI (cp (t (a + (m - 1 - i)))))) (upd P (st0 ln S + m + i) (nI (2 * S + 1))) (z + (-1)) (by omega) (by rw [hz', show m - (i + 1) = m - 1 - i by omega]) ⟨fun q hq => by rw [pk_un (by omega), pk_un (by omega)]; exact hB.1 q hq, fun q hq => by rw [pk_un (by omega), pk_un (by omega)]; exact hB.2.1 q hq, fun q hq => by
        by_cases e : q = i
        · subst e; rw [pk_us, pk_us]; exact ⟨rfl, rfl⟩
        · rw [pk_un (by omega), pk_un (by omega)]; exact hB.2.2 q (by omega)⟩
      refine ⟨u + 1, ?_⟩
      show w_Gr_addSegment_130B _ _ _ _ _ _ _ _ _ _ _ _ _
      unfold w_Gr_addSegment_130B
      have ht := hT.2 (a + (m - 1 - i)) (by omega)
      have hc := hcd (m - 1 - i) (by omega)
      refine ⟨fun q => absurd q (by rw [hz']; exact nI_pos (by omega)), fun _ => ?_⟩
      simp only [forall_eq]
      rw [hz', nI_add, nI_clamp (by omega), ht.1]
      refine ⟨vp_in_nI (by omega) (by omega), ?_⟩
      refine s_partner (by omega) ?_
      refine s_turned (by omega) ?_
      have htn : tn (2 * S) = 2 * S + 1 := by unfold tn; rw [if_pos (by omega)]
      rw [htn]
      have hcp := cp_lt (t (a + (m - 1 - i)))
      refine s_addPlace (by omega) (by omega) ?_
      rw [hz'] at hu
      exact hu
  -- forwards
  have L1 : S < 8 → 1 ≤ m → m ≤ 4 → (∀ r, ¬ Fst nm S x r) → ∀ (j k : Nat) (B P : Nat → Int32), k + j = m → PB (st0 ln S) m S (fun i => t (a + i)) k 0 aB aP B P → ∃ u, w_Gr_addSegment_85 Q (nI a) (nI m) 400 f u (nI (2 * S)) (nI k) (nI (S + 1)) (nI (st0 ln S + k)) (upd aN S (nI x)) (upd aS (2 * S) (nI (st0 ln S))) B P := by
    intro g1 g2 g3 g4 j
    induction j with
    | zero =>
      intro k B P hk hB
      obtain rfl : k = m := by omega
      obtain ⟨u, hu⟩ := L2 g1 g2 g3 g4 k 0 B P (nI (k - 1)) (by omega) (by rw [show k - 0 = (k - 1) + 1 by omega]; exact (pk_m1 _).symm) hB
      refine ⟨1, ?_⟩
      show w_Gr_addSegment_85B _ _ _ _ _ _ _ _ _ _ _ _ _ _
      unfold w_Gr_addSegment_85B
      refine ⟨fun _ => ?_, fun q => absurd (nI_le (by omega) (by omega)) q⟩
      refine s_turned (by omega) ?_
      have htn : tn (2 * S) = 2 * S + 1 := by unfold tn; rw [if_pos (by omega)]
      rw [htn, nI_clamp (by omega)]
      refine ⟨vp_in_nI (by omega) (by omega), ?_⟩
      simp only [forall_eq]
      rw [show (1 : Int32) = nI 1 from rfl, pk_sub g2]
      exact ⟨u, hu⟩
    | succ j ih =>
      intro k B P hk hB
      obtain ⟨u, hu⟩ := ih (k + 1) (upd B (st0 ln S + k) (nI (t (a + k)))) (upd P (st0 ln S + k) (nI (2 * S))) (by omega) ⟨fun q hq => by rw [pk_un (by omega), pk_un (by omega)]; exact hB.1 q hq, fun q hq => by
        by_cases e : q = k
        · subst e; rw [pk_us, pk_us]; exact ⟨rfl, rfl⟩
        · rw [pk_un (by omega), pk_un (by omega)]; exact hB.2.1 q (by omega), fun q hq => by omega⟩
      refine ⟨u + 1, ?_⟩
      show w_Gr_addSegment_85B _ _ _ _ _ _ _ _ _ _ _ _ _ _
      unfold w_Gr_addSegment_85B
      have ht := hT.2 (a + k) (by omega)
      have hc := hcd k (by omega)
      refine ⟨fun q => absurd ((nI_leI (by omega) (by omega)).mp q) (by omega), fun _ => ?_⟩
      simp only [forall_eq]
      rw [nI_add, nI_clamp (by omega), ht.1]
      refine ⟨vp_in_nI (by omega) (by omega), ?_⟩
      refine s_addPlace (by omega) (by omega) ?_
      rw [nI_1]
      exact hu
  have no : ¬ (S < 8 ∧ 1 ≤ m ∧ m ≤ 4) → w_Gr_addSegment_25 Q (nI x) (nI a) (nI m) 400 f (nI S) (nI (st0 ln S)) aN aS aB aP := fun z => by
    unfold w_Gr_addSegment_25 w_Gr_addSegment_26
    exact ⟨fun _ => h0 (fun w => z ⟨w.1, w.2.1, w.2.2.1⟩), fun q => absurd rfl q⟩
  unfold wp_Gr_addSegment
  refine ⟨fun q => no (fun z => ?_), fun q => ⟨fun q2 => no (fun z => ?_), fun q2 => ⟨fun q3 => no (fun z => ?_), fun q3 => ?_⟩⟩⟩
  · have : 8 ≤ S := (nI_leI (a := 8) (by omega) (by omega)).mp q
    omega
  · have : m < 1 := (nI_ltI (b := 1) (by omega) (by omega)).mp q2
    omega
  · have : 4 < m := (nI_ltI (a := 4) (by omega) (by omega)).mp q3
    omega
  · have g1 : S < 8 := Nat.not_le.mp (fun z => q ((nI_leI (a := 8) (by omega) (by omega)).mpr z))
    have g2 : 1 ≤ m := Nat.not_lt.mp (fun z => q2 ((nI_ltI (b := 1) (by omega) (by omega)).mpr z))
    have g3 : m ≤ 4 := Nat.not_lt.mp (fun z => q3 ((nI_ltI (a := 4) (by omega) (by omega)).mpr z))
    unfold w_Gr_addSegment_26
    refine ⟨fun z => absurd z (by decide), fun _ => ?_⟩
    refine s_segmentNamed (by omega) hS (fun j hj => (hX j hj).2.1) hok (fun r hr => ⟨fun z => absurd z (nI_pos (by have := hr.1; omega)), fun _ => h0 (fun w => w.2.2.2 r hr)⟩) (fun hr => ⟨fun _ => ?_, fun z => absurd (by decide) z⟩)
    simp only [forall_eq]
    rw [show (2 : Int32) = nI 2 from rfl, pk_mul, nI_clamp (by omega), nI_clamp (by omega), nI_1]
    refine ⟨vp_in_nI (by omega) (by omega), vp_in_nI (by omega) (by omega), ?_⟩
    exact L1 g1 g2 g3 hr m 0 aB aP (by omega) ⟨fun j _ => ⟨rfl, rfl⟩, fun j hj => by omega, fun j hj => by omega⟩
