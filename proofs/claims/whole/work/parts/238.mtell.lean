/-! the record, as the reference writes it -/
def MT (said : Nat → Int32) (l : List Nat) : Prop := ∀ j, j < l.length → l.getD j 0 < 128 ∧ said j = nI (l.getD j 0)
theorem s_put {Q : (Int32 × (Nat → Int32)) → Prop} {c : Nat} {said : Nat → Int32} {l : List Nat} (h : MT said l) (hl : l.length < 300) (hc : c < 128) (k : ∀ said', MT said' (l ++ [c]) → Q (nI (l ++ [c]).length, said')) : wp_Mo_put Q (nI c) (nI l.length) said := by
  unfold wp_Mo_put
  refine ⟨vp_in_nI hl (by omega), nm_r (e' := upd said l.length (nI c)) (by rw [nI_clamp (by omega), nar_c (by omega)]) (nm_r (nI_1 _) ?_)⟩
  have el : (l ++ [c]).length = l.length + 1 := by simp
  rw [el] at k
  refine k _ (fun j hj => ?_)
  rw [el] at hj
  by_cases w : j < l.length
  · rw [gd_lo w, pk_un (by omega)]
    exact h j w
  · obtain rfl : j = l.length + 0 := by omega
    rw [gd_hi]
    exact ⟨hc, pk_us⟩
theorem s_putNumber {Q : (Int32 × (Nat → Int32)) → Prop} {v : Nat} {said : Nat → Int32} {l : List Nat} (h : MT said l) (hl : l.length < 299) (hv : v < 100) (k : ∀ said', MT said' (l ++ num v) → Q (nI (l ++ num v).length, said')) : wp_Mo_putNumber Q (nI v) (nI l.length) said := by
  have A : ∀ (l : List Nat) (said : Nat → Int32), MT said l → l.length < 300 → (∀ said', MT said' (l ++ [48 + v % 10]) → Q (nI (l ++ [48 + v % 10]).length, said')) → w_Mo_putNumber_18 Q (nI v) (nI l.length) said := by
    intro l said h hl k
    unfold w_Mo_putNumber_18
    refine nm_r (e' := nI (48 + v % 10)) (by rw [show (10 : Int32) = nI 10 from rfl, c_mod (by omega) (by omega) (by omega), show (48 : Int32) = nI 48 from rfl, nI_add, c_chr (by omega)]) (s_put h hl (by omega) k)
  unfold wp_Mo_putNumber
  by_cases h9 : v < 10
  · have e : num v = [48 + v % 10] := by unfold num; rw [if_pos h9, show v % 10 = v by omega]
    rw [e] at k
    exact br_t (show nI v ≤ nI 9 from (nI_leI (by omega) (by omega)).mpr (by omega)) (A l said h (by omega) k)
  · have e : l ++ num v = l ++ [48 + v / 10] ++ [48 + v % 10] := by unfold num; rw [if_neg h9]; simp
    rw [e] at k
    refine br_f (fun q => absurd ((nI_leI (b := 9) (by omega) (by omega)).mp q) (by omega)) (nm_r (e' := nI (48 + v / 10)) (by rw [show (10 : Int32) = nI 10 from rfl, pk_div (by omega) (by omega) (by omega), show (48 : Int32) = nI 48 from rfl, nI_add, c_chr (by omega)]) (s_put h (by omega) (by omega) (fun said' h' => ?_)))
    exact A _ _ h' (by simp only [List.length_append, List.length_singleton]; omega) k
theorem s_Mo_edit {Q : Int32 → Unit → Prop} {k NE : Nat} {ed : Nat → Nat} {edits : Nat → Int32} (hN : NE ≤ 24) (hW : NT edits ed NE) (hk : k < NE) (h : Q (nI (ed (NE - 1 - k))) ()) : wp_Mo_edit Q (nI k) 1 (nI NE) edits := by
  unfold wp_Mo_edit
  refine ⟨fun q => absurd q (by decide), fun _ => ⟨fun q => absurd q (nI_pos (by omega)), fun _ => ⟨fun q => absurd ((nI_leI (by omega) (by omega)).mp q) (by omega), fun _ => ?_⟩⟩⟩
  refine nm_r (e' := nI (NE - 1 - k)) (by rw [show (1 : Int32) = nI 1 from rfl, pk_sub (by omega), pk_sub (by omega)]) ⟨vp_in_nI (by omega) (by omega), nm_r (e' := nI (ed (NE - 1 - k))) (by rw [nI_clamp (by omega)]; exact hW _ (by omega)) h⟩
theorem nmL_pck {c : Nat → Nat} {k : Nat} (h1 : 1 ≤ k) (h3 : k ≤ 3) (hc : ∀ i, i < k → 1 ≤ c i ∧ c i < 128) : nmL (pck c k) = List.map c (List.range k) := by
  obtain rfl | rfl | rfl : k = 1 ∨ k = 2 ∨ k = 3 := by omega
  · have c0 := hc 0 (by omega)
    have e : pck c 1 = c 0 := by show 0 * 128 + c 0 = c 0; omega
    rw [e]; unfold nmL; rw [if_pos (by omega)]; rfl
  · have c0 := hc 0 (by omega)
    have c1 := hc 1 (by omega)
    have e : pck c 2 = c 0 * 128 + c 1 := by show (0 * 128 + c 0) * 128 + c 1 = _; omega
    rw [e]; unfold nmL; rw [if_neg (by omega), if_pos (by omega), show (c 0 * 128 + c 1) / 128 = c 0 by omega, show (c 0 * 128 + c 1) % 128 = c 1 by omega]; rfl
  · have c0 := hc 0 (by omega)
    have c1 := hc 1 (by omega)
    have c2 := hc 2 (by omega)
    have e : pck c 3 = (c 0 * 128 + c 1) * 128 + c 2 := by show ((0 * 128 + c 0) * 128 + c 1) * 128 + c 2 = _; omega
    rw [e]; unfold nmL; rw [if_neg (by omega), if_neg (by omega), show ((c 0 * 128 + c 1) * 128 + c 2) / 16384 = c 0 by omega, show ((c 0 * 128 + c 1) * 128 + c 2) / 128 % 128 = c 1 by omega, show ((c 0 * 128 + c 1) * 128 + c 2) % 128 = c 2 by omega]; rfl
section REF
variable {G : GD} {names sz bases length lk fa ta so wi walk edits : Nat → Int32} {wk ed Sd : Nat → Nat} {NW NE : Nat} {Q : Int32 → (Int32 × (Nat → Int32)) → Prop} {to wa edn : Int32}
theorem s_tell57 {K : Int32 → Int32 → Int32 → Int32 → (Nat → Int32) → Prop} {x1 x2 x3 : Int32} {x : Nat} {said : Nat → Int32} {l : List Nat} (hG : G.ok) (hM : MN names sz 0 0 G.S G.nm) (hx : x < 2 * G.S) (hl : l.length + 3 < 300) (h : MT said l) (k : ∀ said', MT said' (l ++ nmL (G.nm (x / 2))) → K x1 x2 (x3 + 1) (nI (l ++ nmL (G.nm (x / 2))).length) said') : ∃ f, w_Mo_tell_57 Q K 1 to wa edn names sz length so wi walk edits f x1 x2 x3 (nI x) 0 (nI l.length) said := by
  have hS := hG.hS
  obtain ⟨kk, c, hk1, hk3, hsz, hc, hp⟩ := hM (x / 2) (by omega)
  rw [Nat.zero_add] at hsz
  rw [hp, nmL_pck hk1 hk3 (fun i hi => (hc i hi).2)] at k
  have L : ∀ (j i f : Nat) (said : Nat → Int32), i + j = kk → j < f → MT said (l ++ List.map c (List.range i)) → w_Mo_tell_57 Q K 1 to wa edn names sz length so wi walk edits f x1 x2 x3 (nI x) (nI i) (nI (l ++ List.map c (List.range i)).length) said := by
    intro j
    induction j with
    | zero =>
      intro i f said e hf h
      obtain rfl : i = kk := by omega
      obtain ⟨f, rfl⟩ : ∃ q, f = q + 1 := ⟨f - 1, by omega⟩
      unfold w_Mo_tell_57 w_Mo_tell_57B
      refine nm_r (e' := nI (x / 2)) (by rw [show (2 : Int32) = nI 2 from rfl, pk_div (by omega) (by omega) (by omega)]) ⟨vp_in_nI (by omega) (by omega), nm_r (e' := nI i) (by rw [nI_clamp (by omega)]; exact hsz) (br_t ((nI_leI (by omega) (by omega)).mpr (Nat.le_refl _)) (nm_e (k _ h)))⟩
    | succ j ih =>
      intro i f said e hf h
      obtain ⟨f, rfl⟩ : ∃ q, f = q + 1 := ⟨f - 1, by omega⟩
      unfold w_Mo_tell_57 w_Mo_tell_57B
      have hci := hc i (by omega)
      have e2 : l ++ List.map c (List.range i) ++ [c i] = l ++ List.map c (List.range (i + 1)) := by simp [List.range_succ]
      refine nm_r (e' := nI (x / 2)) (by rw [show (2 : Int32) = nI 2 from rfl, pk_div (by omega) (by omega) (by omega)]) ⟨vp_in_nI (by omega) (by omega), nm_r (e' := nI kk) (by rw [nI_clamp (by omega)]; exact hsz) (br_f (fun q => absurd ((nI_leI (by omega) (by omega)).mp q) (by omega)) ?_)⟩
      refine nm_r (e' := nI (3 * (x / 2) + i)) (by rw [show (2 : Int32) = nI 2 from rfl, pk_div (by omega) (by omega) (by omega), show (3 : Int32) = nI 3 from rfl, pk_mul, nI_add]) ⟨vp_in_nI (by omega) (by omega), nm_r (e' := nI (c i)) (by rw [nI_clamp (by omega), ← hci.1]; congr 1; omega) (s_put h (by simp only [List.length_append, List.length_map, List.length_range]; omega) hci.2.2 (fun said' h' => nm_r (nI_1 _) ?_))⟩
      rw [e2] at h' ⊢
      exact ih (i + 1) f said' (by omega) (by omega) h'
  have := L kk 0 (kk + 1) said (by omega) (by omega) (by simpa using h)
  simp only [List.range_zero, List.map_nil, List.append_nil] at this
  exact ⟨kk + 1, this⟩
theorem s_tell183 {L : List Nat} (hNE : NE ≤ 24) (hE : NT edits ed NE) (h128 : ∀ j, j < NE → ed j < 128) (hL : L.length ≤ 299) (k : ∀ said, MT said L → Q (nI L.length) (nI L.length, said)) : ∀ (m : Nat), m ≤ NE →
    (∀ (f : Nat) (said : Nat → Int32) (l : List Nat), m < f → l ++ cl (fun k => ed (NE - 1 - k)) NE m 0 = L → MT said l → w_Mo_tell_183 Q 1 to wa (nI NE) names sz length so wi walk edits f (nI (NE - m)) (nI l.length) said) ∧
    (∀ (m' f g x5 : Nat) (said : Nat → Int32) (l : List Nat), m = m' + 1 → m' < f → m' < g → 1 ≤ x5 → x5 ≤ NE - m' → ed (NE - 1 - (NE - m)) = ed (NE - 1 - (NE - m' - x5)) → l ++ cl (fun k => ed (NE - 1 - k)) NE m (x5 - 1) = L → MT said l → w_Mo_tell_195 Q (w_Mo_tell_183 Q 1 to wa (nI NE) names sz length so wi walk edits f) 1 to wa (nI NE) names sz length so wi walk edits g (nI (NE - m' - x5)) (nI x5) (nI l.length) said) := by
  intro m
  induction m with
  | zero =>
    intro hm
    refine ⟨fun f said l hf e h => ?_, fun m' f g x5 said l e => by omega⟩
    obtain ⟨f, rfl⟩ : ∃ q, f = q + 1 := ⟨f - 1, by omega⟩
    obtain rfl : l = L := by rw [← e]; simp [cl]
    unfold w_Mo_tell_183 w_Mo_tell_183B
    exact br_t ((nI_leI (by omega) (by omega)).mpr (by omega)) (k _ h)
  | succ m ih =>
    intro hm
    obtain ⟨ihO, ihI⟩ := ih (by omega)
    have I : ∀ (f g x5 : Nat) (said : Nat → Int32) (l : List Nat), m < f → m < g → 1 ≤ x5 → x5 ≤ NE - m → ed (NE - 1 - (NE - (m + 1))) = ed (NE - 1 - (NE - m - x5)) → l ++ cl (fun k => ed (NE - 1 - k)) NE (m + 1) (x5 - 1) = L → MT said l → w_Mo_tell_195 Q (w_Mo_tell_183 Q 1 to wa (nI NE) names sz length so wi walk edits f) 1 to wa (nI NE) names sz length so wi walk edits g (nI (NE - m - x5)) (nI x5) (nI l.length) said := by
      intro f g x5 said l hf hg h5 h6 he e h
      obtain ⟨g, rfl⟩ : ∃ q, g = q + 1 := ⟨g - 1, by omega⟩
      have ee : NE - m - x5 + x5 = NE - m := by omega
      have A : (m = 0 ∨ ed (NE - 1 - (NE - m)) ≠ ed (NE - 1 - (NE - (m + 1)))) → w_Mo_tell_231 Q (w_Mo_tell_183 Q 1 to wa (nI NE) names sz length so wi walk edits f) 1 to wa (nI NE) names sz length so wi walk edits (nI (NE - m - x5)) (nI x5) (nI l.length) said := by
        intro hc
        have e2 : l ++ num x5 ++ [ed (NE - 1 - (NE - (m + 1)))] ++ cl (fun k => ed (NE - 1 - k)) NE m 0 = L := by
          rw [← e]
          conv => rhs; unfold cl
          rw [if_pos hc, show x5 - 1 + 1 = x5 by omega]
          simp
        have e3 : l.length + (num x5).length + 1 ≤ L.length := by rw [← e2]; simp; omega
        have n1 := num_le (n := x5)
        have w2 := h128 (NE - 1 - (NE - (m + 1))) (by omega)
        unfold w_Mo_tell_231
        refine s_putNumber h (by omega) (by omega) (fun said1 h1 => s_Mo_edit hNE hE (by omega) ?_)
        rw [← he]
        refine nm_r (c_chr w2) (s_put h1 (by rw [List.length_append]; omega) w2 (fun said2 h2 => nm_r (nI_add _ _) ?_))
        rw [ee]
        exact ihO f said2 _ (by omega) e2 h2
      unfold w_Mo_tell_195 w_Mo_tell_195B
      refine nm_r ((nI_add _ _).trans (congrArg nI ee)) ⟨fun q => A (Or.inl (by have := (nI_leI (by omega) (by omega)).mp q; omega)), fun q => ?_⟩
      have q2 : m ≠ 0 := fun z => q ((nI_leI (by omega) (by omega)).mpr (by omega))
      have w1 := h128 (NE - 1 - (NE - m)) (by omega)
      have w2 := h128 (NE - 1 - (NE - (m + 1))) (by omega)
      refine nm_r ((nI_add _ _).trans (congrArg nI ee)) (s_Mo_edit hNE hE (by omega) (s_Mo_edit hNE hE (by omega) ⟨fun w => nm_r (nI_1 _) ?_, fun w => A (Or.inr (fun z => w ?_))⟩))
      · have w3 : ed (NE - 1 - (NE - m)) = ed (NE - 1 - (NE - m - x5)) := (nI_eq (by omega) (by omega)).mp w
        obtain ⟨m2, rfl⟩ : ∃ q, m = q + 1 := ⟨m - 1, by omega⟩
        have e2 : l ++ cl (fun k => ed (NE - 1 - k)) NE (m2 + 1) (x5 + 1 - 1) = L := by
          rw [← e]
          conv => rhs; unfold cl
          rw [if_neg (fun z => z.elim q2 (fun z => z (w3.trans he.symm))), show x5 - 1 + 1 = x5 + 1 - 1 by omega]
        have := ihI m2 f g (x5 + 1) said l rfl (by omega) (by omega) (by omega) (by omega) (by rw [w3]; congr 1; omega) e2 h
        rw [show NE - m2 - (x5 + 1) = NE - (m2 + 1) - x5 by omega] at this
        exact this
      · rw [z, he]
    refine ⟨fun f said l hf e h => ?_, fun m' f g x5 said l em => ?_⟩
    · obtain ⟨f, rfl⟩ : ∃ q, f = q + 1 := ⟨f - 1, by omega⟩
      unfold w_Mo_tell_183 w_Mo_tell_183B
      refine br_f (fun q => absurd ((nI_leI (by omega) (by omega)).mp q) (by omega)) ⟨m + 1, ?_⟩
      have := I f (m + 1) 1 said l (by omega) (by omega) (by omega) (by omega) (by rw [show NE - (m + 1) = NE - m - 1 by omega]) e h
      rw [show NE - m - 1 = NE - (m + 1) by omega] at this
      exact this
    · obtain rfl : m = m' := by omega
      exact I f g x5 said l
theorem s_Mo_tell {written : Int32} {said : Nat → Int32} {n co x1 i1 x2 i2 : Nat} (hG : G.ok) (hR : RP G (nI G.N) bases length lk fa ta so wi) (hM : MN names sz 0 0 G.S G.nm) (hN1 : 1 ≤ NW) (hNW : NW ≤ 24) (hNE : NE ≤ 24) (hco : co < 100) (hW : NT walk wk NW) (hE : NT edits ed NE) (h128 : ∀ j, j < NE → ed j < 128) (hwl : ∀ j, j < NW → wk j < G.N) (hch : ∀ j, j + 1 < NW → Fo G (wk (j + 1)) (wk j)) (hSD : SDp G wk NW Sd) (hn : n = scf G (Wf wk NW) (NW - 1) + 1) (hlt : ∀ j, j < n → Sd j < 2 * G.S) (hA : At G.ln G.S (wk (NW - 1)) x1 i1) (hB : At G.ln G.S (wk 0) x2 i2)
    (k : ∀ said', MT said' (rT G.nm Sd n i1 (G.ln (x2 / 2) - 1 - i2) co ed NE) → Q (nI (rT G.nm Sd n i1 (G.ln (x2 / 2) - 1 - i2) co ed NE).length) (nI (rT G.nm Sd n i1 (G.ln (x2 / 2) - 1 - i2) co ed NE).length, said')) : wp_Mo_tell Q 1 (nI co) (nI NW) (nI NE) written names sz length so wi walk edits said := by
  have hS := hG.hS
  have h64 : G.N ≤ 64 := hG.n64
  have hle := scf_le (G := G) (W := Wf wk NW) (k := NW - 1)
  have hn24 : n ≤ 24 := by omega
  have hlen : (rT G.nm Sd n i1 (G.ln (x2 / 2) - 1 - i2) co ed NE).length ≤ 200 := rT_le hn24 hNE
  have l4 := sT_le (nm := G.nm) (Sd := Sd) (k := n)
  have n1 := num_le (n := i1)
  have n2 := num_le (n := G.ln (x2 / 2) - 1 - i2)
  have n3 := num_le (n := co)
  have a5 := hA.1
  have a6 := hB.1
  have l1 := hG.hln (x1 / 2) (by omega)
  have l2 := hG.hln (x2 / 2) (by omega)
  have b1 := hA.2.1
  have b2 := hB.2.1
  have r1 := hR.2.2.2 _ _ _ hA
  have r2 := hR.2.2.2 _ _ _ hB
  have r3 := (hR.1 (x2 / 2) (by omega)).1
  have u1 := hwl (NW - 1) (by omega)
  have u2 := hwl 0 (by omega)
  unfold wp_Mo_tell
  refine br_f (by decide) (s_Mo_sides hG hR hN1 hNW hW hch ?_)
  rw [← hn]
  have T : ∀ (j i f : Nat) (said : Nat → Int32), i + j = n → j < f → MT said (sT G.nm Sd i) → w_Mo_tell_24 Q 1 (nI co) (nI NW) (nI NE) names sz length so wi walk edits f (nI 9) (nI n) (nI i) (nI (sT G.nm Sd i).length) said := by
    intro j
    induction j with
    | zero =>
      intro i f said e hf h
      obtain rfl : i = n := by omega
      obtain ⟨f, rfl⟩ : ∃ q, f = q + 1 := ⟨f - 1, by omega⟩
      unfold w_Mo_tell_24 w_Mo_tell_24B
      refine br_t ((nI_leI (by omega) (by omega)).mpr (Nat.le_refl _)) (s_put h (by omega) (by omega) (fun s1 h1 => s_Mo_walk (k := 0) hNW hW (by omega) ⟨vp_in_nI (by rw [show NW - 1 - 0 = NW - 1 by omega]; omega) (by omega), nm_r (e' := nI i1) ?_ ?_⟩))
      · rw [show NW - 1 - 0 = NW - 1 by omega, nI_clamp (by omega)]
        exact r1.2
      refine s_putNumber h1 (by simp only [List.length_append, List.length_singleton]; omega) (by omega) (fun s2 h2 => s_put h2 (by simp only [List.length_append, List.length_singleton]; omega) (by omega) (fun s3 h3 => nm_r (e' := nI (NW - 1)) (by rw [show (1 : Int32) = nI 1 from rfl, pk_sub (by omega)]) (s_Mo_walk hNW hW (by omega) ?_)))
      rw [show NW - 1 - (NW - 1) = 0 by omega]
      refine ⟨vp_in_nI (by omega) (by omega), nm_r (e' := nI (x2 / 2)) (by rw [nI_clamp (by omega), r2.1, show (2 : Int32) = nI 2 from rfl, pk_div (by omega) (by omega) (by omega)]) ⟨vp_in_nI (by omega) (by omega), vp_in_nI (by omega) (by omega), nm_r (e' := nI (G.ln (x2 / 2) - 1 - i2)) ?_ ?_⟩⟩
      · rw [nI_clamp (by omega), nI_clamp (by omega), r3, r2.2, show (1 : Int32) = nI 1 from rfl, pk_sub (by omega), pk_sub (by omega)]
      refine s_putNumber h3 (by simp only [List.length_append, List.length_singleton]; omega) (by omega) (fun s4 h4 => s_put h4 (by simp only [List.length_append, List.length_singleton]; omega) (by omega) (fun s5 h5 => s_putNumber h5 (by simp only [List.length_append, List.length_singleton]; omega) hco (fun s6 h6 => s_put h6 (by simp only [List.length_append, List.length_singleton]; omega) (by omega) (fun s7 h7 => ⟨NE + 1, ?_⟩))))
      have := (s_tell183 (to := nI co) (wa := nI NW) (names := names) (sz := sz) (length := length) (so := so) (wi := wi) (walk := walk) hNE hE h128 (by omega) k NE (Nat.le_refl _)).1 (NE + 1) s7 _ (by omega) (by unfold rT; rfl) h7
      rw [Nat.sub_self] at this
      exact this
    | succ j ih =>
      intro i f said e hf h
      obtain ⟨f, rfl⟩ : ∃ q, f = q + 1 := ⟨f - 1, by omega⟩
      unfold w_Mo_tell_24 w_Mo_tell_24B
      have hi := hlt i (by omega)
      have hle2 := sT_le (nm := G.nm) (Sd := Sd) (k := i)
      have B : ∀ c, c < 128 → c = (if Sd i % 2 = 0 then 62 else 60) → w_Mo_tell_51 Q (w_Mo_tell_24 Q 1 (nI co) (nI NW) (nI NE) names sz length so wi walk edits f) 1 (nI co) (nI NW) (nI NE) names sz length so wi walk edits (nI 9) (nI n) (nI i) (nI (Sd i)) (nI c) (nI (sT G.nm Sd i).length) said := by
        intro c hc ec
        unfold w_Mo_tell_51
        refine s_put h (by omega) hc (fun s1 h1 => s_tell57 hG hM hi (by simp only [List.length_append, List.length_singleton]; omega) h1 (fun s2 h2 => ?_))
        have ee : sT G.nm Sd i ++ [c] ++ nmL (G.nm (Sd i / 2)) = sT G.nm Sd (i + 1) := by rw [ec]; rfl
        rw [ee] at h2 ⊢
        rw [nI_1]
        exact ih (i + 1) f s2 (by omega) (by omega) h2
      refine br_f (fun q => absurd ((nI_leI (by omega) (by omega)).mp q) (by omega)) (s_Mo_side hG hR hN1 hNW hW hwl hch hSD (by omega) (nm_r (e' := nI (Sd i % 2)) (by rw [show (2 : Int32) = nI 2 from rfl, c_mod (by omega) (by omega) (by omega)]) ⟨fun q => ?_, fun q => ?_⟩))
      · have q2 : Sd i % 2 = 0 := (nI_eq (b := 0) (by omega) (by omega)).mp q
        exact B 62 (by omega) (by rw [if_pos q2])
      · have q2 : Sd i % 2 ≠ 0 := fun z => q (by rw [z]; rfl)
        exact B 60 (by omega) (by rw [if_neg q2])
  exact ⟨n + 1, T n 0 (n + 1) said (by omega) (by omega) (fun j hj => absurd hj (Nat.not_lt_zero j))⟩
end REF
