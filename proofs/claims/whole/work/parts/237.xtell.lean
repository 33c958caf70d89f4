/-! the record, as the class writes it -/
theorem SBk.ac {N C MC MS kc ks nv c : Nat} {av : Nat → Int32} {l : List Nat} {F : Nat → Nat → QT} (h : SBk N C MC MS kc ks nv av l) (hN : l.length + 1 ≤ N) (hN3 : N ≤ 299) (hc : c < 128) (k : ∀ m1 m2 nv1 av1, SBk N C MC MS (kc + m1) (ks + m2) nv1 av1 (l ++ [c]) → F m1 m2 (nI (l ++ [c]).length, nv1, av1)) : ∃ m1 m2, kc + m1 ≤ MC ∧ ks + m2 ≤ MS ∧ wp_SB_append_C (F m1 m2) m1 m2 (nI c) 0 (nI l.length) nv av :=
  SBk.run (M := fun Q mc ms => wp_SB_append_C Q mc ms (nI c) 0 (nI l.length) nv av) h (by simp only [List.length_append, List.length_singleton]; omega) (w_ac h.1 (by omega) hc) k
theorem SBk.ai {N C MC MS kc ks nv v : Nat} {av : Nat → Int32} {l : List Nat} {F : Nat → Nat → QT} (h : SBk N C MC MS kc ks nv av l) (hN : (l ++ num v).length ≤ N) (hN3 : N ≤ 299) (hv : v < 100) (k : ∀ m1 m2 nv1 av1, SBk N C MC MS (kc + m1) (ks + m2) nv1 av1 (l ++ num v) → F m1 m2 (nI (l ++ num v).length, nv1, av1)) : ∃ m1 m2, kc + m1 ≤ MC ∧ ks + m2 ≤ MS ∧ wp_SB_append_I (F m1 m2) m1 m2 (nI v) 0 (nI l.length) nv av :=
  SBk.run (M := fun Q mc ms => wp_SB_append_I Q mc ms (nI v) 0 (nI l.length) nv av) h hN (w_ai h.1 (by have := num_le (n := v); rw [List.length_append] at hN; omega) hv) k
def nmL (p : Nat) : List Nat := if p < 128 then [p] else if p < 16384 then [p / 128, p % 128] else [p / 16384, p / 128 % 128, p % 128]
theorem nmL_le {p : Nat} : (nmL p).length ≤ 3 := by unfold nmL; split <;> (try split) <;> simp
theorem c_chr {k : Nat} (h : k < 128) : ((nI k).toUInt32 % 65536).toInt32 = nI k := (sb_byte k (by omega)).2.1
theorem c_mod {p d : Nat} (hp : p < 2147483648) (h0 : 0 < d) (hd : d < 2147483648) : nI p - nI p / nI d * nI d = nI (p % d) := by
  have := Nat.div_mul_le_self p d
  rw [pk_div hp h0 hd, pk_mul, pk_sub this]
  congr 1
  have := Nat.div_add_mod p d
  rw [Nat.mul_comm] at this
  omega
theorem w_n50 {Q : QT} {N C mc ms kc ks nv p : Nat} {av : Nat → Int32} {l : List Nat} (b : SBk N C mc ms kc ks nv av l) (hp : p < 2097152) (hN : l.length + 1 ≤ N) (hN3 : N ≤ 299) (k : ∀ kc ks nv1 av1, SBk N C mc ms kc ks nv1 av1 (l ++ [p % 128]) → Q (nI (l ++ [p % 128]).length, nv1, av1)) : w_X_writeName_50 Q mc ms (nI p) 0 (nI l.length) nv av kc ks := by
  unfold w_X_writeName_50
  refine nm_r (e' := nI (p % 128)) ?_ (b.ac hN hN3 (by omega) (fun m1 m2 nv1 av1 b' => k _ _ _ _ b'))
  rw [show (128 : Int32) = nI 128 from rfl, c_mod (by omega) (by omega) (by omega), c_chr (by omega)]
theorem w_n25 {Q : QT} {N C mc ms kc ks nv p : Nat} {av : Nat → Int32} {l : List Nat} (b : SBk N C mc ms kc ks nv av l) (hp : p < 2097152) (h1 : 128 ≤ p) (hN : l.length + 2 ≤ N) (hN3 : N ≤ 299) (k : ∀ kc ks nv1 av1, SBk N C mc ms kc ks nv1 av1 (l ++ [p / 128 % 128] ++ [p % 128]) → Q (nI (l ++ [p / 128 % 128] ++ [p % 128]).length, nv1, av1)) : w_X_writeName_25 Q mc ms (nI p) 0 (nI l.length) nv av kc ks := by
  unfold w_X_writeName_25
  refine br_f (show ¬ nI p < nI 128 from nI_nlt h1 (by omega)) (nm_r (e' := nI (p / 128 % 128)) ?_ (b.ac (by omega) hN3 (by omega) (fun m1 m2 nv1 av1 b' => ?_)))
  · rw [show (128 : Int32) = nI 128 from rfl, pk_div (by omega) (by omega) (by omega), c_mod (by omega) (by omega) (by omega), c_chr (by omega)]
  · exact w_n50 b' hp (by simp only [List.length_append, List.length_singleton]; omega) hN3 k
theorem w_name {nv p : Nat} {av : Nat → Int32} {l : List Nat} (h : SBv nv av l) (hl : l.length + 3 ≤ 299) (hp : p < 2097152) : Wr (fun Q mc ms => wp_X_writeName Q mc ms (nI p) 0 (nI l.length) nv av) nv (l ++ nmL p) := by
  refine Wr.mk h (fun Q mc ms b k => ?_)
  show wp_X_writeName Q mc ms (nI p) 0 (nI l.length) nv av
  unfold wp_X_writeName
  by_cases h1 : p < 128
  · have e : l ++ nmL p = l ++ [p % 128] := by unfold nmL; rw [if_pos h1, show p % 128 = p by omega]
    rw [e] at b k
    have e2 : (l ++ [p % 128]).length = l.length + 1 := by simp
    refine br_t (show nI p < nI 16384 from nI_lt (by omega) (by omega)) ?_
    unfold w_X_writeName_25
    exact br_t (show nI p < nI 128 from nI_lt (by omega) (by omega)) (w_n50 b hp (by omega) (by omega) k)
  · by_cases h2 : p < 16384
    · have e : l ++ nmL p = l ++ [p / 128 % 128] ++ [p % 128] := by unfold nmL; rw [if_neg h1, if_pos h2, show p / 128 % 128 = p / 128 by omega]; simp
      rw [e] at b k
      have e2 : (l ++ [p / 128 % 128] ++ [p % 128]).length = l.length + 2 := by simp
      exact br_t (show nI p < nI 16384 from nI_lt (by omega) (by omega)) (w_n25 b hp (by omega) (by omega) (by omega) k)
    · have e : l ++ nmL p = l ++ [p / 16384] ++ [p / 128 % 128] ++ [p % 128] := by unfold nmL; rw [if_neg h1, if_neg h2]; simp
      rw [e] at b k
      have e2 : (l ++ [p / 16384] ++ [p / 128 % 128] ++ [p % 128]).length = l.length + 3 := by simp
      refine br_f (show ¬ nI p < nI 16384 from nI_nlt (by omega) (by omega)) (nm_r (e' := nI (p / 16384)) ?_ (b.ac (by omega) (by omega) (by omega) (fun m1 m2 nv1 av1 b' => ?_)))
      · rw [show (128 : Int32) = nI 128 from rfl, pk_div (by omega) (by omega) (by omega), pk_div (by omega) (by omega) (by omega), Nat.div_div_eq_div_mul, c_chr (by omega)]
      · exact w_n25 b' hp (by omega) (by simp only [List.length_append, List.length_singleton]; omega) (by omega) k
def sT (nm Sd : Nat → Nat) : Nat → List Nat
  | 0 => []
  | k + 1 => sT nm Sd k ++ [if Sd k % 2 = 0 then 62 else 60] ++ nmL (nm (Sd k / 2))
theorem sT_len {nm Sd : Nat → Nat} {k : Nat} : (sT nm Sd (k + 1)).length = (sT nm Sd k).length + 1 + (nmL (nm (Sd k / 2))).length := by
  show (sT nm Sd k ++ _ ++ _).length = _
  simp only [List.length_append, List.length_singleton]
theorem sT_le {nm Sd : Nat → Nat} : ∀ {k : Nat}, (sT nm Sd k).length ≤ 4 * k := by
  intro k
  induction k with
  | zero => exact Nat.le_refl _
  | succ k ih => rw [sT_len]; have := nmL_le (p := nm (Sd k / 2)); omega
theorem sT_mono {nm Sd : Nat → Nat} {j : Nat} : ∀ {k : Nat}, j ≤ k → (sT nm Sd j).length ≤ (sT nm Sd k).length := by
  intro k
  induction k with
  | zero => intro h; obtain rfl : j = 0 := by omega
            exact Nat.le_refl _
  | succ k ih =>
    intro h
    by_cases w : j ≤ k
    · rw [sT_len]; have := ih w; omega
    · obtain rfl : j = k + 1 := by omega
      exact Nat.le_refl _
theorem w_sides {nv n S : Nat} {nm Sd : Nat → Nat} {av sides aN : Nat → Int32} (h : SBv nv av []) (hn : n ≤ 24) (hS : S ≤ 8) (hSd : NT sides Sd n) (hlt : ∀ j, j < n → Sd j < 2 * S) (hN : ∀ s, s < S → aN s = nI (nm s)) (hok : NMok nm S) : Wr (fun Q mc ms => wp_X_writeSides Q mc ms (nI n) sides 0 0 nv av aN) nv (sT nm Sd n) := by
  refine Wr.mk h (fun Q mc ms b0 k => ?_)
  have hn4 := sT_le (nm := nm) (Sd := Sd) (k := n)
  have L : ∀ (j i m kc ks nv1 : Nat) (av1 : Nat → Int32), i + j = n → j < m → SBk (sT nm Sd n).length (gr nv (sT nm Sd n).length) mc ms kc ks nv1 av1 (sT nm Sd i) → w_X_writeSides_2 Q mc ms (nI n) sides 0 aN m (nI i) (nI (sT nm Sd i).length) nv1 av1 kc ks := by
    intro j
    induction j with
    | zero =>
      intro i m kc ks nv1 av1 e hm b
      obtain rfl : i = n := by omega
      obtain ⟨m, rfl⟩ : ∃ q, m = q + 1 := ⟨m - 1, by omega⟩
      unfold w_X_writeSides_2 w_X_writeSides_2B
      exact br_t ((nI_leI (by omega) (by omega)).mpr (Nat.le_refl _)) (k _ _ _ _ b)
    | succ j ih =>
      intro i m kc ks nv1 av1 e hm b
      obtain ⟨m, rfl⟩ : ∃ q, m = q + 1 := ⟨m - 1, by omega⟩
      unfold w_X_writeSides_2 w_X_writeSides_2B
      have hi := hlt i (by omega)
      have hmm : (sT nm Sd (i + 1)).length ≤ (sT nm Sd n).length := sT_mono (by omega)
      have hle := sT_len (nm := nm) (Sd := Sd) (k := i)
      have hok2 := hok (Sd i / 2) (by omega)
      have T : ∀ c, c < 128 → c = (if Sd i % 2 = 0 then 62 else 60) → w_X_writeSides_40 Q mc ms (w_X_writeSides_2 Q mc ms (nI n) sides 0 aN m) (nI n) sides 0 aN (nI i) (nI (Sd i)) (nI c) (nI (sT nm Sd i).length) nv1 av1 kc ks := by
        intro c hc ec
        unfold w_X_writeSides_40
        refine b.ac (by omega) (by omega) hc (fun m1 m2 nv2 av2 b2 => nm_r (e' := nI (Sd i / 2)) ?_ ⟨vp_in_nI (by omega) (by omega), nm_r (e' := nI (nm (Sd i / 2))) ?_ ?_⟩)
        · rw [show (2 : Int32) = nI 2 from rfl, pk_div (by omega) (by omega) (by omega)]
        · rw [nI_clamp (by omega)]
          exact hN _ (by omega)
        · have el : (sT nm Sd i ++ [c]).length = (sT nm Sd i).length + 1 := by simp
          have ee : sT nm Sd i ++ [c] ++ nmL (nm (Sd i / 2)) = sT nm Sd (i + 1) := by rw [ec]; rfl
          refine SBk.run (M := fun Q mc ms => wp_X_writeName Q mc ms (nI (nm (Sd i / 2))) 0 (nI (sT nm Sd i ++ [c]).length) nv2 av2) b2 (by rw [ee]; omega) (w_name b2.1 (by omega) hok2.2) (fun m3 m4 nv3 av3 b3 => nm_r (nI_1 _) ?_)
          rw [ee] at b3 ⊢
          exact ih (i + 1) m _ _ _ _ (by omega) (by omega) b3
      refine br_f (fun q => absurd ((nI_leI (by omega) (by omega)).mp q) (by omega)) ⟨vp_in_nI (by omega) (by omega), nm_r (e' := nI (Sd i)) (by rw [nI_clamp (by omega)]; exact hSd i (by omega)) (nm_r (e' := nI (Sd i % 2)) (by rw [show (2 : Int32) = nI 2 from rfl, c_mod (by omega) (by omega) (by omega)]) ⟨fun q => ?_, fun q => ?_⟩)⟩
      · have q2 : Sd i % 2 = 0 := (nI_eq (b := 0) (by omega) (by omega)).mp q
        exact T 62 (by omega) (by rw [if_pos q2])
      · have q2 : Sd i % 2 ≠ 0 := fun z => q (by rw [z]; rfl)
        exact T 60 (by omega) (by rw [if_neg q2])
  exact ⟨n + 1, L n 0 (n + 1) 0 0 nv av (by omega) (by omega) b0⟩
theorem s_placeAt {Q : Int32 → Unit → Prop} {NW k : Nat} {wb : Nat → Int32} {wk : Nat → Nat} (hN : NW ≤ 24) (hW : NT wb wk NW) (hk : k < NW) (h : Q (nI (wk (NW - 1 - k))) ()) : wp_Rs_placeAt Q (nI k) (nI NW) wb := by
  unfold wp_Rs_placeAt
  refine nm_r (e' := nI (NW - 1 - k)) (by rw [show (1 : Int32) = nI 1 from rfl, pk_sub (by omega), pk_sub (by omega)]) ⟨vp_in_nI (by omega) (by omega), nm_r (e' := nI (wk (NW - 1 - k))) (by rw [nI_clamp (by omega)]; exact hW _ (by omega)) h⟩
theorem s_editAt {Q : Int32 → Unit → Prop} {NW k : Nat} {wb : Nat → Int32} {wk : Nat → Nat} (hN : NW ≤ 24) (hW : NT wb wk NW) (hk : k < NW) (h128 : ∀ j, j < NW → wk j < 128) (h : Q (nI (wk (NW - 1 - k))) ()) : wp_Rs_editAt Q (nI k) (nI NW) wb := by
  unfold wp_Rs_editAt
  refine nm_r (e' := nI (NW - 1 - k)) (by rw [show (1 : Int32) = nI 1 from rfl, pk_sub (by omega), pk_sub (by omega)]) ⟨vp_in_nI (by omega) (by omega), nm_r (e' := nI (wk (NW - 1 - k))) (by rw [nI_clamp (by omega)]; exact hW _ (by omega)) ⟨(pk_charN (by have := h128 (NW - 1 - k) (by omega); omega)).1, h⟩⟩
theorem w_ends {nv NW x1 i1 x2 i2 : Nat} {G : GD} {wk : Nat → Nat} {av wb aN aS aB aP : Nat → Int32} {l : List Nat} (h : SBv nv av l) (hl : l.length ≤ 280) (hG : G.ok) (hX : XS G.S G.nm G.ln G.bs aN aS aB aP) (hN1 : 1 ≤ NW) (hN : NW ≤ 24) (hW : NT wb wk NW) (hA : At G.ln G.S (wk (NW - 1)) x1 i1) (hB : At G.ln G.S (wk 0) x2 i2) : Wr (fun Q mc ms => wp_X_writeEnds Q mc ms (nI NW) wb 0 (nI l.length) nv av (nI G.S) (nI G.N) aS aP) nv (l ++ [9] ++ num i1 ++ [9] ++ num (G.ln (x2 / 2) - 1 - i2)) := by
  refine Wr.mk h (fun Q mc ms b k => ?_)
  have h64 := hG.n64
  have hS := hG.hS
  have n1 := num_le (n := i1)
  have n2 := num_le (n := G.ln (x2 / 2) - 1 - i2)
  have a1 := hA.2.2
  have a2 := hB.2.2
  have a3 := hA.lt
  have a4 := hB.lt
  have a5 := hA.1
  have a6 := hB.1
  have l1 := hG.hln (x1 / 2) (by omega)
  have l2 := hG.hln (x2 / 2) (by omega)
  have b1 := hA.2.1
  have b2 := hB.2.1
  have v1 := hX.view a5
  have v2 := hX.view a6
  show wp_X_writeEnds Q mc ms (nI NW) wb 0 (nI l.length) nv av (nI G.S) (nI G.N) aS aP
  unfold wp_X_writeEnds
  refine s_placeAt (k := 0) hN hW (by omega) (nm_r (e' := nI (NW - 1)) (by rw [show (1 : Int32) = nI 1 from rfl, pk_sub (by omega)]) (s_placeAt hN hW (by omega) ?_))
  rw [show NW - 1 - 0 = NW - 1 by omega, show NW - 1 - (NW - 1) = 0 by omega]
  have hlen : (l ++ [9] ++ num i1 ++ [9] ++ num (G.ln (x2 / 2) - 1 - i2)).length = l.length + 1 + (num i1).length + 1 + (num (G.ln (x2 / 2) - 1 - i2)).length := by simp; omega
  have N64 : G.N ≤ 64 := h64
  have hu1 : wk (NW - 1) < G.N := a3
  have hu2 : wk 0 < G.N := a4
  refine b.ac (c := 9) (by omega) (by omega) (by omega) (fun m1 m2 nv1 av1 b1' => ⟨vp_in_nI (by omega) (by omega), nm_r (e' := nI x1) ?_ ?_⟩)
  · rw [nI_clamp (by omega), a1]
    exact (v1.2 i1 b1).1
  unfold wp_Gr_firstPlace
  refine ⟨vp_in_nI (by omega) (by omega), nm_r (e' := nI (ps G.ln x1)) (by rw [nI_clamp (by omega)]; exact v1.1) (nm_r (e' := nI i1) (by rw [pk_sub (by omega)]; congr 1; omega) ?_)⟩
  refine b1'.ai (by simp only [List.length_append, List.length_singleton]; omega) (by omega) (by omega) (fun m3 m4 nv2 av2 b2' => ?_)
  refine b2'.ac (c := 9) (by simp only [List.length_append, List.length_singleton]; omega) (by omega) (by omega) (fun m5 m6 nv3 av3 b3' => ⟨vp_in_nI (by omega) (by omega), nm_r (e' := nI x2) ?_ ?_⟩)
  · rw [nI_clamp (by omega), a2]
    exact (v2.2 i2 b2).1
  refine s_lastPlace hG hX a6 (nm_r (e' := nI (G.ln (x2 / 2) - 1 - i2)) ?_ ?_)
  · have := ps_succ (ln := G.ln) (x := x2)
    rw [pk_sub (by omega)]
    congr 1
    omega
  exact b3'.ai (by omega) (by omega) (by omega) (fun m7 m8 nv4 av4 b4' => k _ _ _ _ b4')
/-- the edits from k = NE - m on, when r edits of the run have gone by -/
def cl (e : Nat → Nat) (NE : Nat) : Nat → Nat → List Nat
  | 0, _ => []
  | m + 1, r => if m = 0 ∨ e (NE - m) ≠ e (NE - (m + 1)) then num (r + 1) ++ [e (NE - (m + 1))] ++ cl e NE m 0 else cl e NE m (r + 1)
theorem cz_le {e : Nat → Nat} {NE : Nat} : ∀ {m r : Nat}, (cl e NE m r).length ≤ 3 * m := by
  intro m
  induction m with
  | zero => intro r; exact Nat.le_refl _
  | succ m ih =>
    intro r
    have n1 := num_le (n := r + 1)
    have i1 := ih (r := 0)
    have i2 := ih (r := r + 1)
    unfold cl
    split
    · simp; omega
    · omega
theorem w_edits {nv NE : Nat} {ed : Nat → Nat} {av eb : Nat → Int32} {l : List Nat} (h : SBv nv av l) (hl : l.length + 3 * NE ≤ 299) (hN : NE ≤ 24) (hE : NT eb ed NE) (h128 : ∀ j, j < NE → ed j < 128) : Wr (fun Q mc ms => wp_X_writeEdits Q mc ms (nI NE) eb 0 (nI l.length) nv av) nv (l ++ cl (fun k => ed (NE - 1 - k)) NE NE 0) := by
  refine Wr.mk h (fun Q mc ms b0 k => ?_)
  have hLL : (l ++ cl (fun k => ed (NE - 1 - k)) NE NE 0).length ≤ 299 := by
    have := cz_le (e := fun k => ed (NE - 1 - k)) (NE := NE) (m := NE) (r := 0)
    rw [List.length_append]; omega
  generalize hL : l ++ cl (fun k => ed (NE - 1 - k)) NE NE 0 = L at b0 k hLL
  have T : ∀ (m r f kc ks nv1 : Nat) (av1 : Nat → Int32) (l1 : List Nat), m + r ≤ NE → m < f → l1 ++ cl (fun k => ed (NE - 1 - k)) NE m r = L → SBk L.length (gr nv L.length) mc ms kc ks nv1 av1 l1 → w_X_writeEdits_4 Q mc ms (nI NE) eb 0 f (nI r) (nI (NE - m)) (nI l1.length) nv1 av1 kc ks := by
    intro m
    induction m with
    | zero =>
      intro r f kc ks nv1 av1 l1 hr hf e b
      obtain ⟨f, rfl⟩ : ∃ q, f = q + 1 := ⟨f - 1, by omega⟩
      unfold w_X_writeEdits_4 w_X_writeEdits_4B
      obtain rfl : l1 = L := by rw [← e]; simp [cl]
      exact br_t ((nI_leI (by omega) (by omega)).mpr (by omega)) (k _ _ _ _ b)
    | succ m ih =>
      intro r f kc ks nv1 av1 l1 hr hf e b
      obtain ⟨f, rfl⟩ : ∃ q, f = q + 1 := ⟨f - 1, by omega⟩
      have ee : NE - (m + 1) + 1 = NE - m := by omega
      have A : (m = 0 ∨ ed (NE - 1 - (NE - m)) ≠ ed (NE - 1 - (NE - (m + 1)))) → w_X_writeEdits_57 Q mc ms (w_X_writeEdits_4 Q mc ms (nI NE) eb 0 f) (nI NE) eb 0 (nI (r + 1)) (nI (NE - (m + 1))) 1 (nI l1.length) nv1 av1 kc ks := by
        intro hc
        have e2 : l1 ++ num (r + 1) ++ [ed (NE - 1 - (NE - (m + 1)))] ++ cl (fun k => ed (NE - 1 - k)) NE m 0 = L := by
          rw [← e]
          conv => rhs; unfold cl
          rw [if_pos hc]
          simp
        have e3 : l1.length + (num (r + 1)).length + 1 ≤ L.length := by rw [← e2]; simp; omega
        unfold w_X_writeEdits_57
        refine br_f (by decide) (b.ai (by rw [List.length_append]; omega) hLL (by omega) (fun m1 m2 nv2 av2 b2 => s_editAt hN hE (by omega) h128 (b2.ac (by rw [List.length_append]; omega) hLL (h128 _ (by omega)) (fun m3 m4 nv3 av3 b3 => ?_))))
        unfold w_X_writeEdits_89
        refine nm_r (nI_1 _) ?_
        rw [ee]
        exact ih 0 f _ _ _ _ _ (by omega) (by omega) e2 b3
      have B : ¬ (m = 0 ∨ ed (NE - 1 - (NE - m)) ≠ ed (NE - 1 - (NE - (m + 1)))) → w_X_writeEdits_57 Q mc ms (w_X_writeEdits_4 Q mc ms (nI NE) eb 0 f) (nI NE) eb 0 (nI (r + 1)) (nI (NE - (m + 1))) 0 (nI l1.length) nv1 av1 kc ks := by
        intro hc
        have e2 : l1 ++ cl (fun k => ed (NE - 1 - k)) NE m (r + 1) = L := by
          rw [← e]
          conv => rhs; unfold cl
          rw [if_neg hc]
        unfold w_X_writeEdits_57 w_X_writeEdits_89
        refine br_t rfl (nm_r (nI_1 _) ?_)
        rw [ee]
        exact ih (r + 1) f _ _ _ _ _ (by omega) (by omega) e2 b
      unfold w_X_writeEdits_4 w_X_writeEdits_4B
      refine br_f (fun q => absurd ((nI_leI (by omega) (by omega)).mp q) (by omega)) (nm_r (nI_1 _) (nm_r (nI_1 _) ?_))
      rw [ee]
      refine ⟨fun q => ?_, fun q => ?_⟩
      · have q2 : NE - m = NE := (nI_eq (by omega) (by omega)).mp q
        unfold w_X_writeEdits_52
        exact A (Or.inl (by omega))
      · have q2 : m ≠ 0 := fun z => q (by rw [z]; rfl)
        refine nm_r ((nI_1 _).trans (congrArg nI ee)) (s_editAt hN hE (by omega) h128 (s_editAt hN hE (by omega) h128 ⟨fun w => ?_, fun w => ?_⟩))
        · have w1 := h128 (NE - 1 - (NE - m)) (by omega)
          have w2 := h128 (NE - 1 - (NE - (m + 1))) (by omega)
          have w3 := (nI_eq (by omega) (by omega)).mp w
          exact B (fun z => z.elim q2 (fun z => z w3))
        · unfold w_X_writeEdits_52
          exact A (Or.inr (fun z => w (congrArg nI z)))
  have := T NE 0 (NE + 1) 0 0 nv av l (by omega) (by omega) hL b0
  rw [Nat.sub_self] at this
  exact ⟨NE + 1, this⟩
theorem s_setLength0 {Q : (Int32 × Int32 × Nat × (Nat → Int32)) → Prop} {mc ms n nv : Nat} {ml : Int32} {av : Nat → Int32} (hf : sb_Fit av) (h16 : 16 ≤ nv) (h6 : nv ≤ 600) (hn : n ≤ 600) (k : ∀ ml' av', sb_Fit av' → Q (ml', 0, nv, av')) : wp_SB_setLength Q mc ms 0 0 ml (nI n) nv av := by
  unfold wp_SB_setLength wp_AB_setLength
  refine ⟨mc, ms, by omega, by omega, br_t (by decide) ⟨mc, ms, by omega, by omega, s_ensure (q := 0) hf h16 h6 (by omega) (Or.inl (by omega)) (fun a' f' _ => ?_)⟩⟩
  rw [if_pos (by omega)]
  refine br_t (nI_pos' (by omega)) ⟨fun _ => ?_, fun _ => ?_⟩ <;> (unfold w_AB_setLength_76; exact k _ _ f')
/-- the record -/
def rT (nm Sd : Nat → Nat) (n i1 r2 co : Nat) (ed : Nat → Nat) (NE : Nat) : List Nat := sT nm Sd n ++ [9] ++ num i1 ++ [9] ++ num r2 ++ [9] ++ num co ++ [9] ++ cl (fun k => ed (NE - 1 - k)) NE NE 0
theorem rT_le {nm Sd : Nat → Nat} {n i1 r2 co : Nat} {ed : Nat → Nat} {NE : Nat} (hn : n ≤ 24) (hE : NE ≤ 24) : (rT nm Sd n i1 r2 co ed NE).length ≤ 200 := by
  have n1 := num_le (n := i1)
  have n2 := num_le (n := r2)
  have n3 := num_le (n := co)
  have n4 := sT_le (nm := nm) (Sd := Sd) (k := n)
  have n5 := cz_le (e := fun k => ed (NE - 1 - k)) (NE := NE) (m := NE) (r := 0)
  unfold rT
  simp only [List.length_append, List.length_singleton]
  omega
theorem s_X_tell {Q : Int32 → (Int32 × Int32 × Nat × (Nat → Int32)) → Prop} {mc ms nv n NE NW co x1 i1 x2 i2 : Nat} {ml : Int32} {G : GD} {ed wk Sd : Nat → Nat} {av sides wb eb aN aS aB aP : Nat → Int32} {l0 : List Nat} (h : SBv nv av l0) (hG : G.ok) (hX : XS G.S G.nm G.ln G.bs aN aS aB aP) (hN1 : 1 ≤ NW) (hNW : NW ≤ 24) (hNE : NE ≤ 24) (hn : n ≤ 24) (hco : co < 100) (hSd : NT sides Sd n) (hlt : ∀ j, j < n → Sd j < 2 * G.S) (hW : NT wb wk NW) (hE : NT eb ed NE) (h128 : ∀ j, j < NE → ed j < 128) (hA : At G.ln G.S (wk (NW - 1)) x1 i1) (hB : At G.ln G.S (wk 0) x2 i2)
    (hb : gr nv (rT G.nm Sd n i1 (G.ln (x2 / 2) - 1 - i2) co ed NE).length - nv ≤ mc) (hs : 2 * (gr nv (rT G.nm Sd n i1 (G.ln (x2 / 2) - 1 - i2) co ed NE).length - nv) ≤ ms)
    (k : ∀ ml' av', SBv (gr nv (rT G.nm Sd n i1 (G.ln (x2 / 2) - 1 - i2) co ed NE).length) av' (rT G.nm Sd n i1 (G.ln (x2 / 2) - 1 - i2) co ed NE) → Q (nI (rT G.nm Sd n i1 (G.ln (x2 / 2) - 1 - i2) co ed NE).length) (ml', nI (rT G.nm Sd n i1 (G.ln (x2 / 2) - 1 - i2) co ed NE).length, gr nv (rT G.nm Sd n i1 (G.ln (x2 / 2) - 1 - i2) co ed NE).length, av')) : wp_X_tell Q mc ms 1 (nI co) (nI NW) (nI NE) (nI n) sides wb eb 0 ml (nI l0.length) nv av (nI G.S) (nI G.N) aN aS aP := by
  have hS := hG.hS
  have hlen : (rT G.nm Sd n i1 (G.ln (x2 / 2) - 1 - i2) co ed NE).length ≤ 200 := rT_le hn hNE
  have l1 : (sT G.nm Sd n).length ≤ (rT G.nm Sd n i1 (G.ln (x2 / 2) - 1 - i2) co ed NE).length := by unfold rT; simp only [List.length_append]; omega
  have l2 : (sT G.nm Sd n ++ [9] ++ num i1 ++ [9] ++ num (G.ln (x2 / 2) - 1 - i2)).length + (num co).length + 2 ≤ (rT G.nm Sd n i1 (G.ln (x2 / 2) - 1 - i2) co ed NE).length := by unfold rT; simp only [List.length_append, List.length_singleton]; omega
  have l3 : (sT G.nm Sd n ++ [9] ++ num i1 ++ [9] ++ num (G.ln (x2 / 2) - 1 - i2) ++ [9] ++ num co ++ [9]).length + 3 * NE ≤ 299 := by
    have n1 := num_le (n := i1)
    have n2 := num_le (n := G.ln (x2 / 2) - 1 - i2)
    have n3 := num_le (n := co)
    have n4 := sT_le (nm := G.nm) (Sd := Sd) (k := n)
    simp only [List.length_append, List.length_singleton]
    omega
  have l4 := sT_le (nm := G.nm) (Sd := Sd) (k := n)
  generalize hR : rT G.nm Sd n i1 (G.ln (x2 / 2) - 1 - i2) co ed NE = R at hb hs k hlen l1 l2
  unfold wp_X_tell
  refine br_f (by decide) ⟨0, 0, by omega, by omega, s_setLength0 h.2.2.2.1 h.2.1 h.2.2.1 (Nat.le_trans h.1 h.2.2.1) (fun ml' av0 f0 => ?_)⟩
  have v0 : SBv nv av0 [] := ⟨Nat.zero_le _, h.2.1, h.2.2.1, f0, fun j hj => absurd hj (Nat.not_lt_zero j)⟩
  have b0 : SBk R.length (gr nv R.length) mc ms (0 + 0) (0 + 0) nv av0 [] := ⟨v0, rfl, by omega, by omega⟩
  refine SBk.run (M := fun Q mc ms => wp_X_writeSides Q mc ms (nI n) sides 0 0 nv av0 aN) b0 l1 (w_sides v0 hn hS hSd hlt (fun s hs => (hX s hs).2.1) hG.hN) (fun m1 m2 nv1 av1 b1 => ?_)
  refine SBk.run (M := fun Q mc ms => wp_X_writeEnds Q mc ms (nI NW) wb 0 (nI (sT G.nm Sd n).length) nv1 av1 (nI G.S) (nI G.N) aS aP) b1 (by omega) (w_ends b1.1 (by omega) hG hX hN1 hNW hW hA hB) (fun m3 m4 nv2 av2 b2 => ?_)
  refine b2.ac (c := 9) (by omega) (by omega) (by omega) (fun m5 m6 nv3 av3 b3 => ?_)
  refine b3.ai (by simp only [List.length_append, List.length_singleton] at l2 ⊢; omega) (by omega) hco (fun m7 m8 nv4 av4 b4 => ?_)
  refine b4.ac (c := 9) (by simp only [List.length_append, List.length_singleton] at l2 ⊢; omega) (by omega) (by omega) (fun m9 m10 nv5 av5 b5 => ?_)
  have e : sT G.nm Sd n ++ [9] ++ num i1 ++ [9] ++ num (G.ln (x2 / 2) - 1 - i2) ++ [9] ++ num co ++ [9] ++ cl (fun k => ed (NE - 1 - k)) NE NE 0 = R := hR
  have w := w_edits b5.1 l3 hNE hE h128
  rw [e] at w
  refine SBk.run (M := fun Q mc ms => wp_X_writeEdits Q mc ms (nI NE) eb 0 (nI (sT G.nm Sd n ++ [9] ++ num i1 ++ [9] ++ num (G.ln (x2 / 2) - 1 - i2) ++ [9] ++ num co ++ [9]).length) nv5 av5) b5 (Nat.le_refl _) w (fun m11 m12 nv6 av6 b6 => ?_)
  have e6 : nv6 = gr nv R.length := by rw [← b6.2.1]; exact (gr_id b6.1.1).symm
  rw [e6] at b6 ⊢
  exact k _ _ b6.1
