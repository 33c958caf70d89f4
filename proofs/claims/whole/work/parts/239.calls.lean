/-! the calls, both sides, at any argument -/
theorem nI_any {p : Int32} (h : ¬ p < 0) : ∃ k : Nat, k < 2147483648 ∧ p = nI k := by
  obtain ⟨j, hj, e⟩ := nI_of2 (x := p) (M := 2147483647) (n := 2147483647) (by decide) h (by
    rw [Int32.le_iff_toInt_le]
    have h1 := Int32.toInt_lt p
    have h2 : (2147483647 : Int32).toInt = 2147483647 := by decide
    rw [h2]
    omega)
  exact ⟨j, by omega, e⟩
/-- one answer serves both -/
def Cm (A B : (Int32 → Unit → Prop) → Prop) : Prop := ∃ r : Int32, (∀ Q : Int32 → Unit → Prop, Q r () → A Q) ∧ (∀ Q : Int32 → Unit → Prop, Q r () → B Q)
theorem pl_cases (p : Int32) {N : Nat} (hN : N ≤ 64) : (∃ k, k < N ∧ p = nI k) ∨ ((∀ Q : Int32 → Unit → Prop, Q 0 () → wp_Gr_hasPlace Q p (nI N)) ∧ (∀ Q : Int32 → Unit → Prop, Q 0 () → wp_Mo_place Q p (nI N)) ∧ ∀ k, k < N → p ≠ nI k) := by
  by_cases h : p < 0
  · exact Or.inr ⟨fun Q hQ => br_t h hQ, fun Q hQ => br_t h hQ, fun k hk e => by rw [e] at h; exact absurd h (nI_pos (by omega))⟩
  · obtain ⟨k, hk, rfl⟩ := nI_any h
    by_cases w : k < N
    · exact Or.inl ⟨k, w, rfl⟩
    · have g : nI N ≤ nI k := (nI_leI (by omega) hk).mpr (by omega)
      exact Or.inr ⟨fun Q hQ => br_f h (br_t g hQ), fun Q hQ => br_f h (br_t g hQ), fun j hj e => w (by have := (nI_eq hk (by omega)).mp e; omega)⟩
theorem pl_in {Q : Int32 → Unit → Prop} {k N : Nat} (hN : N ≤ 64) (hk : k < N) (h : Q 1 ()) : wp_Gr_hasPlace Q (nI k) (nI N) ∧ wp_Mo_place Q (nI k) (nI N) :=
  ⟨br_f (nI_pos (by omega)) (br_f (fun q => absurd ((nI_leI (by omega) (by omega)).mp q) (by omega)) h), br_f (nI_pos (by omega)) (br_f (fun q => absurd ((nI_leI (by omega) (by omega)).mp q) (by omega)) h)⟩
theorem j_size {p : Int32} {S Lk P N : Nat} {sg lk pa : Nat → Int32} (h1 : sg 0 = nI S) (h2 : lk 0 = nI Lk) (h3 : pa 0 = nI P) : Cm (fun Q => wp_X_size Q p (nI S) (nI Lk) (nI P) (nI N)) (fun Q => wp_Mo_size Q p (nI N) sg lk pa) := by
  have v : vp_in (0 : Int32) 2 := vp_in_nI (n := 0) (by omega) (by omega)
  by_cases a0 : p = 0
  · exact ⟨nI S, fun Q h => br_t a0 h, fun Q h => br_t a0 ⟨v, nm_r (by rw [sb_cl0, h1]) h⟩⟩
  by_cases a1 : p = 1
  · exact ⟨nI Lk, fun Q h => br_f a0 (br_t a1 h), fun Q h => br_f a0 (br_t a1 ⟨v, nm_r (by rw [sb_cl0, h2]) h⟩)⟩
  by_cases a2 : p = 2
  · exact ⟨nI P, fun Q h => br_f a0 (br_f a1 (br_t a2 h)), fun Q h => br_f a0 (br_f a1 (br_t a2 ⟨v, nm_r (by rw [sb_cl0, h3]) h⟩))⟩
  by_cases a3 : p = 3
  · exact ⟨nI N, fun Q h => br_f a0 (br_f a1 (br_f a2 (br_t a3 h))), fun Q h => br_f a0 (br_f a1 (br_f a2 (br_t a3 h)))⟩
  · exact ⟨-1, fun Q h => br_f a0 (br_f a1 (br_f a2 (br_f a3 h))), fun Q h => br_f a0 (br_f a1 (br_f a2 (br_f a3 h)))⟩
theorem j_base {p : Int32} {G : GD} {aN aS aB aP bases length lk fa ta so wi : Nat → Int32} (hG : G.ok) (hX : XS G.S G.nm G.ln G.bs aN aS aB aP) (hR : RP G (nI G.N) bases length lk fa ta so wi) : Cm (fun Q => wp_X_base Q p (nI G.N) aB) (fun Q => wp_Mo_base Q p (nI G.N) bases length so wi) := by
  have h64 : G.N ≤ 64 := hG.n64
  rcases pl_cases p h64 with ⟨k, hk, rfl⟩ | ⟨a, b, _⟩
  · refine ⟨nI (bo G k), fun Q h => (pl_in h64 hk (br_f (by decide) ⟨vp_in_nI (by omega) (by omega), nm_r (by rw [nI_clamp (by omega), hX.base hk]) h⟩)).1, fun Q h => (pl_in h64 hk (br_f (by decide) (s_baseOf hG hR hk h))).2⟩
  · exact ⟨-1, fun Q h => a _ (br_t rfl h), fun Q h => b _ (br_t rfl h)⟩
theorem s_areJoined {Q : Int32 → Unit → Prop} {p1 p2 : Int32} {c : Nat} {jf jt : Nat → Nat} {aJ aK : Nat → Int32} (hc : c ≤ 72) (hJ : ∀ k, k < c → aJ k = nI (jf k) ∧ aK k = nI (jt k)) (h1 : (∃ k, k < c ∧ nI (jf k) = p1 ∧ nI (jt k) = p2) → Q 1 ()) (h0 : (∀ k, k < c → ¬ (nI (jf k) = p1 ∧ nI (jt k) = p2)) → Q 0 ()) : wp_Gr_areJoined Q p1 p2 (nI c) aJ aK := by
  have L : ∀ (j k m : Nat), k + j = c → j < m → (∀ i, i < k → ¬ (nI (jf i) = p1 ∧ nI (jt i) = p2)) → w_Gr_areJoined_2 Q p1 p2 (nI c) aJ aK m (nI k) := by
    intro j
    induction j with
    | zero =>
      intro k m e hm hk
      obtain ⟨m, rfl⟩ : ∃ q, m = q + 1 := ⟨m - 1, by omega⟩
      obtain rfl : k = c := by omega
      exact br_t ((nI_leI (by omega) (by omega)).mpr (Nat.le_refl _)) (h0 hk)
    | succ j ih =>
      intro k m e hm hk
      obtain ⟨m, rfl⟩ : ∃ q, m = q + 1 := ⟨m - 1, by omega⟩
      obtain ⟨e1, e2⟩ := hJ k (by omega)
      have R : ¬ (nI (jf k) = p1 ∧ nI (jt k) = p2) → w_Gr_areJoined_32 Q (w_Gr_areJoined_2 Q p1 p2 (nI c) aJ aK m) p1 p2 (nI c) aJ aK (nI k) := by
        intro hn
        refine nm_r (nI_1 _) (ih (k + 1) m (by omega) (by omega) (fun i hi => ?_))
        rcases Nat.lt_or_ge i k with w | w
        · exact hk i w
        · obtain rfl : i = k := by omega
          exact hn
      refine br_f (fun q => absurd ((nI_leI (by omega) (by omega)).mp q) (by omega)) ⟨vp_in_nI (by omega) (by omega), nm_r (e' := nI (jf k)) (by rw [nI_clamp (by omega), e1]) ⟨fun q => ⟨vp_in_nI (by omega) (by omega), nm_r (e' := nI (jt k)) (by rw [nI_clamp (by omega), e2]) ⟨fun q2 => h1 ⟨k, by omega, q, q2⟩, fun q2 => R (fun z => q2 z.2)⟩⟩, fun q => R (fun z => q z.1)⟩⟩
  exact ⟨c + 1, L c 0 (c + 1) (by omega) (by omega) (fun i hi => absurd hi (Nat.not_lt_zero i))⟩
theorem j_follows {p1 p2 : Int32} {G : GD} {c : Nat} {jf jt : Nat → Nat} {aJ aK bases length lk fa ta so wi : Nat → Int32} (hG : G.ok) (hc : c ≤ 72) (hJ : JS G c jf jt aJ aK) (hC : JC G c jf jt) (hR : RP G (nI G.N) bases length lk fa ta so wi) : Cm (fun Q => wp_X_follows Q p1 p2 (nI c) aJ aK) (fun Q => wp_Mo_follows Q p1 p2 (nI G.N) length lk fa ta so wi) := by
  have h64 : G.N ≤ 64 := hG.n64
  by_cases h : ∃ k, k < c ∧ nI (jf k) = p1 ∧ nI (jt k) = p2
  · refine ⟨1, fun Q hQ => s_areJoined hc (fun k hk => ⟨(hJ.1 k hk).1, (hJ.1 k hk).2.1⟩) (fun _ => ⟨by decide, hQ⟩) (fun z => ?_), fun Q hQ => ?_⟩
    · obtain ⟨k, hk, e1, e2⟩ := h
      exact absurd ⟨e1, e2⟩ (z k hk)
    · obtain ⟨k, hk, rfl, rfl⟩ := h
      have hF := (hJ.1 k hk).2.2
      have hl := hF.lt
      exact (pl_in h64 hl.1 (br_f (by decide) (pl_in h64 hl.2 (br_f (by decide) (s_after hG hR hl.1 hl.2 (fun _ => br_f (by decide) hQ) (fun z => absurd hF z)))).2)).2
  · refine ⟨0, fun Q hQ => s_areJoined hc (fun k hk => ⟨(hJ.1 k hk).1, (hJ.1 k hk).2.1⟩) (fun z => absurd z h) (fun _ => ⟨by decide, hQ⟩), fun Q hQ => ?_⟩
    rcases pl_cases p1 h64 with ⟨u, hu, rfl⟩ | ⟨_, b, _⟩
    · rcases pl_cases p2 h64 with ⟨v, hv, rfl⟩ | ⟨_, b, _⟩
      · refine (pl_in h64 hu (br_f (by decide) (pl_in h64 hv (br_f (by decide) (s_after hG hR hu hv (fun z => ?_) (fun _ => br_t rfl hQ)))).2)).2
        obtain ⟨k, hk, e1, e2⟩ := hC u v z
        exact absurd ⟨k, hk, by rw [e1], by rw [e2]⟩ h
      · exact (pl_in h64 hu (br_f (by decide) (b _ (br_t rfl hQ)))).2
    · exact b _ (br_t rfl hQ)
theorem s_least {Q : Int32 → (Nat → Int32) → Prop} {p1 p2 : Int32} {G : GD} {c R : Nat} {jf jt rd : Nat → Nat} {re re2 tb tb2 aN aS aB aP aJ aK bases length lk fa ta so wi : Nat → Int32} (hG : G.ok) (hX : XS G.S G.nm G.ln G.bs aN aS aB aP) (hc : c ≤ 72) (hJ : JS G c jf jt aJ aK) (hC : JC G c jf jt) (hr : RDp re rd R) (hr2 : RDp re2 rd R) (hR : RP G (nI G.N) bases length lk fa ta so wi)
    (h : ∀ r tb', (∀ Q' : Int32 → (Nat → Int32) → Prop, (∀ t, Q' r t) → wp_Mo_least Q' p1 p2 (nI G.N) (nI R) bases length lk fa ta so wi re2 tb2) → Q r tb') : wp_X_least Q p1 p2 (nI R) re tb (nI G.N) (nI c) aB aJ aK := by
  have h64 : G.N ≤ 64 := hG.n64
  have h12 := hr.1
  by_cases a : p1 < 0
  · exact br_t a (h _ _ (fun Q' hQ => br_t a (hQ _)))
  obtain ⟨i, hi, rfl⟩ := nI_any a
  by_cases b : R < i
  · have b2 : nI R < nI i := (nI_ltI (by omega) hi).mpr b
    exact br_f a (br_t b2 (h _ _ (fun Q' hQ => br_f a (br_t b2 (hQ _)))))
  have b2 : ¬ nI R < nI i := fun q => b ((nI_ltI (by omega) hi).mp q)
  rcases pl_cases p2 h64 with ⟨v, hv, rfl⟩ | ⟨c1, c2, _⟩
  · refine br_f a (br_f b2 (pl_in h64 hv (br_f (by decide) (s_fill hG hX hJ hC hc hr (by omega) (fun tb' E hE hTB => s_Co_at hG (by omega) hv (hTB i (Nat.le_refl _)) (h _ _ (fun Q' hQ => ?_)))))).1)
    refine br_f a (br_f b2 (pl_in h64 hv (br_f (by decide) (s_Mo_costs hG hR hr2 (fun tb3 E' hE' hTB' => nm_r (e' := nI (64 * i + v)) (by rw [show (64 : Int32) = nI 64 from rfl, pk_mul, nI_add]) ⟨vp_in_nI (by omega) (by omega), nm_r (e' := nI (E i v)) ?_ (hQ _)⟩)))).2)
    rw [nI_clamp (by omega), hTB' i (by omega) v hv, hE'.uniq hE i (by omega) (Nat.le_refl _) v hv]
  · exact br_f a (br_f b2 (c1 _ (br_t rfl (h _ _ (fun Q' hQ => br_f a (br_f b2 (c2 _ (br_t rfl (hQ _)))))))))
/-- the results agree -/
def RsI (G : GD) (fo co wl ec sc th tot wd edn : Int32) (sides wb eb walk edits : Nat → Int32) : Prop := (fo = 0 ∧ th = 0) ∨ (fo = 1 ∧ th = 1 ∧ ∃ ed wk NE NW c Sd, Res G ed wk NE NW c ∧ co = nI c ∧ tot = nI c ∧ wl = nI NW ∧ wd = nI NW ∧ ec = nI NE ∧ edn = nI NE ∧ sc = nI (scf G (Wf wk NW) (NW - 1) + 1) ∧ NT sides Sd (scf G (Wf wk NW) (NW - 1) + 1) ∧ NT wb wk NW ∧ NT eb ed NE ∧ NT walk wk NW ∧ NT edits ed NE ∧ SDp G wk NW Sd)
theorem Res.c128 {G : GD} {ed wk : Nat → Nat} {NE NW c : Nat} (h : Res G ed wk NE NW c) : ∀ j, j < NE → ed j < 128 := fun j hj => by
  rcases h.2.2.2.2.2.2.2 j hj with w | w | w | w <;> omega
theorem j_walk {p : Int32} {G : GD} {fo co wl ec sc th tot wd edn : Int32} {sides wb eb walk edits : Nat → Int32} (h : RsI G fo co wl ec sc th tot wd edn sides wb eb walk edits) : Cm (fun Q => wp_X_walk Q p fo wl wb) (fun Q => wp_Mo_walk Q p th wd walk) := by
  rcases h with ⟨rfl, rfl⟩ | ⟨rfl, rfl, ed, wk, NE, NW, c, Sd, hR, rfl, rfl, rfl, rfl, rfl, rfl, rfl, h1, h2, h3, h4, h5, h6⟩
  · exact ⟨-1, fun Q h => br_t rfl h, fun Q h => br_t rfl h⟩
  have hN := hR.2.1
  by_cases a : p < 0
  · exact ⟨-1, fun Q h => br_f (by decide) (br_t a h), fun Q h => br_f (by decide) (br_t a h)⟩
  obtain ⟨k, hk, rfl⟩ := nI_any a
  by_cases b : k < NW
  · exact ⟨nI (wk (NW - 1 - k)), fun Q h => br_f (by decide) (br_f a (br_f (fun q => absurd ((nI_leI (by omega) (by omega)).mp q) (by omega)) (s_placeAt hN h2 b h))), fun Q h => s_Mo_walk hN h4 b h⟩
  · have b2 : nI NW ≤ nI k := (nI_leI (by omega) hk).mpr (by omega)
    exact ⟨-1, fun Q h => br_f (by decide) (br_f a (br_t b2 h)), fun Q h => br_f (by decide) (br_f a (br_t b2 h))⟩
theorem j_edit {p : Int32} {G : GD} {fo co wl ec sc th tot wd edn : Int32} {sides wb eb walk edits : Nat → Int32} (h : RsI G fo co wl ec sc th tot wd edn sides wb eb walk edits) : Cm (fun Q => wp_X_edit Q p fo ec eb) (fun Q => wp_Mo_edit Q p th edn edits) := by
  rcases h with ⟨rfl, rfl⟩ | ⟨rfl, rfl, ed, wk, NE, NW, c, Sd, hR, rfl, rfl, rfl, rfl, rfl, rfl, rfl, h1, h2, h3, h4, h5, h6⟩
  · exact ⟨-1, fun Q h => br_t rfl h, fun Q h => br_t rfl h⟩
  have hN := hR.2.2.2.1
  by_cases a : p < 0
  · exact ⟨-1, fun Q h => br_f (by decide) (br_t a h), fun Q h => br_f (by decide) (br_t a h)⟩
  obtain ⟨k, hk, rfl⟩ := nI_any a
  by_cases b : k < NE
  · exact ⟨nI (ed (NE - 1 - k)), fun Q h => br_f (by decide) (br_f a (br_f (fun q => absurd ((nI_leI (by omega) (by omega)).mp q) (by omega)) (s_editAt hN h3 b hR.c128 h))), fun Q h => s_Mo_edit hN h5 b h⟩
  · have b2 : nI NE ≤ nI k := (nI_leI (by omega) hk).mpr (by omega)
    exact ⟨-1, fun Q h => br_f (by decide) (br_f a (br_t b2 h)), fun Q h => br_f (by decide) (br_f a (br_t b2 h))⟩
theorem sx_lt {G : GD} {v : Nat} (h : v < G.N) : sx G v < 2 * G.S := by
  obtain ⟨x, i, hA⟩ := At.ex h
  rw [sx_At hA]
  exact hA.1
theorem scf_hit {G : GD} {W : Nat → Nat} : ∀ {k j : Nat}, j ≤ scf G W k → ∃ i, i ≤ k ∧ scf G W i = j := by
  intro k
  induction k with
  | zero => intro j h; exact ⟨0, Nat.le_refl _, by have : scf G W 0 = 0 := rfl; omega⟩
  | succ k ih =>
    intro j h
    by_cases w : j ≤ scf G W k
    · obtain ⟨i, h1, h2⟩ := ih w
      exact ⟨i, by omega, h2⟩
    · refine ⟨k + 1, Nat.le_refl _, ?_⟩
      have : scf G W (k + 1) = scf G W k + (if bgB G (W (k + 1)) = true then 1 else 0) := rfl
      split at this <;> omega
theorem SDp.lt {G : GD} {wk Sd : Nat → Nat} {NW : Nat} (h : SDp G wk NW Sd) (hN : 1 ≤ NW) (hw : ∀ j, j < NW → wk j < G.N) : ∀ j, j < scf G (Wf wk NW) (NW - 1) + 1 → Sd j < 2 * G.S := by
  intro j hj
  obtain ⟨i, h1, h2⟩ := scf_hit (G := G) (W := Wf wk NW) (k := NW - 1) (j := j) (by omega)
  rw [← h2, h i (by omega)]
  exact sx_lt (hw _ (by omega))
theorem j_lies {p : Int32} {G : GD} {fo co wl ec sc th tot wd edn : Int32} {sides wb eb walk edits aQ aC aT bases length lk fa ta pa sco st so wi : Nat → Int32} (hG : G.ok) (h : RsI G fo co wl ec sc th tot wd edn sides wb eb walk edits) (hXP : XP G.S G.P G.pn G.sn G.sp aQ aC aT) (hR : RP G (nI G.N) bases length lk fa ta so wi) (hpa : pa 0 = nI G.P) (hst : ∀ p, p < G.P → sco p = nI (G.sn p) ∧ ∀ j, j < G.sn p → st (8 * p + j) = nI (G.sp p j)) : Cm (fun Q => wp_X_lies Q p fo sc sides (nI G.P) aC aT) (fun Q => wp_Mo_lies Q p th wd length pa sco st so wi walk) := by
  rcases h with ⟨rfl, rfl⟩ | ⟨rfl, rfl, ed, wk, NE, NW, c, Sd, hRs, rfl, rfl, rfl, rfl, rfl, rfl, rfl, h1, h2, h3, h4, h5, h6⟩
  · exact ⟨0, fun Q h => br_t rfl h, fun Q h => br_t rfl h⟩
  have hP := hG.hP
  have hS := hG.hS
  have v : vp_in (0 : Int32) 2 := vp_in_nI (n := 0) (by omega) (by omega)
  have hlt := h6.lt hRs.1 hRs.2.2.2.2.2.1
  have hle := scf_le (G := G) (W := Wf wk NW) (k := NW - 1)
  have hNW := hRs.2.1
  by_cases a : p < 0
  · exact ⟨0, fun Q h => br_f (by decide) (br_t a h), fun Q h => br_f (by decide) (br_t a h)⟩
  obtain ⟨k, hk, rfl⟩ := nI_any a
  by_cases b : k < G.P
  · by_cases w : Li G Sd (scf G (Wf wk NW) (NW - 1) + 1) k
    · exact ⟨1, fun Q h => s_X_lies hG (by omega) (by omega) h1 (fun j hj => by have := hlt j hj; omega) hXP b (fun _ => h) (fun z => absurd w z), fun Q h => s_Mo_lies hG hR hRs.1 hNW h4 hRs.2.2.2.2.2.1 hRs.2.2.2.2.2.2.1 h6 (fun j hj => by have := hlt j (by omega); omega) hpa hst b (fun _ => h) (fun z => absurd w z)⟩
    · exact ⟨0, fun Q h => s_X_lies hG (by omega) (by omega) h1 (fun j hj => by have := hlt j hj; omega) hXP b (fun z => absurd z w) (fun _ => h), fun Q h => s_Mo_lies hG hR hRs.1 hNW h4 hRs.2.2.2.2.2.1 hRs.2.2.2.2.2.2.1 h6 (fun j hj => by have := hlt j (by omega); omega) hpa hst b (fun z => absurd z w) (fun _ => h)⟩
  · have b2 : ¬ nI k < nI G.P := fun q => b ((nI_ltI hk (by omega)).mp q)
    exact ⟨0, fun Q h => br_f (by decide) (br_f a (br_f b2 h)), fun Q h => br_f (by decide) (br_f a ⟨v, nm_r (by rw [sb_cl0, hpa]) (br_f b2 h)⟩)⟩
theorem j_letter {p : Int32} {nv : Nat} {av said : Nat → Int32} {l : List Nat} (hl : l.length ≤ 299) (hv : SBv nv av l) (hm : MT said l) : Cm (fun Q => wp_X_letter Q p 0 (nI l.length) nv av) (fun Q => wp_Mo_letter Q p (nI l.length) said) := by
  obtain ⟨v1, v2, v3, v4, v5⟩ := hv
  by_cases a : p < 0
  · exact ⟨-1, fun Q h => br_t a h, fun Q h => br_t a h⟩
  obtain ⟨k, hk, rfl⟩ := nI_any a
  by_cases b : k < l.length
  · have b2 : ¬ nI l.length ≤ nI k := fun q => absurd ((nI_leI (by omega) hk).mp q) (by omega)
    obtain ⟨c1, c2⟩ := v5 k b
    have hb := sb_byte (l.getD k 0) (by omega)
    rw [sb_b128 _ c1] at hb
    refine ⟨nI (l.getD k 0), fun Q h => br_f a (br_f b2 ?_), fun Q h => br_f a (br_f b2 ⟨vp_in_nI (by omega) (by omega), nm_r (by rw [nI_clamp hk, (hm k b).2]) h⟩)⟩
    unfold wp_SB_charAt wp_AB_charAt
    refine nm_r (sb_shr0 _) (nm_r (e' := nI l.length) (if_neg (nI_nlt v1 (by omega))) ?_)
    refine br_f a (br_t ((nI_ltI hk (by omega)).mpr b) (br_t rfl ⟨vp_in_nI (by omega) (by omega), nm_r (e' := nI (l.getD k 0)) (by rw [nI_clamp hk, c2, hb.1, hb.2.1]) ⟨(pk_charN (by omega)).1, (pk_charN (by omega)).1, h⟩⟩))
  · have b2 : nI l.length ≤ nI k := (nI_leI (by omega) hk).mpr (by omega)
    exact ⟨-1, fun Q h => br_f a (br_t b2 h), fun Q h => br_f a (br_t b2 h)⟩
theorem s_fill0 {Q : (Nat → Int32) → Prop} {au : Nat → Int32} (h : ∀ a, (∀ j, j < 16 → a j = 0) → Q a) : wp_Ar_fill_aII Q 0 16 au := by
  have L : ∀ (j k m : Nat) (au : Nat → Int32), k + j = 16 → j < m → (∀ i, i < k → au i = 0) → w_Ar_fill_aII_5 Q 0 16 m (nI k) (nI 16) au := by
    intro j
    induction j with
    | zero =>
      intro k m au e hm hk
      obtain ⟨m, rfl⟩ : ∃ q, m = q + 1 := ⟨m - 1, by omega⟩
      obtain rfl : k = 16 := by omega
      exact br_t ((nI_leI (by omega) (by omega)).mpr (Nat.le_refl _)) (h _ hk)
    | succ j ih =>
      intro k m au e hm hk
      obtain ⟨m, rfl⟩ : ∃ q, m = q + 1 := ⟨m - 1, by omega⟩
      refine br_f (fun q => absurd ((nI_leI (by omega) (by omega)).mp q) (by omega)) ⟨vp_in_nI (by omega) (by omega), nm_r (e' := upd au k 0) (by rw [nI_clamp (by omega)]) (nm_r (nI_1 _) (ih (k + 1) m _ (by omega) (by omega) (fun i hi => ?_)))⟩
      by_cases w : i = k
      · rw [w, pk_us]
      · rw [pk_un w]
        exact hk i (by omega)
  exact ⟨17, L 16 0 17 au (by omega) (by omega) (fun i hi => absurd hi (Nat.not_lt_zero i))⟩
theorem XG0 {aN aS aB aP aF aQ aC aT : Nat → Int32} (h : ∀ j, j < 16 → aF j = 0) : XG G0 aN aS aB aP aF aQ aC aT := by
  refine ⟨fun s hs => absurd hs (Nat.not_lt_zero s), fun x hx => ⟨0, by omega, h x hx, fun y hy => ⟨fun z => ?_, fun z => ?_⟩⟩, fun p hp => absurd hp (Nat.not_lt_zero p)⟩
  · rw [Nat.zero_testBit] at z
    exact absurd z (by decide)
  · obtain ⟨k, hk, _⟩ := z
    exact absurd hk (Nat.not_lt_zero k)
theorem s_X_load {Q : Int32 → (Int32 × Int32 × Int32 × Int32 × Int32 × Int32 × Int32 × (Nat → Int32) × (Nat → Int32) × (Nat → Int32) × (Nat → Int32) × (Nat → Int32) × (Nat → Int32) × (Nat → Int32) × (Nat → Int32) × (Nat → Int32) × (Nat → Int32) × Nat × Nat) → Prop} {f : Nat → Int32} {t : Nat → Nat} {n qg qs : Nat} {at0 fo s1 s2 s3 s4 s5 : Int32} {aN aS aB aP aF aQ aC aT aJ aK : Nat → Int32} (hT : Tx f t n)
    (h1 : ∀ G' k, Rd t n k 0 G0 (some G') → G'.ok → ∀ (a : Int32) (c : Nat) jf jt aN' aS' aB' aP' aF' aQ' aC' aT' aJ' aK', XG G' aN' aS' aB' aP' aF' aQ' aC' aT' → c ≤ 72 → JS G' c jf jt aJ' aK' → JC G' c jf jt → Q 0 (a, 0, nI G'.S, nI G'.Lk, nI G'.P, nI G'.N, nI c, aN', aS', aB', aP', aF', aQ', aC', aT', aJ', aK', qs, qg))
    (h0 : ∀ k, Rd t n k 0 G0 none → ∀ a u1 u2 u3 u4 u5 b1 b2 b3 b4 b5 b6 b7 b8 b9 b10, Q (-nI k) (a, fo, u1, u2, u3, u4, u5, b1, b2, b3, b4, b5, b6, b7, b8, b9, b10, qg, qs)) : wp_X_load Q (nI n) at0 f fo s1 s2 s3 s4 s5 aN aS aB aP aF aQ aC aT aJ aK qg qs := by
  have hn := hT.1
  unfold wp_X_load wp_Gr_forget
  refine s_fill0 (fun aF0 hF0 => ?_)
  refine s_firstBadLine hT (XG0 hF0) (fun G' k hr hG a aN' aS' aB' aP' aF' aQ' aC' aT' hX => br_t (by decide) ?_) (fun k hk1 hk2 hr v => br_f (nI_nle (by omega) (by omega)) (nm_e (h0 k hr _ _ _ _ _ _ _ _ _ _ _ _ _ _ _ _)))
  exact s_joinPlaces hG hX.1 hX.2.1 (fun c jf jt aJ' aK' hc hJ hC => h1 G' k hr hG _ c jf jt _ _ _ _ _ _ _ _ _ _ hX hc hJ hC)
