/-! the joins of the class -/
def gb (ln : Nat → Nat) (bs : Nat → Nat → Nat) (x i : Nat) : Nat := if x % 2 = 0 then bs (x / 2) i else cp (bs (x / 2) (ln (x / 2) - 1 - i))
theorem XS.view {S : Nat} {nm ln : Nat → Nat} {bs : Nat → Nat → Nat} {aN aS aB aP : Nat → Int32} (h : XS S nm ln bs aN aS aB aP) {x : Nat} (hx : x < 2 * S) : aS x = nI (ps ln x) ∧ ∀ i, i < ln (x / 2) → aP (ps ln x + i) = nI x ∧ aB (ps ln x + i) = nI (gb ln bs x i) := by
  obtain ⟨h1, h2, h3, h4, h5⟩ := h (x / 2) (by omega)
  rcases Nat.mod_two_eq_zero_or_one x with w | w
  · obtain ⟨s, rfl⟩ : ∃ s, x = 2 * s := ⟨x / 2, by omega⟩
    rw [show 2 * s / 2 = s by omega] at h3 h5 ⊢
    rw [ps_even]
    refine ⟨h3, fun i hi => ?_⟩
    obtain ⟨_, g1, g2, _⟩ := h5 i hi
    refine ⟨g2, ?_⟩
    unfold gb
    rw [if_pos w, show 2 * s / 2 = s by omega]
    exact g1
  · obtain ⟨s, rfl⟩ : ∃ s, x = 2 * s + 1 := ⟨x / 2, by omega⟩
    rw [show (2 * s + 1) / 2 = s by omega] at h4 h5 ⊢
    rw [ps_odd]
    refine ⟨h4, fun i hi => ?_⟩
    obtain ⟨_, _, _, g1, g2⟩ := h5 i hi
    refine ⟨g2, ?_⟩
    unfold gb
    rw [if_neg (by omega), show (2 * s + 1) / 2 = s by omega]
    exact g1
/-- place u is followed by place v -/
def Fo (G : GD) (u v : Nat) : Prop := ∃ x i y j, At G.ln G.S u x i ∧ At G.ln G.S v y j ∧ ((i + 1 < G.ln (x / 2) ∧ v = u + 1) ∨ (i + 1 = G.ln (x / 2) ∧ j = 0 ∧ LinkP G.fr G.to G.Lk x y))
theorem Fo.lt {G : GD} {u v : Nat} (h : Fo G u v) : u < st0 G.ln G.S ∧ v < st0 G.ln G.S := by
  obtain ⟨x, i, y, j, h1, h2, _⟩ := h
  exact ⟨h1.lt, h2.lt⟩
/-! counting links -/
def lb (fr to : Nat → Nat) : Nat → Nat → Nat → Bool
  | 0, _, _ => false
  | k + 1, x, y => lb fr to k x y || (decide (fr k = x) && decide (to k = y)) || (decide (to k = tn x) && decide (fr k = tn y))
theorem lb_iff {fr to : Nat → Nat} {x y : Nat} : ∀ {k : Nat}, lb fr to k x y = true ↔ LinkP fr to k x y := by
  intro k
  induction k with
  | zero => exact ⟨fun h => by simp [lb] at h, fun ⟨k, hk, _⟩ => absurd hk (Nat.not_lt_zero _)⟩
  | succ k ih =>
    simp only [lb, Bool.or_eq_true, Bool.and_eq_true, decide_eq_true_eq]
    rw [ih]
    constructor
    · rintro ((⟨k', h1, h2⟩ | h) | h)
      · exact ⟨k', by omega, h2⟩
      · exact ⟨k, by omega, Or.inl h⟩
      · exact ⟨k, by omega, Or.inr h⟩
    · rintro ⟨k', h1, h2⟩
      rcases Nat.lt_or_ge k' k with w | w
      · exact Or.inl (Or.inl ⟨k', w, h2⟩)
      · obtain rfl : k' = k := by omega
        rcases h2 with h2 | h2
        · exact Or.inl (Or.inr h2)
        · exact Or.inr h2
def cn (p : Nat → Bool) : Nat → Nat
  | 0 => 0
  | n + 1 => cn p n + (if p n = true then 1 else 0)
theorem cn_mono {p : Nat → Bool} {m n : Nat} (h : m ≤ n) : cn p m ≤ cn p n := by
  induction n with
  | zero => obtain rfl : m = 0 := by omega
            exact Nat.le_refl _
  | succ n ih =>
    rcases Nat.lt_or_ge n m with w | w
    · obtain rfl : m = n + 1 := by omega
      exact Nat.le_refl _
    · have := ih w
      show cn p m ≤ cn p n + _
      omega
theorem cn_two {p q : Nat → Bool} {a b : Nat} : ∀ {n : Nat}, (∀ z, z < n → p z = true → q z = true ∨ z = a ∨ z = b) → cn p n ≤ cn q n + (if a < n then 1 else 0) + (if b < n then 1 else 0) := by
  intro n
  induction n with
  | zero => intro _; exact Nat.zero_le _
  | succ n ih =>
    intro h
    have h1 := ih (fun z hz => h z (by omega))
    have h2 := h n (by omega)
    show cn p n + _ ≤ cn q n + _ + _ + _
    by_cases hp : p n = true
    · rw [if_pos hp]
      rcases h2 hp with w | w | w
      · rw [if_pos w]
        split at h1 <;> split at h1 <;> split <;> split <;> omega
      · subst w
        split at h1 <;> split at h1 <;> split <;> split <;> split <;> omega
      · subst w
        split at h1 <;> split at h1 <;> split <;> split <;> split <;> omega
    · rw [if_neg hp]
      split at h1 <;> split at h1 <;> split <;> split <;> split <;> omega
def lf (G : GD) (z : Nat) : Bool := lb G.fr G.to G.Lk (z / 16) (z % 16)
theorem cl_le {fr to : Nat → Nat} : ∀ (k : Nat), cn (fun z => lb fr to k (z / 16) (z % 16)) 256 ≤ 2 * k := by
  intro k
  induction k with
  | zero =>
    have : ∀ n, cn (fun z => lb fr to 0 (z / 16) (z % 16)) n = 0 := by
      intro n
      induction n with
      | zero => rfl
      | succ n ih => show cn _ n + _ = 0; rw [ih]; simp [lb]
    rw [this]
    exact Nat.zero_le _
  | succ k ih =>
    have := cn_two (p := fun z => lb fr to (k + 1) (z / 16) (z % 16)) (q := fun z => lb fr to k (z / 16) (z % 16)) (a := 16 * fr k + to k) (b := 16 * tn (to k) + tn (fr k)) (n := 256) (fun z hz hp => by
      simp only [lb, Bool.or_eq_true, Bool.and_eq_true, decide_eq_true_eq] at hp
      rcases hp with (hp | hp) | hp
      · exact Or.inl hp
      · exact Or.inr (Or.inl (by omega))
      · refine Or.inr (Or.inr ?_)
        rw [hp.1, hp.2, tn_tn, tn_tn]
        omega)
    split at this <;> split at this <;> omega
theorem lf_le {G : GD} (hG : G.ok) {z : Nat} (hz : z ≤ 256) : cn (lf G) z ≤ 24 := by
  have h1 : cn (lf G) 256 ≤ 2 * G.Lk := cl_le (fr := G.fr) (to := G.to) G.Lk
  have h2 := cn_mono (p := lf G) hz
  have := hG.hL
  omega
theorem ps_le {ln : Nat → Nat} {S : Nat} (h : ∀ s, s < S → ln s ≤ 4) : ∀ {x : Nat}, x ≤ 2 * S → ps ln x ≤ 4 * x := by
  intro x
  induction x with
  | zero => intro _; rw [ps_zero]; exact Nat.zero_le _
  | succ x ih =>
    intro hx
    rw [ps_succ]
    have := ih (by omega)
    have := h (x / 2) (by omega)
    omega
theorem ps_ge {ln : Nat → Nat} {S : Nat} (h : ∀ s, s < S → 1 ≤ ln s) : ∀ {x : Nat}, x ≤ 2 * S → x ≤ ps ln x := by
  intro x
  induction x with
  | zero => intro _; exact Nat.zero_le _
  | succ x ih =>
    intro hx
    rw [ps_succ]
    have := ih (by omega)
    have := h (x / 2) (by omega)
    omega
/-! joins found so far: c of them, all of places before u -/
def JS (G : GD) (c : Nat) (jf jt : Nat → Nat) (aJ aK : Nat → Int32) : Prop := (∀ k, k < c → aJ k = nI (jf k) ∧ aK k = nI (jt k) ∧ Fo G (jf k) (jt k)) ∧ ∀ k l, k < l → l < c → jf k ≤ jf l
theorem JS.add {G : GD} {c u v : Nat} {jf jt : Nat → Nat} {aJ aK : Nat → Int32} (h : JS G c jf jt aJ aK) (hF : Fo G u v) (hu : ∀ k, k < c → jf k ≤ u) : JS G (c + 1) (fu jf c u) (fu jt c v) (upd aJ c (nI u)) (upd aK c (nI v)) := by
  refine ⟨fun k hk => ?_, fun k l hk hl => ?_⟩
  · by_cases e1 : k = c
    · subst e1; rw [fu_s, fu_s, pk_us, pk_us]; exact ⟨rfl, rfl, hF⟩
    · rw [fu_n e1, fu_n e1, pk_un e1, pk_un e1]; exact h.1 k (by omega)
  · by_cases e1 : l = c
    · subst e1; rw [fu_s, fu_n (by omega)]; exact hu k hk
    · rw [fu_n (by omega), fu_n e1]; exact h.2 k l hk (by omega)
theorem s_join {Q : (Int32 × (Nat → Int32) × (Nat → Int32)) → Prop} {u v c : Nat} {aJ aK : Nat → Int32} (hc : c < 72) (h : Q (nI (c + 1), upd aJ c (nI u), upd aK c (nI v))) : wp_Gr_join Q (nI u) (nI v) (nI c) aJ aK := by
  unfold wp_Gr_join
  refine ⟨fun q => absurd ((nI_leI (a := 72) (by omega) (by omega)).mp q) (by omega), fun _ => ?_⟩
  simp only [forall_eq]
  rw [nI_clamp (by omega), nI_1]
  exact ⟨vp_in_nI (by omega) (by omega), vp_in_nI (by omega) (by omega), h⟩
theorem s_lastPlace {Q : Int32 → Unit → Prop} {G : GD} {x : Nat} {aN aS aB aP : Nat → Int32} (hG : G.ok) (hX : XS G.S G.nm G.ln G.bs aN aS aB aP) (hx : x < 2 * G.S) (h : Q (nI (ps G.ln (x + 1) - 1)) ()) : wp_Gr_lastPlace Q (nI x) (nI G.S) (nI (st0 G.ln G.S)) aS := by
  have hS := hG.hS
  have h1 := ps_ge (ln := G.ln) (S := G.S) (fun s hs => (hG.hln s hs).1) (x := x + 1) (by omega)
  have h4 := ps_le (ln := G.ln) (S := G.S) (fun s hs => (hG.hln s hs).2) (x := x + 1) (by omega)
  unfold wp_Gr_lastPlace
  simp only [forall_eq]
  rw [nI_1, show (2 : Int32) = nI 2 from rfl, pk_mul, show (1 : Int32) = nI 1 from rfl, nI_clamp (by omega)]
  refine ⟨fun q => ?_, fun q => ?_⟩
  · have : 2 * G.S ≤ x + 1 := (nI_leI (by omega) (by omega)).mp q
    have e1 : x + 1 = 2 * G.S := by omega
    rw [← ps_even (ln := G.ln) (s := G.S), ← e1, pk_sub (by omega)]
    exact h
  · have : x + 1 < 2 * G.S := by
      rcases Nat.lt_or_ge (x + 1) (2 * G.S) with w | w
      · exact w
      · exact absurd (nI_le (by omega) (by omega)) q
    rw [(hX.view this).1, pk_sub (by omega)]
    exact ⟨vp_in_nI (by omega) (by omega), h⟩
def JC (G : GD) (c : Nat) (jf jt : Nat → Nat) : Prop := ∀ u v, Fo G u v → ∃ k, k < c ∧ jf k = u ∧ jt k = v
theorem s_joinToFollowers {Q : (Int32 × (Nat → Int32) × (Nat → Int32)) → Prop} {G : GD} {u x i c : Nat} {jf jt : Nat → Nat} {aN aS aB aP aF aJ aK : Nat → Int32} (hG : G.ok) (hX : XS G.S G.nm G.ln G.bs aN aS aB aP) (hF : FX aF G.fr G.to G.Lk) (hA : At G.ln G.S u x i) (hlast : i + 1 = G.ln (x / 2)) (hJ : JS G c jf jt aJ aK) (hJu : ∀ k, k < c → jf k < u) (hJc : ∀ u' v, u' < u → Fo G u' v → ∃ k, k < c ∧ jf k = u' ∧ jt k = v) (hc : c + x ≤ u + cn (lf G) (16 * x))
    (h : ∀ c' jf' jt' aJ' aK', JS G c' jf' jt' aJ' aK' → (∀ k, k < c' → jf' k < u + 1) → (∀ u' v, u' < u + 1 → Fo G u' v → ∃ k, k < c' ∧ jf' k = u' ∧ jt' k = v) → c' + x ≤ u + cn (lf G) (16 * x + 16) → Q (nI c', aJ', aK')) : wp_Gr_joinToFollowers Q (nI u) (nI x) (nI G.S) (nI c) aS aF aJ aK := by
  have hS := hG.hS
  have hx := hA.1
  have hu := hA.2.2
  have hi := hA.2.1
  have hl4 := (hG.hln (x / 2) (by omega)).2
  have h4 := ps_le (ln := G.ln) (S := G.S) (fun s hs => (hG.hln s hs).2) (x := x) (by omega)
  have L : ∀ (j y c : Nat) (jf jt : Nat → Nat) (aJ aK : Nat → Int32), y + j = 2 * G.S → JS G c jf jt aJ aK → (∀ k, k < c → jf k < u + 1) → (∀ u' v, u' < u → Fo G u' v → ∃ k, k < c ∧ jf k = u' ∧ jt k = v) → (∀ y', y' < y → LinkP G.fr G.to G.Lk x y' → ∃ k, k < c ∧ jf k = u ∧ jt k = ps G.ln y') → c + x ≤ u + cn (lf G) (16 * x + y) → ∃ m, w_Gr_joinToFollowers_2 Q (nI u) (nI x) (nI G.S) aS aF m (nI y) (nI c) aJ aK := by
    intro j
    induction j with
    | zero =>
      intro y c jf jt aJ aK hy hJ hJu hJc hJy hc
      refine ⟨1, ?_⟩
      show w_Gr_joinToFollowers_2B Q _ (nI u) (nI x) (nI G.S) aS aF _ _ _ _
      unfold w_Gr_joinToFollowers_2B
      simp only [forall_eq]
      rw [show (2 : Int32) = nI 2 from rfl, pk_mul]
      refine ⟨fun _ => h c jf jt aJ aK hJ hJu (fun u' v hu' hF' => ?_) ?_, fun q => absurd (nI_le (by omega) (by omega)) q⟩
      · rcases Nat.lt_or_ge u' u with w | w
        · exact hJc u' v w hF'
        · obtain rfl : u' = u := by omega
          obtain ⟨x', i', y', j', g1, g2, g3⟩ := hF'
          obtain ⟨rfl, rfl⟩ := hA.uniq g1
          rcases g3 with g3 | ⟨_, rfl, g4⟩
          · omega
          · obtain ⟨k, k1, k2, k3⟩ := hJy y' (by have := g2.1; omega) g4
            exact ⟨k, k1, k2, by rw [k3, g2.2.2]; rfl⟩
      · have := cn_mono (p := lf G) (m := 16 * x + y) (n := 16 * x + 16) (by omega)
        omega
    | succ j ih =>
      intro y c jf jt aJ aK hy hJ hJu hJc hJy hc
      have hz : cn (lf G) (16 * x + (y + 1)) = cn (lf G) (16 * x + y) + (if lf G (16 * x + y) = true then 1 else 0) := rfl
      have hlf : lf G (16 * x + y) = true ↔ LinkP G.fr G.to G.Lk x y := by
        unfold lf
        rw [show (16 * x + y) / 16 = x by omega, show (16 * x + y) % 16 = y by omega]
        exact lb_iff
      have h24 := lf_le hG (z := 16 * x + (y + 1)) (by omega)
      by_cases hL : LinkP G.fr G.to G.Lk x y
      · rw [if_pos (hlf.mpr hL)] at hz
        have hl1 := (hG.hln (y / 2) (by omega)).1
        obtain ⟨m, hm⟩ := ih (y + 1) (c + 1) (fu jf c u) (fu jt c (ps G.ln y)) (upd aJ c (nI u)) (upd aK c (nI (ps G.ln y))) (by omega) (hJ.add ⟨x, i, y, 0, hA, ⟨by omega, by omega, rfl⟩, Or.inr ⟨hlast, rfl, hL⟩⟩ (fun k hk => by have := hJu k hk; omega)) (fun k hk => by
          by_cases e1 : k = c
          · subst e1; rw [fu_s]; omega
          · rw [fu_n e1]; exact hJu k (by omega)) (fun u' v hu' hF' => by
          obtain ⟨k, k1, k2, k3⟩ := hJc u' v hu' hF'
          exact ⟨k, by omega, by rw [fu_n (by omega)]; exact k2, by rw [fu_n (by omega)]; exact k3⟩) (fun y' hy' hL' => by
          by_cases e1 : y' = y
          · subst e1; exact ⟨c, by omega, fu_s, fu_s⟩
          · obtain ⟨k, k1, k2, k3⟩ := hJy y' (by omega) hL'
            exact ⟨k, by omega, by rw [fu_n (by omega)]; exact k2, by rw [fu_n (by omega)]; exact k3⟩) (by omega)
        refine ⟨m + 1, ?_⟩
        show w_Gr_joinToFollowers_2B Q _ (nI u) (nI x) (nI G.S) aS aF _ _ _ _
        unfold w_Gr_joinToFollowers_2B
        simp only [forall_eq]
        rw [show (2 : Int32) = nI 2 from rfl, pk_mul]
        refine ⟨fun q => absurd ((nI_leI (by omega) (by omega)).mp q) (by omega), fun _ => ?_⟩
        refine s_mayFollow hF (by omega) (by omega) (fun _ => ⟨fun q => absurd q (by decide), fun _ => ?_⟩) (fun z => absurd hL z)
        unfold wp_Gr_firstPlace
        simp only [forall_eq]
        rw [nI_clamp (by omega), (hX.view (x := y) (by omega)).1]
        refine ⟨vp_in_nI (by omega) (by omega), ?_⟩
        refine s_join (by omega) ?_
        unfold w_Gr_joinToFollowers_31
        simp only [forall_eq]
        rw [nI_1]
        exact hm
      · rw [if_neg (fun w => hL (hlf.mp w))] at hz
        obtain ⟨m, hm⟩ := ih (y + 1) c jf jt aJ aK (by omega) hJ hJu hJc (fun y' hy' hL' => by
          by_cases e1 : y' = y
          · subst e1; exact absurd hL' hL
          · exact hJy y' (by omega) hL') (by omega)
        refine ⟨m + 1, ?_⟩
        show w_Gr_joinToFollowers_2B Q _ (nI u) (nI x) (nI G.S) aS aF _ _ _ _
        unfold w_Gr_joinToFollowers_2B
        simp only [forall_eq]
        rw [show (2 : Int32) = nI 2 from rfl, pk_mul]
        refine ⟨fun q => absurd ((nI_leI (by omega) (by omega)).mp q) (by omega), fun _ => ?_⟩
        refine s_mayFollow hF (by omega) (by omega) (fun z => absurd z hL) (fun _ => ⟨fun _ => ?_, fun q => absurd rfl q⟩)
        unfold w_Gr_joinToFollowers_31
        simp only [forall_eq]
        rw [nI_1]
        exact hm
  exact L (2 * G.S) 0 c jf jt aJ aK (by omega) hJ (fun k hk => by have := hJu k hk; omega) hJc (fun y' hy' => absurd hy' (Nat.not_lt_zero _)) hc
theorem s_joinPlaces {Q : (Int32 × (Nat → Int32) × (Nat → Int32)) → Prop} {G : GD} {aN aS aB aP aF aJ aK : Nat → Int32} (hG : G.ok) (hX : XS G.S G.nm G.ln G.bs aN aS aB aP) (hF : FX aF G.fr G.to G.Lk)
    (h : ∀ c jf jt aJ' aK', c ≤ 72 → JS G c jf jt aJ' aK' → JC G c jf jt → Q (nI c, aJ', aK')) : wp_Gr_joinPlaces Q (nI G.S) (nI (st0 G.ln G.S)) 0 aS aP aF aJ aK := by
  have hS := hG.hS
  have h64 : st0 G.ln G.S ≤ 64 := by
    have := st0_le (ln := G.ln) (s := G.S) (fun r hr => (hG.hln r hr).2)
    omega
  have L : ∀ (m u x i c : Nat) (jf jt : Nat → Nat) (aJ aK : Nat → Int32), st0 G.ln G.S - u < m → u = ps G.ln x + i → ((x < 2 * G.S ∧ i < G.ln (x / 2)) ∨ (x = 2 * G.S ∧ i = 0)) → JS G c jf jt aJ aK → (∀ k, k < c → jf k < u) → (∀ u' v, u' < u → Fo G u' v → ∃ k, k < c ∧ jf k = u' ∧ jt k = v) → c + x ≤ u + cn (lf G) (16 * x) → w_Gr_joinPlaces_2 Q (nI G.S) (nI (st0 G.ln G.S)) aS aP aF m (nI u) (nI c) aJ aK := by
    intro m
    induction m with
    | zero => intro u x i c jf jt aJ aK h; omega
    | succ m ih =>
      intro u x i c jf jt aJ aK hm hu hA hJ hJu hJc hc
      have hx2 : x ≤ 2 * G.S := by omega
      have h4 := ps_le (ln := G.ln) (S := G.S) (fun s hs => (hG.hln s hs).2) hx2
      have h24 := lf_le hG (z := 16 * x) (by omega)
      show w_Gr_joinPlaces_2B Q _ (nI G.S) (nI (st0 G.ln G.S)) aS aP aF _ _ _ _
      unfold w_Gr_joinPlaces_2B
      rcases hA with ⟨hxl, hil⟩ | ⟨rfl, rfl⟩
      · have hA : At G.ln G.S u x i := ⟨hxl, hil, hu⟩
        have hult := hA.lt
        have hl4 := (hG.hln (x / 2) (by omega)).2
        have hl1 := (hG.hln (x / 2) (by omega)).1
        have hnext : x + 1 < 2 * G.S ∧ 0 < G.ln ((x + 1) / 2) ∨ x + 1 = 2 * G.S ∧ 0 = 0 := by
          rcases Nat.lt_or_ge (x + 1) (2 * G.S) with w | w
          · exact Or.inl ⟨w, (hG.hln ((x + 1) / 2) (by omega)).1⟩
          · exact Or.inr ⟨by omega, rfl⟩
        have hv := (hX.view hxl).2 i hil
        rw [← hu] at hv
        have hps := ps_succ (ln := G.ln) (x := x)
        refine ⟨fun q => absurd ((nI_leI (by omega) (by omega)).mp q) (by omega), fun _ => ?_⟩
        simp only [forall_eq]
        rw [nI_clamp (by omega), hv.1, nI_1]
        refine ⟨vp_in_nI (by omega) (by omega), ?_⟩
        refine s_lastPlace hG hX hxl ⟨fun q => ?_, fun q => ?_⟩
        · have : ps G.ln (x + 1) - 1 ≤ u := (nI_leI (by omega) (by omega)).mp q
          refine s_joinToFollowers hG hX hF hA (by omega) hJ hJu hJc hc (fun c' jf' jt' aJ' aK' k1 k2 k3 k4 => ?_)
          unfold w_Gr_joinPlaces_43
          simp only [forall_eq]
          rw [nI_1]
          exact ih (u + 1) (x + 1) 0 c' jf' jt' aJ' aK' (by omega) (by omega) hnext k1 k2 k3 (by rw [show 16 * (x + 1) = 16 * x + 16 by omega]; omega)
        · have hnl : i + 1 < G.ln (x / 2) := by
            rcases Nat.lt_or_ge (i + 1) (G.ln (x / 2)) with w | w
            · exact w
            · exact absurd (nI_le (a := ps G.ln (x + 1) - 1) (b := u) (by omega) (by omega)) q
          have hFo : Fo G u (u + 1) := ⟨x, i, x, i + 1, hA, ⟨hxl, hnl, by omega⟩, Or.inl ⟨hnl, rfl⟩⟩
          refine s_join (by omega) ?_
          unfold w_Gr_joinPlaces_43
          simp only [forall_eq]
          rw [nI_1]
          refine ih (u + 1) x (i + 1) (c + 1) (fu jf c u) (fu jt c (u + 1)) _ _ (by omega) (by omega) (Or.inl ⟨hxl, hnl⟩) (hJ.add hFo (fun k hk => by have := hJu k hk; omega)) (fun k hk => ?_) (fun u' v hu' hF' => ?_) (by omega)
          · by_cases e1 : k = c
            · subst e1; rw [fu_s]; omega
            · rw [fu_n e1]; have := hJu k (by omega); omega
          · rcases Nat.lt_or_ge u' u with w | w
            · obtain ⟨k, k1, k2, k3⟩ := hJc u' v w hF'
              exact ⟨k, by omega, by rw [fu_n (by omega)]; exact k2, by rw [fu_n (by omega)]; exact k3⟩
            · obtain rfl : u' = u := by omega
              obtain ⟨x', i', y', j', g1, g2, g3⟩ := hF'
              obtain ⟨rfl, rfl⟩ := hA.uniq g1
              rcases g3 with ⟨_, rfl⟩ | ⟨g4, _⟩
              · exact ⟨c, by omega, fu_s, fu_s⟩
              · omega
      · rw [ps_even] at hu
        refine ⟨fun q => ?_, fun q => absurd (nI_le (by omega) (by omega)) q⟩
        refine h c jf jt aJ aK ?_ hJ (fun u' v hF' => hJc u' v (by have := hF'.lt.1; omega) hF')
        rw [ps_even] at h4
        omega
  exact ⟨st0 G.ln G.S + 1, L _ 0 0 0 0 (fun _ => 0) (fun _ => 0) _ _ (by omega) (by rw [ps_zero]) (by
    rcases Nat.lt_or_ge 0 G.S with w | w
    · exact Or.inl ⟨by omega, (hG.hln 0 w).1⟩
    · exact Or.inr ⟨by omega, rfl⟩) ⟨fun k hk => absurd hk (Nat.not_lt_zero _), fun k l hk hl => absurd hl (Nat.not_lt_zero _)⟩ (fun k hk => absurd hk (Nat.not_lt_zero _)) (fun u' v hu' => absurd hu' (Nat.not_lt_zero _)) (Nat.zero_le _)⟩
