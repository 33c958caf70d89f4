/-! places: their bases, and which follow which -/
abbrev GD.N (G : GD) : Nat := st0 G.ln G.S
theorem GD.ok.n64 {G : GD} (hG : G.ok) : G.N ≤ 64 := by
  have := st0_le (ln := G.ln) (s := G.S) (fun r hr => (hG.hln r hr).2)
  have := hG.hS
  show st0 G.ln G.S ≤ 64
  omega
def fs (ln : Nat → Nat) (v : Nat) : Nat → Nat
  | 0 => 0
  | k + 1 => if ps ln k ≤ v then k else fs ln v k
theorem fs_At {ln : Nat → Nat} {S v x i : Nat} (h : At ln S v x i) : fs ln v (2 * S) = x := by
  have L : ∀ k, x < k → fs ln v k = x := by
    intro k
    induction k with
    | zero => intro w; omega
    | succ k ih =>
      intro w
      show (if ps ln k ≤ v then k else fs ln v k) = x
      have h3 := h.2.2
      have h2 := h.2.1
      by_cases e1 : x = k
      · subst e1; rw [if_pos (by omega)]
      · have := ps_mono (ln := ln) (x := x) (y := k) (by omega)
        rw [if_neg (by omega)]
        exact ih (by omega)
  exact L _ h.1
def bo (G : GD) (v : Nat) : Nat := gb G.ln G.bs (fs G.ln v (2 * G.S)) (v - ps G.ln (fs G.ln v (2 * G.S)))
theorem bo_At {G : GD} {v x i : Nat} (h : At G.ln G.S v x i) : bo G v = gb G.ln G.bs x i := by
  unfold bo
  rw [fs_At h, show v - ps G.ln x = i by have := h.2.2; omega]
theorem gb_lt {G : GD} (hG : G.ok) {v x i : Nat} (h : At G.ln G.S v x i) : 65 ≤ gb G.ln G.bs x i ∧ gb G.ln G.bs x i ≤ 84 := by
  have h1 := h.1
  have h2 := h.2.1
  unfold gb
  split
  · exact isBs_range (hG.hbs (x / 2) (by omega) i h2)
  · exact cp_lt _
theorem bo_lt {G : GD} (hG : G.ok) {v : Nat} (h : v < G.N) : 65 ≤ bo G v ∧ bo G v ≤ 84 := by
  obtain ⟨x, i, hA⟩ := At.ex h
  rw [bo_At hA]
  exact gb_lt hG hA
def RP (G : GD) (pl : Int32) (bases length lk fa ta so wi : Nat → Int32) : Prop := (∀ s, s < G.S → length s = nI (G.ln s) ∧ ∀ i, i < G.ln s → bases (4 * s + i) = nI (G.bs s i)) ∧ ML lk fa ta 0 G.fr G.to G.Lk G.S ∧ pl = nI G.N ∧ ∀ u x i, At G.ln G.S u x i → so u = nI x ∧ wi u = nI i
theorem RG.rp {G : GD} {pl : Int32} {sg names sz bases length lk fa ta pa sc st so wi : Nat → Int32} (h : RG G pl sg names sz bases length lk fa ta pa sc st so wi) : RP G pl bases length lk fa ta so wi := by
  obtain ⟨a1, a2, a3, a4, a5, a6, a7, a8⟩ := h
  exact ⟨a3, a4, a7, a8⟩
section RPS
variable {G : GD} {pl : Int32} {bases length lk fa ta so wi : Nat → Int32}
theorem s_isLast {Q : Int32 → Unit → Prop} {u x i : Nat} (hG : G.ok) (hR : RP G pl bases length lk fa ta so wi) (hA : At G.ln G.S u x i) (h1 : i + 1 = G.ln (x / 2) → Q 1 ()) (h0 : i + 1 ≠ G.ln (x / 2) → Q 0 ()) : wp_Mo_isLast Q (nI u) length so wi := by
  obtain ⟨a3, a4, a7, a8⟩ := hR
  have h64 := hG.n64
  have hu := hA.lt
  have hS := hG.hS
  have hx := hA.1
  have hi := hA.2.1
  have hl := hG.hln (x / 2) (by omega)
  have hu' : u < 64 := Nat.lt_of_lt_of_le hu h64
  obtain ⟨b1, b2⟩ := a8 u x i hA
  unfold wp_Mo_isLast
  simp only [forall_eq]
  rw [nI_clamp (by omega), b1, b2, show (2 : Int32) = nI 2 from rfl, pk_div (by omega) (by omega) (by omega), nI_clamp (by omega), (a3 (x / 2) (by omega)).1, show (1 : Int32) = nI 1 from rfl, pk_sub (by omega)]
  refine ⟨vp_in_nI (by omega) (by omega), vp_in_nI (by omega) (by omega), vp_in_nI (by omega) (by omega), fun q => h1 ?_, fun q => h0 (fun w => q (congrArg nI (by omega)))⟩
  have := (nI_eq (by omega) (by omega)).mp q
  omega
theorem s_after {Q : Int32 → Unit → Prop} {u v : Nat} (hG : G.ok) (hR : RP G pl bases length lk fa ta so wi) (hu : u < G.N) (hv : v < G.N) (h1 : Fo G u v → Q 1 ()) (h0 : ¬ Fo G u v → Q 0 ()) : wp_Mo_after Q (nI u) (nI v) length lk fa ta so wi := by
  have hR' := hR
  obtain ⟨a3, a4, a7, a8⟩ := hR'
  have h64 := hG.n64
  have hS := hG.hS
  obtain ⟨x, i, hA⟩ := At.ex hu
  obtain ⟨y, j, hB⟩ := At.ex hv
  have hx := hA.1
  have hy := hB.1
  have hj := hB.2.1
  have hl := hG.hln (y / 2) (by omega)
  have hu' : u < 64 := Nat.lt_of_lt_of_le hu h64
  have hv' : v < 64 := Nat.lt_of_lt_of_le hv h64
  unfold wp_Mo_after
  refine s_isLast hG hR hA (fun w => ⟨fun q => absurd q (by decide), fun _ => ?_⟩) (fun w => ⟨fun _ => ?_, fun q => absurd rfl q⟩)
  · simp only [forall_eq]
    rw [nI_clamp (by omega), nI_clamp (by omega), (a8 v y j hB).1, (a8 v y j hB).2, (a8 u x i hA).1]
    refine ⟨vp_in_nI (by omega) (by omega), fun q => ?_, fun q => h0 (fun ⟨x', i', y', j', g1, g2, g3⟩ => ?_)⟩
    · have hj0 : j = 0 := (nI_eq (b := 0) (by omega) (by omega)).mp q
      refine ⟨vp_in_nI (by omega) (by omega), vp_in_nI (by omega) (by omega), ?_⟩
      refine s_linked (g := 0) (by omega) hG.hL hS a4 (by omega) (by omega) (fun z => ⟨fun q => absurd q (by decide), fun _ => h1 ⟨x, i, y, j, hA, hB, Or.inr ⟨w, hj0, z⟩⟩⟩) (fun z => ⟨fun _ => h0 (fun ⟨x', i', y', j', g1, g2, g3⟩ => ?_), fun q => absurd rfl q⟩)
      obtain ⟨rfl, rfl⟩ := hA.uniq g1
      obtain ⟨rfl, rfl⟩ := hB.uniq g2
      rcases g3 with g3 | g3
      · omega
      · exact z g3.2.2
    · obtain ⟨rfl, rfl⟩ := hA.uniq g1
      obtain ⟨rfl, rfl⟩ := hB.uniq g2
      rcases g3 with g3 | g3
      · omega
      · exact q (congrArg nI g3.2.1)
  · simp only [forall_eq]
    rw [nI_1]
    have hi := hA.2.1
    refine ⟨fun q => h1 ⟨x, i, y, j, hA, hB, Or.inl ⟨by omega, (nI_eq (by omega) (by omega)).mp q⟩⟩, fun q => h0 (fun ⟨x', i', y', j', g1, g2, g3⟩ => ?_)⟩
    obtain ⟨rfl, rfl⟩ := hA.uniq g1
    rcases g3 with g3 | g3
    · exact q (congrArg nI g3.2)
    · omega
theorem s_baseOf {Q : Int32 → Unit → Prop} {v : Nat} (hG : G.ok) (hR : RP G pl bases length lk fa ta so wi) (hv : v < G.N) (h : Q (nI (bo G v)) ()) : wp_Mo_baseOf Q (nI v) bases length so wi := by
  obtain ⟨a3, a4, a7, a8⟩ := hR
  have h64 := hG.n64
  have hS := hG.hS
  obtain ⟨y, j, hB⟩ := At.ex hv
  have hy := hB.1
  have hj := hB.2.1
  have hl := hG.hln (y / 2) (by omega)
  have hv' : v < 64 := Nat.lt_of_lt_of_le hv h64
  have hgb := gb_lt hG hB
  rw [bo_At hB] at h
  unfold wp_Mo_baseOf
  simp only [forall_eq]
  rw [nI_clamp (by omega), (a8 v y j hB).1, (a8 v y j hB).2, show (2 : Int32) = nI 2 from rfl, pk_rem (by omega) (by omega) (by omega), pk_div (by omega) (by omega) (by omega), show (4 : Int32) = nI 4 from rfl, pk_mul, nI_add, nI_clamp (by omega), nI_clamp (n := y / 2) (by omega), (a3 (y / 2) (by omega)).1, nI_add, show (1 : Int32) = nI 1 from rfl, pk_sub (by omega), pk_sub (by omega), nI_clamp (by omega)]
  refine ⟨vp_in_nI (by omega) (by omega), vp_in_nI (by omega) (by omega), fun q => ⟨vp_in_nI (by omega) (by omega), vp_in_nI (by omega) (by omega), ?_⟩, fun q => ⟨vp_in_nI (by omega) (by omega), vp_in_nI (by omega) (by omega), vp_in_nI (by omega) (by omega), ?_⟩⟩
  · have q0 : y % 2 = 0 := (nI_eq (b := 0) (by omega) (by omega)).mp q
    unfold gb at h hgb
    rw [if_pos q0] at h hgb
    rw [(a3 (y / 2) (by omega)).2 j hj]
    exact ⟨(pk_charN (by omega)).1, h⟩
  · have q1 : ¬ y % 2 = 0 := fun w => q (congrArg nI w)
    unfold gb at h
    rw [if_neg q1] at h
    have hb := (hG.hbs (y / 2) (by omega) (G.ln (y / 2) - 1 - j) (by omega))
    have hbr := isBs_range hb
    rw [show 4 * (y / 2) + G.ln (y / 2) - 1 - j = 4 * (y / 2) + (G.ln (y / 2) - 1 - j) by omega, (a3 (y / 2) (by omega)).2 _ (by omega)]
    have hb' : ((G.bs (y / 2) (G.ln (y / 2) - 1 - j) = 65 ∨ G.bs (y / 2) (G.ln (y / 2) - 1 - j) = 67) ∨ G.bs (y / 2) (G.ln (y / 2) - 1 - j) = 71) ∨ G.bs (y / 2) (G.ln (y / 2) - 1 - j) = 84 := by simpa [isBs] using hb
    generalize G.bs (y / 2) (G.ln (y / 2) - 1 - j) = b at h hb'
    rcases hb' with ((rfl | rfl) | rfl) | rfl
    · exact ⟨fun _ => h, fun q => absurd rfl q⟩
    · exact ⟨fun q => absurd q (by decide), fun _ => ⟨fun q => absurd q (by decide), fun _ => ⟨fun _ => h, fun q => absurd rfl q⟩⟩⟩
    · exact ⟨fun q => absurd q (by decide), fun _ => ⟨fun q => absurd q (by decide), fun _ => ⟨fun q => absurd q (by decide), fun _ => h⟩⟩⟩
    · exact ⟨fun q => absurd q (by decide), fun _ => ⟨fun _ => h, fun q => absurd rfl q⟩⟩
def mm (rd : Nat → Nat) (G : GD) (i v : Nat) : Nat := if rd (i - 1) = bo G v then 0 else 1
def RDp (re : Nat → Int32) (rd : Nat → Nat) (R : Nat) : Prop := R ≤ 12 ∧ ∀ j, j < R → re j = nI (rd j) ∧ 65 ≤ rd j ∧ rd j ≤ 84
theorem mm_le {rd : Nat → Nat} {i v : Nat} : mm rd G i v ≤ 1 := by unfold mm; split <;> omega
theorem s_change {Q : Int32 → Unit → Prop} {re : Nat → Int32} {rd : Nat → Nat} {R i v : Nat} (hG : G.ok) (hR : RP G pl bases length lk fa ta so wi) (hr : RDp re rd R) (hi : 1 ≤ i) (hiR : i ≤ R) (hv : v < G.N) (h : Q (nI (mm rd G i v)) ()) : wp_Mo_change Q (nI i) (nI v) bases length so wi re := by
  have h12 := hr.1
  have h2 := hr.2 (i - 1) (by omega)
  have hb := bo_lt hG hv
  unfold wp_Mo_change
  simp only [forall_eq]
  rw [show (1 : Int32) = nI 1 from rfl, pk_sub (by omega), nI_clamp (by omega), h2.1]
  refine ⟨vp_in_nI (by omega) (by omega), s_baseOf hG hR hv ⟨fun q => ?_, fun q => ?_⟩⟩
  · have : rd (i - 1) = bo G v := (nI_eq (by omega) (by omega)).mp q
    unfold mm at h
    rw [if_pos this] at h
    exact h
  · have : ¬ rd (i - 1) = bo G v := fun w => q (congrArg nI w)
    unfold mm at h
    rw [if_neg this] at h
    exact h
end RPS
theorem s_costOn {Q : Int32 → Unit → Prop} {G : GD} {re : Nat → Int32} {rd : Nat → Nat} {R i v : Nat} (hG : G.ok) (hr : RDp re rd R) (hi : 1 ≤ i) (hiR : i ≤ R) (hv : v < G.N) (h : Q (nI (mm rd G i v)) ()) : wp_Re_costOn Q (nI i) (nI (bo G v)) re := by
  have h12 := hr.1
  have h2 := hr.2 (i - 1) (by omega)
  have hb := bo_lt hG hv
  unfold wp_Re_costOn
  simp only [forall_eq]
  rw [show (1 : Int32) = nI 1 from rfl, pk_sub (by omega), nI_clamp (by omega), h2.1]
  refine ⟨vp_in_nI (by omega) (by omega), fun q => ?_, fun q => ?_⟩
  · have : rd (i - 1) = bo G v := (nI_eq (by omega) (by omega)).mp q
    unfold mm at h
    rw [if_pos this] at h
    exact h
  · have : ¬ rd (i - 1) = bo G v := fun w => q (congrArg nI w)
    unfold mm at h
    rw [if_neg this] at h
    exact h
theorem XS.base {G : GD} {aN aS aB aP : Nat → Int32} (hX : XS G.S G.nm G.ln G.bs aN aS aB aP) {v : Nat} (hv : v < G.N) : aB v = nI (bo G v) := by
  obtain ⟨x, i, hA⟩ := At.ex hv
  rw [bo_At hA, hA.2.2]
  exact ((hX.view hA.1).2 i hA.2.1).2
