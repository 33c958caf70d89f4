/-! what a text holds: the data of a graph, line by line -/
abbrev GD : Type := Nat × (Nat → Nat) × (Nat → Nat) × (Nat → Nat → Nat) × Nat × (Nat → Nat) × (Nat → Nat) × Nat × (Nat → Nat) × (Nat → Nat) × (Nat → Nat → Nat)
abbrev GD.S (G : GD) : Nat := G.1
abbrev GD.nm (G : GD) : Nat → Nat := G.2.1
abbrev GD.ln (G : GD) : Nat → Nat := G.2.2.1
abbrev GD.bs (G : GD) : Nat → Nat → Nat := G.2.2.2.1
abbrev GD.Lk (G : GD) : Nat := G.2.2.2.2.1
abbrev GD.fr (G : GD) : Nat → Nat := G.2.2.2.2.2.1
abbrev GD.to (G : GD) : Nat → Nat := G.2.2.2.2.2.2.1
abbrev GD.P (G : GD) : Nat := G.2.2.2.2.2.2.2.1
abbrev GD.pn (G : GD) : Nat → Nat := G.2.2.2.2.2.2.2.2.1
abbrev GD.sn (G : GD) : Nat → Nat := G.2.2.2.2.2.2.2.2.2.1
abbrev GD.sp (G : GD) : Nat → Nat → Nat := G.2.2.2.2.2.2.2.2.2.2
def cut (k : Nat) (sd : Nat → Nat) : Nat → Nat := fun j => if j ≤ k then sd j else 0
theorem cut_le {k j : Nat} {sd : Nat → Nat} (h : j ≤ k) : cut k sd j = sd j := if_pos h
def GD.seg (G : GD) (x m : Nat) (b : Nat → Nat) : GD := (G.S + 1, fu G.nm G.S x, fu G.ln G.S m, fu2 G.bs G.S b, G.Lk, G.fr, G.to, G.P, G.pn, G.sn, G.sp)
def GD.lnk (G : GD) (x y : Nat) : GD := (G.S, G.nm, G.ln, G.bs, G.Lk + 1, fu G.fr G.Lk x, fu G.to G.Lk y, G.P, G.pn, G.sn, G.sp)
def GD.pth (G : GD) (x k : Nat) (sd : Nat → Nat) : GD := (G.S, G.nm, G.ln, G.bs, G.Lk, G.fr, G.to, G.P + 1, fu G.pn G.P x, fu G.sn G.P (k + 1), fu2 G.sp G.P (cut k sd))
abbrev GD.lk (G : GD) : Nat → Nat → Prop := LinkP G.fr G.to G.Lk
def LineP (t : Nat → Nat) (e a : Nat) (G G' : GD) : Prop :=
  (a < e ∧ t a = 72 ∧ G' = G) ∨
  (∃ x p m, SegP t e a x p m ∧ G.S < 8 ∧ (∀ r, ¬ Fst G.nm G.S x r) ∧ G' = G.seg x m (fun i => t (p + i))) ∨
  (∃ x y, LnkP t e G.S G.nm a x y ∧ G.Lk < 12 ∧ ¬ LinkP G.fr G.to G.Lk x y ∧ G' = G.lnk x y) ∨
  (∃ x k sd, PthP t e G.S G.nm (LinkP G.fr G.to G.Lk) a x k sd ∧ G.P < 4 ∧ (∀ r, ¬ Fst G.pn G.P x r) ∧ G' = G.pth x k sd)
theorem SegP.uniq {t : Nat → Nat} {e a x p m x' p' m' : Nat} (h : SegP t e a x p m) (h' : SegP t e a x' p' m') : x = x' ∧ p = p' ∧ m = m' := by
  obtain ⟨b, y1, y2, y3, y4, y5, y6, y7, y8, y9, y10, y11, y12, _⟩ := h
  obtain ⟨b', z1, z2, z3, z4, z5, z6, z7, z8, z9, z10, z11, z12, _⟩ := h'
  have := y5.uniq z5
  subst this
  exact ⟨by rw [y8, z8], by omega, by omega⟩
theorem LnkP.uniq {t : Nat → Nat} {e S : Nat} {nm : Nat → Nat} {a x y x' y' : Nat} (h : LnkP t e S nm a x y) (h' : LnkP t e S nm a x' y') : x = x' ∧ y = y' := by
  obtain ⟨a3, a5, y1, y2, y3, y4, y5, y6, y7, y8, _⟩ := h
  obtain ⟨b3, b5, z1, z2, z3, z4, z5, z6, z7, z8, _⟩ := h'
  obtain ⟨i1, i2⟩ := y5.uniq z5
  subst i2
  exact ⟨i1, (y8.uniq z8).1⟩
theorem LnkP.lt {t : Nat → Nat} {e S : Nat} {nm : Nat → Nat} {a x y : Nat} (h : LnkP t e S nm a x y) : x < 2 * S ∧ y < 2 * S := by
  obtain ⟨a3, a5, y1, y2, y3, y4, y5, y6, y7, y8, _⟩ := h
  exact ⟨y5.le.2.2, y8.le.2.2⟩
theorem Fin.uniq {t : Nat → Nat} {e S : Nat} {nm : Nat → Nat} {LP : Nat → Nat → Prop} {a k k' : Nat} {sd sd' : Nat → Nat} (h : Fin t e S nm LP a k sd) (h' : Fin t e S nm LP a k' sd') : k = k' ∧ cut k sd = cut k' sd' := by
  have hh := h
  have hh' := h'
  obtain ⟨c, a1, h1, h2, h3, h4, _⟩ := hh
  obtain ⟨c', a1', h1', h2', h3', h4', _⟩ := hh'
  obtain ⟨_, _, _, q1, _⟩ := h'.at h2
  obtain ⟨_, _, _, q2, _⟩ := h.at h2'
  obtain rfl : k = k' := by omega
  obtain ⟨i1, i2⟩ := h2.uniq h2'
  subst i1
  have i3 := (h3.uniq h3').1
  refine ⟨rfl, funext fun j => ?_⟩
  unfold cut
  split
  · rename_i hj
    rcases Nat.lt_or_ge j k with w | w
    · exact i2 j w
    · obtain rfl : j = k := by omega
      exact i3
  · rfl
theorem PthP.uniq {t : Nat → Nat} {e S : Nat} {nm : Nat → Nat} {LP : Nat → Nat → Prop} {a x k x' k' : Nat} {sd sd' : Nat → Nat} (h : PthP t e S nm LP a x k sd) (h' : PthP t e S nm LP a x' k' sd') : x = x' ∧ k = k' ∧ cut k sd = cut k' sd' := by
  obtain ⟨b, y1, y2, y3, y4, y5, y6, y7, y8, y9, y10, y11⟩ := h
  obtain ⟨b', z1, z2, z3, z4, z5, z6, z7, z8, z9, z10, z11⟩ := h'
  have := y5.uniq z5
  subst this
  exact ⟨by rw [y8, z8], y11.uniq z11⟩
theorem SegP.tag {t : Nat → Nat} {e a x p m : Nat} (h : SegP t e a x p m) : t a = 83 := by obtain ⟨b, y1, y2, _⟩ := h; exact y2
theorem LnkP.tag {t : Nat → Nat} {e S : Nat} {nm : Nat → Nat} {a x y : Nat} (h : LnkP t e S nm a x y) : t a = 76 := by obtain ⟨_, _, y1, y2, _⟩ := h; exact y2
theorem PthP.tag {t : Nat → Nat} {e S : Nat} {nm : Nat → Nat} {LP : Nat → Nat → Prop} {a x k : Nat} {sd : Nat → Nat} (h : PthP t e S nm LP a x k sd) : t a = 80 := by obtain ⟨b, y1, y2, _⟩ := h; exact y2
theorem LineP.uniq {t : Nat → Nat} {e a : Nat} {G G' G'' : GD} (h : LineP t e a G G') (h' : LineP t e a G G'') : G' = G'' := by
  rcases h with ⟨_, h1, rfl⟩ | ⟨x, p, m, h1, _, _, rfl⟩ | ⟨x, y, h1, _, _, rfl⟩ | ⟨x, k, sd, h1, _, _, rfl⟩ <;>
  rcases h' with ⟨_, h2, rfl⟩ | ⟨x', p', m', h2, _, _, rfl⟩ | ⟨x', y', h2, _, _, rfl⟩ | ⟨x', k', sd', h2, _, _, rfl⟩
  · rfl
  · have := h2.tag; omega
  · have := h2.tag; omega
  · have := h2.tag; omega
  · have := h1.tag; omega
  · obtain ⟨rfl, rfl, rfl⟩ := h1.uniq h2; rfl
  · have := h1.tag; have := h2.tag; omega
  · have := h1.tag; have := h2.tag; omega
  · have := h1.tag; omega
  · have := h1.tag; have := h2.tag; omega
  · obtain ⟨rfl, rfl⟩ := h1.uniq h2; rfl
  · have := h1.tag; have := h2.tag; omega
  · have := h1.tag; omega
  · have := h1.tag; have := h2.tag; omega
  · have := h1.tag; have := h2.tag; omega
  · obtain ⟨rfl, rfl, q⟩ := h1.uniq h2
    unfold GD.pth
    rw [q]
theorem name_ok {t : Nat → Nat} {a e b : Nat} (hR : Run isN t a e b) (h1 : 1 ≤ b - a) (h2 : b - a ≤ 3) : 1 ≤ pck (fun i => t (a + i)) (b - a) ∧ pck (fun i => t (a + i)) (b - a) < 2097152 := by
  obtain ⟨r1, r2, r3, r4⟩ := hR
  have hcd : ∀ i, i < b - a → 1 ≤ t (a + i) ∧ t (a + i) < 128 := fun i hi => by have := isN_range (r3 (a + i) (by omega) (by omega)); omega
  have p1 := pck_lt (c := fun i => t (a + i)) (k := b - a) (fun i hi => (hcd i hi).2)
  have p2 := pck_ge (c := fun i => t (a + i)) (k := b - a) (fun i hi => (hcd i hi).1) h1
  have p3 : 128 ^ (b - a) ≤ 2097152 := by
    have : b - a = 1 ∨ b - a = 2 ∨ b - a = 3 := by omega
    rcases this with w | w | w <;> rw [w] <;> decide
  have p4 : 1 ≤ 128 ^ (b - a - 1) := Nat.one_le_pow _ _ (by decide)
  omega
def GD.ok (G : GD) : Prop := (G.S ≤ 8) ∧ (NMok G.nm G.S) ∧ (G.Lk ≤ 12) ∧ (G.P ≤ 4) ∧ (∀ s, s < G.S → 1 ≤ G.ln s ∧ G.ln s ≤ 4) ∧ (∀ s, s < G.S → ∀ i, i < G.ln s → isBs (G.bs s i) = true) ∧ (∀ k, k < G.Lk → G.fr k < 2 * G.S ∧ G.to k < 2 * G.S) ∧ (∀ p, p < G.P → 1 ≤ G.pn p ∧ G.pn p < 2097152) ∧ (∀ p, p < G.P → 1 ≤ G.sn p ∧ G.sn p ≤ 8) ∧ (∀ p, p < G.P → ∀ j, j < G.sn p → G.sp p j < 2 * G.S)
theorem GD.ok.hS {G : GD} (h : G.ok) : G.S ≤ 8 := h.1
theorem GD.ok.hN {G : GD} (h : G.ok) : NMok G.nm G.S := h.2.1
theorem GD.ok.hL {G : GD} (h : G.ok) : G.Lk ≤ 12 := h.2.2.1
theorem GD.ok.hP {G : GD} (h : G.ok) : G.P ≤ 4 := h.2.2.2.1
theorem GD.ok.hln {G : GD} (h : G.ok) : ∀ s, s < G.S → 1 ≤ G.ln s ∧ G.ln s ≤ 4 := h.2.2.2.2.1
theorem GD.ok.hbs {G : GD} (h : G.ok) : ∀ s, s < G.S → ∀ i, i < G.ln s → isBs (G.bs s i) = true := h.2.2.2.2.2.1
theorem GD.ok.hft {G : GD} (h : G.ok) : ∀ k, k < G.Lk → G.fr k < 2 * G.S ∧ G.to k < 2 * G.S := h.2.2.2.2.2.2.1
theorem GD.ok.hpn {G : GD} (h : G.ok) : ∀ p, p < G.P → 1 ≤ G.pn p ∧ G.pn p < 2097152 := h.2.2.2.2.2.2.2.1
theorem GD.ok.hsn {G : GD} (h : G.ok) : ∀ p, p < G.P → 1 ≤ G.sn p ∧ G.sn p ≤ 8 := h.2.2.2.2.2.2.2.2.1
theorem GD.ok.hsp {G : GD} (h : G.ok) : ∀ p, p < G.P → ∀ j, j < G.sn p → G.sp p j < 2 * G.S := h.2.2.2.2.2.2.2.2.2
theorem Pre.lt {t : Nat → Nat} {e S : Nat} {nm : Nat → Nat} {LP : Nat → Nat → Prop} {a : Nat} {sd : Nat → Nat} : ∀ {k c : Nat}, Pre t e S nm LP a k sd c → ∀ j, j < k → sd j < 2 * S := by
  intro k
  induction k with
  | zero => intro c h j hj; omega
  | succ k ih =>
    intro c h j hj
    obtain ⟨c0, a1, h1, h2, _⟩ := h
    rcases Nat.lt_or_ge j k with w | w
    · exact ih h1 j w
    · obtain rfl : j = k := by omega
      exact h2.le.2.2
theorem LineP.ok {t : Nat → Nat} {e a : Nat} {G G' : GD} (h : LineP t e a G G') (hG : G.ok) : G'.ok := by
  rcases h with ⟨_, h1, rfl⟩ | ⟨x, p, m, h1, h2, _, rfl⟩ | ⟨x, y, h1, h2, _, rfl⟩ | ⟨x, k, sd, h1, h2, _, rfl⟩
  · exact hG
  · obtain ⟨b, y1, y2, y3, y4, y5, y6, y7, y8, y9, y10, y11, y12, y13, y14, y15⟩ := h1
    have hx := name_ok y5 y6 y7
    rw [← y8] at hx
    refine ⟨h2, fun j hj => ?_, hG.hL, hG.hP, fun s hs => ?_, fun s hs i hi => ?_, fun k hk => ?_, hG.hpn, hG.hsn, fun p hp j hj => ?_⟩
    · show 1 ≤ fu G.nm G.S x j ∧ fu G.nm G.S x j < _
      have hj : j < G.S + 1 := hj
      by_cases e1 : j = G.S
      · subst e1; rw [fu_s]; exact hx
      · rw [fu_n e1]; exact hG.hN j (by omega)
    · show 1 ≤ fu G.ln G.S m s ∧ fu G.ln G.S m s ≤ 4
      have hs : s < G.S + 1 := hs
      by_cases e1 : s = G.S
      · subst e1; rw [fu_s]; exact ⟨y13, y14⟩
      · rw [fu_n e1]; exact hG.hln s (by omega)
    · show isBs (fu2 G.bs G.S (fun i => t (p + i)) s i) = true
      have hs : s < G.S + 1 := hs
      have hi : i < fu G.ln G.S m s := hi
      by_cases e1 : s = G.S
      · subst e1; rw [fu_s] at hi; rw [fu2_s]; exact y15 i hi
      · rw [fu_n e1] at hi; rw [fu2_n e1]; exact hG.hbs s (by omega) i hi
    · have := hG.hft k hk
      show G.fr k < 2 * (G.S + 1) ∧ G.to k < 2 * (G.S + 1)
      omega
    · have := hG.hsp p hp j hj
      show G.sp p j < 2 * (G.S + 1)
      omega
  · have hx := h1.lt
    refine ⟨hG.hS, hG.hN, h2, hG.hP, hG.hln, hG.hbs, fun k hk => ?_, hG.hpn, hG.hsn, hG.hsp⟩
    show fu G.fr G.Lk x k < 2 * G.S ∧ fu G.to G.Lk y k < 2 * G.S
    have hk : k < G.Lk + 1 := hk
    by_cases e1 : k = G.Lk
    · subst e1; rw [fu_s, fu_s]; exact hx
    · rw [fu_n e1, fu_n e1]; exact hG.hft k (by omega)
  · obtain ⟨b, y1, y2, y3, y4, y5, y6, y7, y8, y9, y10, c, a1, z1, z2, z3, _⟩ := h1
    have hx := name_ok y5 y6 y7
    rw [← y8] at hx
    refine ⟨hG.hS, hG.hN, hG.hL, h2, hG.hln, hG.hbs, hG.hft, fun p hp => ?_, fun p hp => ?_, fun p hp j hj => ?_⟩
    · show 1 ≤ fu G.pn G.P x p ∧ fu G.pn G.P x p < _
      have hp : p < G.P + 1 := hp
      by_cases e1 : p = G.P
      · subst e1; rw [fu_s]; exact hx
      · rw [fu_n e1]; exact hG.hpn p (by omega)
    · show 1 ≤ fu G.sn G.P (k + 1) p ∧ fu G.sn G.P (k + 1) p ≤ 8
      have hp : p < G.P + 1 := hp
      by_cases e1 : p = G.P
      · subst e1; rw [fu_s]; omega
      · rw [fu_n e1]; exact hG.hsn p (by omega)
    · show fu2 G.sp G.P (cut k sd) p j < 2 * G.S
      have hp : p < G.P + 1 := hp
      have hj : j < fu G.sn G.P (k + 1) p := hj
      by_cases e1 : p = G.P
      · subst e1
        rw [fu_s] at hj
        rw [fu2_s, cut_le (by omega)]
        rcases Nat.lt_or_ge j k with w | w
        · exact z2.lt j w
        · obtain rfl : j = k := by omega
          exact z3.le.2.2
      · rw [fu_n e1] at hj; rw [fu2_n e1]; exact hG.hsp p (by omega) j hj
/-! the lines of a text -/
def Rd (t : Nat → Nat) (n : Nat) : Nat → Nat → GD → Option GD → Prop
  | 0, a, G, r => n ≤ a ∧ r = some G
  | k + 1, a, G, r => a < n ∧ ∃ e, LE t n a e ∧ ((r = none ∧ k = 0 ∧ ¬ ∃ G', LineP t e a G G' ∧ e < n) ∨ ∃ G', LineP t e a G G' ∧ e < n ∧ Rd t n k (e + 1) G' r)
theorem LE.uniq {t : Nat → Nat} {n a e e' : Nat} (h : LE t n a e) (h' : LE t n a e') : e = e' := by
  obtain ⟨h1, h2, h3, h4⟩ := h
  obtain ⟨g1, g2, g3, g4⟩ := h'
  rcases Nat.lt_trichotomy e e' with w | w | w
  · exact absurd (h4 (by omega)) (g3 e h1 w)
  · exact w
  · exact absurd (g4 (by omega)) (h3 e' g1 w)
theorem LE.ex {t : Nat → Nat} {n : Nat} : ∀ (d a : Nat), a + d = n → ∃ e, LE t n a e := by
  intro d
  induction d with
  | zero => intro a h; exact ⟨a, Nat.le_refl _, by omega, fun j h1 h2 => by omega, fun w => by omega⟩
  | succ d ih =>
    intro a h
    by_cases w : t a = 10
    · exact ⟨a, Nat.le_refl _, by omega, fun j h1 h2 => by omega, fun _ => w⟩
    · obtain ⟨e, h1, h2, h3, h4⟩ := ih (a + 1) (by omega)
      refine ⟨e, by omega, h2, fun j j1 j2 => ?_, h4⟩
      by_cases q : j = a
      · subst q; exact w
      · exact h3 j (by omega) j2
theorem Rd.uniq {t : Nat → Nat} {n : Nat} {r r' : Option GD} : ∀ {k k' a : Nat} {G : GD}, Rd t n k a G r → Rd t n k' a G r' → r = r' ∧ k = k' := by
  intro k
  induction k with
  | zero =>
    intro k' a G h h'
    obtain ⟨h1, h2⟩ := h
    cases k' with
    | zero => obtain ⟨g1, g2⟩ := h'; exact ⟨by rw [h2, g2], rfl⟩
    | succ k' => have := h'.1; omega
  | succ k ih =>
    intro k' a G h h'
    cases k' with
    | zero => have := h.1; have := h'.1; omega
    | succ k' =>
      obtain ⟨w1, e, w2, w3⟩ := h
      obtain ⟨q1, e', q2, q3⟩ := h'
      have := w2.uniq q2
      subst this
      rcases w3 with ⟨rfl, rfl, w3⟩ | ⟨G', w3, w4, w5⟩ <;> rcases q3 with ⟨rfl, rfl, q3⟩ | ⟨G'', q3, q4, q5⟩
      · exact ⟨rfl, rfl⟩
      · exact absurd ⟨_, q3, q4⟩ w3
      · exact absurd ⟨_, w3, w4⟩ q3
      · have := w3.uniq q3
        subst this
        obtain ⟨i1, i2⟩ := ih w5 q5
        exact ⟨i1, by omega⟩
