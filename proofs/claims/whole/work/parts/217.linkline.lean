/-! a line 'L' -/
def LnkP (t : Nat → Nat) (e S : Nat) (nm : Nat → Nat) (a x y : Nat) : Prop := ∃ a3 a5, a < e ∧ t a = 76 ∧ a + 1 < e ∧ t (a + 1) = 9 ∧ SideP t e S nm 1 (a + 2) x a3 ∧ a3 < e ∧ t a3 = 9 ∧ SideP t e S nm 1 (a3 + 1) y a5 ∧ a5 < e ∧ t a5 = 9 ∧ a5 + 1 < e ∧ t (a5 + 1) = 48 ∧ a5 + 2 < e ∧ t (a5 + 2) = 77 ∧ a5 + 3 = e
theorem s_takeLink {Q : Int32 → (Int32 × Int32 × (Nat → Int32)) → Prop} {f : Nat → Int32} {t : Nat → Nat} {n a e S Lk : Nat} {nm fr to : Nat → Nat} {aN aF : Nat → Int32} (hT : Tx f t n) (hE : LE t n a e) (hae : a < e) (h76 : t a = 76) (hS : S ≤ 8) (hL : Lk ≤ 12) (hN : ∀ j, j < S → aN j = nI (nm j)) (hok : NMok nm S) (hF : FX aF fr to Lk)
    (h1 : ∀ x y, LnkP t e S nm a x y → e < n → Lk < 12 → ¬ LinkP fr to Lk x y → ∀ aF', FX aF' (fu fr Lk x) (fu to Lk y) (Lk + 1) → Q 1 (nI (e + 1), nI (Lk + 1), aF'))
    (h0 : ¬ (∃ x y, LnkP t e S nm a x y ∧ e < n ∧ Lk < 12 ∧ ¬ LinkP fr to Lk x y) → ∀ v, Q 0 v) : wp_X_takeLink Q (nI n) (nI (a + 1)) f (nI S) (nI Lk) aN aF := by
  have hn := hT.1
  have e2 := hE.2.1
  unfold wp_X_takeLink
  refine s_takes (k := 9) hT (hE.mv (by omega) (by omega)) (by omega) (by omega) (by omega) (fun z1 z2 => ⟨fun q => absurd q (by decide), fun _ => ?_⟩) (fun z => ⟨fun _ => h0 (fun ⟨x, y, ⟨a3, a5, y1, y2, y3, y4, _⟩, _⟩ => z ⟨y3, y4⟩) _, fun q => absurd rfl q⟩)
  refine s_takeSide (tb := 1) hT (hE.mv (by omega) (by omega)) hS (Or.inr rfl) hN hok (fun x a3 hx => ⟨fun q => absurd q (nI_pos (by have := hx.le; omega)), fun _ => ?_⟩) (fun hno a' q1 q2 => ⟨fun _ => h0 (fun ⟨x, y, ⟨a3, a5, y1, y2, y3, y4, y5, _⟩, _⟩ => hno x a3 y5) _, fun q => absurd (by decide) q⟩)
  have hx' := hx.le
  refine s_takes (k := 9) hT (hE.mv (by omega) (by omega)) (by omega) (by omega) (by omega) (fun z3 z4 => ⟨fun q => absurd q (by decide), fun _ => ?_⟩) (fun z => ⟨fun _ => h0 (fun ⟨x', y, ⟨b3, b5, y1, y2, y3, y4, y5, y6, y7, _⟩, _⟩ => z (by rw [(hx.uniq y5).2]; exact ⟨y6, y7⟩)) _, fun q => absurd rfl q⟩)
  refine s_takeSide (tb := 1) hT (hE.mv (by omega) (by omega)) hS (Or.inr rfl) hN hok (fun y a5 hy => ⟨fun q => absurd q (nI_pos (by have := hy.le; omega)), fun _ => ?_⟩) (fun hno a' q1 q2 => ⟨fun _ => h0 (fun ⟨x', y, ⟨b3, b5, y1, y2, y3, y4, y5, y6, y7, y8, _⟩, _⟩ => hno y b5 (by rw [(hx.uniq y5).2]; exact y8)) _, fun q => absurd (by decide) q⟩)
  have hy' := hy.le
  have key : ∀ {x' y' b3 b5}, SideP t e S nm 1 (a + 2) x' b3 → SideP t e S nm 1 (b3 + 1) y' b5 → x = x' ∧ y = y' ∧ a5 = b5 := fun q1 q2 => by
    obtain ⟨i1, i2⟩ := hx.uniq q1
    rw [← i2] at q2
    obtain ⟨i3, i4⟩ := hy.uniq q2
    exact ⟨i1, i3, i4⟩
  refine s_takes (k := 9) hT (hE.mv (by omega) (by omega)) (by omega) (by omega) (by omega) (fun z5 z6 => ⟨fun q => absurd q (by decide), fun _ => ?_⟩) (fun z => ⟨fun _ => h0 (fun ⟨x', y', ⟨b3, b5, y1, y2, y3, y4, y5, y6, y7, y8, y9, y10, _⟩, _⟩ => z (by rw [(key y5 y8).2.2]; exact ⟨y9, y10⟩)) _, fun q => absurd rfl q⟩)
  refine s_takes (k := 48) hT (hE.mv (by omega) (by omega)) (by omega) (by omega) (by omega) (fun z7 z8 => ⟨fun q => absurd q (by decide), fun _ => ?_⟩) (fun z => ⟨fun _ => h0 (fun ⟨x', y', ⟨b3, b5, y1, y2, y3, y4, y5, y6, y7, y8, y9, y10, y11, y12, _⟩, _⟩ => z (by rw [(key y5 y8).2.2]; exact ⟨y11, y12⟩)) _, fun q => absurd rfl q⟩)
  refine s_takes (k := 77) hT (hE.mv (by omega) (by omega)) (by omega) (by omega) (by omega) (fun z9 z10 => ⟨fun q => absurd q (by decide), fun _ => ?_⟩) (fun z => ⟨fun _ => h0 (fun ⟨x', y', ⟨b3, b5, y1, y2, y3, y4, y5, y6, y7, y8, y9, y10, y11, y12, y13, y14, _⟩, _⟩ => z (by rw [(key y5 y8).2.2]; exact ⟨y13, y14⟩)) _, fun q => absurd rfl q⟩)
  refine s_takesNL hT (hE.mv (by omega) (by omega)) (fun w1 w2 => ⟨fun q => absurd q (by decide), fun _ => ?_⟩) (fun z => ⟨fun _ => h0 (fun ⟨x', y', ⟨b3, b5, y1, y2, y3, y4, y5, y6, y7, y8, y9, y10, y11, y12, y13, y14, y15⟩, y16, _⟩ => z ⟨by have := (key y5 y8).2.2; omega, y16⟩) _, fun q => absurd rfl q⟩)
  refine s_addLink hF hL (by omega) (by omega) (fun g1 g2 av' hF' => ⟨fun q => absurd q (by decide), fun _ => ?_⟩) (fun z => ⟨fun _ => h0 (fun ⟨x', y', ⟨b3, b5, y1, y2, y3, y4, y5, y6, y7, y8, _⟩, y16, y17, y18⟩ => ?_) _, fun q => absurd rfl q⟩)
  · exact h1 x y ⟨a3, a5, hae, h76, z1, z2, hx, z3, z4, hy, z5, z6, z7, z8, z9, z10, by omega⟩ w2 g1 g2 av' hF'
  · obtain ⟨i1, i2, -⟩ := key y5 y8
    exact z ⟨y17, by rw [i1, i2]; exact y18⟩
theorem s_linkLine {Q : Int32 → (Int32 × Int32 × Int32 × (Nat → Int32) × (Nat → Int32) × (Nat → Int32)) → Prop} {f : Nat → Int32} {t : Nat → Nat} {n a e S Lk : Nat} {bg mn : Int32} {sg names sz lk fa ta : Nat → Int32} {nm fr to : Nat → Nat} (hT : Tx f t n) (he : e ≤ n) (ha : a ≤ e) (hS : S ≤ 8) (hL : Lk ≤ 12) (hsg : sg 1 = nI S) (hMN : MN names sz 8 24 S nm) (hM : ML lk fa ta 1 fr to Lk S)
    (h1 : ∀ x y, LnkP t e S nm a x y → Lk < 12 → ¬ LinkP fr to Lk x y → ∀ (u v w : Int32) (lk' fa' ta' : Nat → Int32), ML lk' fa' ta' 1 (fu fr Lk x) (fu to Lk y) (Lk + 1) S → lk' 0 = lk 0 → KP 12 fa fa' → KP 12 ta ta' → Q 1 (u, v, w, lk', fa', ta'))
    (h0 : ¬ (∃ x y, LnkP t e S nm a x y ∧ Lk < 12 ∧ ¬ LinkP fr to Lk x y) → ∀ (u v w : Int32), Q 0 (u, v, w, lk, fa, ta)) : wp_Mo_linkLine Q (nI a) (nI e) bg mn f sg names sz lk fa ta := by
  have hn := hT.1
  unfold wp_Mo_linkLine
  refine s_Mo_eat (k := 76) hT he ha (by omega) (fun w1 w2 => ⟨fun q => absurd q (by decide), fun _ => ?_⟩) (fun z => ⟨fun _ => h0 (fun ⟨x, y, ⟨a3, a5, y1, y2, _⟩, _⟩ => z ⟨y1, y2⟩) _ _ _, fun q => absurd rfl q⟩)
  refine s_Mo_eat (k := 9) hT he (by omega) (by omega) (fun z1 z2 => ⟨fun q => absurd q (by decide), fun _ => ?_⟩) (fun z => ⟨fun _ => h0 (fun ⟨x, y, ⟨a3, a5, y1, y2, y3, y4, _⟩, _⟩ => z ⟨y3, y4⟩) _ _ _, fun q => absurd rfl q⟩)
  refine s_namedSide (tb := 1) hT he (by omega) (Or.inr rfl) hS hsg hMN (fun x a3 _ _ hx => ⟨fun q => absurd q (nI_pos (by have := hx.le; omega)), fun _ => ?_⟩) (fun hno a' _ _ q1 q2 => ⟨fun _ => h0 (fun ⟨x, y, ⟨a3, a5, y1, y2, y3, y4, y5, _⟩, _⟩ => hno x a3 y5) _ _ _, fun q => absurd (by decide) q⟩)
  have hx' := hx.le
  refine s_Mo_eat (k := 9) hT he (by omega) (by omega) (fun z3 z4 => ⟨fun q => absurd q (by decide), fun _ => ?_⟩) (fun z => ⟨fun _ => h0 (fun ⟨x', y, ⟨b3, b5, y1, y2, y3, y4, y5, y6, y7, _⟩, _⟩ => z (by rw [(hx.uniq y5).2]; exact ⟨y6, y7⟩)) _ _ _, fun q => absurd rfl q⟩)
  refine s_namedSide (tb := 1) hT he (by omega) (Or.inr rfl) hS hsg hMN (fun y a5 _ _ hy => ⟨fun q => absurd q (nI_pos (by have := hy.le; omega)), fun _ => ?_⟩) (fun hno a' _ _ q1 q2 => ⟨fun _ => h0 (fun ⟨x', y, ⟨b3, b5, y1, y2, y3, y4, y5, y6, y7, y8, _⟩, _⟩ => hno y b5 (by rw [(hx.uniq y5).2]; exact y8)) _ _ _, fun q => absurd (by decide) q⟩)
  have hy' := hy.le
  have key : ∀ {x' y' b3 b5}, SideP t e S nm 1 (a + 2) x' b3 → SideP t e S nm 1 (b3 + 1) y' b5 → x = x' ∧ y = y' ∧ a5 = b5 := fun q1 q2 => by
    obtain ⟨i1, i2⟩ := hx.uniq q1
    rw [← i2] at q2
    obtain ⟨i3, i4⟩ := hy.uniq q2
    exact ⟨i1, i3, i4⟩
  refine s_Mo_eat (k := 9) hT he (by omega) (by omega) (fun z5 z6 => ⟨fun q => absurd q (by decide), fun _ => ?_⟩) (fun z => ⟨fun _ => h0 (fun ⟨x', y', ⟨b3, b5, y1, y2, y3, y4, y5, y6, y7, y8, y9, y10, _⟩, _⟩ => z (by rw [(key y5 y8).2.2]; exact ⟨y9, y10⟩)) _ _ _, fun q => absurd rfl q⟩)
  refine s_Mo_eat (k := 48) hT he (by omega) (by omega) (fun z7 z8 => ⟨fun q => absurd q (by decide), fun _ => ?_⟩) (fun z => ⟨fun _ => h0 (fun ⟨x', y', ⟨b3, b5, y1, y2, y3, y4, y5, y6, y7, y8, y9, y10, y11, y12, _⟩, _⟩ => z (by rw [(key y5 y8).2.2]; exact ⟨y11, y12⟩)) _ _ _, fun q => absurd rfl q⟩)
  refine s_Mo_eat (k := 77) hT he (by omega) (by omega) (fun z9 z10 => ⟨fun q => absurd q (by decide), fun _ => ?_⟩) (fun z => ⟨fun _ => h0 (fun ⟨x', y', ⟨b3, b5, y1, y2, y3, y4, y5, y6, y7, y8, y9, y10, y11, y12, y13, y14, _⟩, _⟩ => z (by rw [(key y5 y8).2.2]; exact ⟨y13, y14⟩)) _ _ _, fun q => absurd rfl q⟩)
  refine ⟨fun q => ?_, fun q => h0 (fun ⟨x', y', ⟨b3, b5, y1, y2, y3, y4, y5, y6, y7, y8, y9, y10, y11, y12, y13, y14, y15⟩, _⟩ => q (congrArg nI (by have := (key y5 y8).2.2; omega))) _ _ _⟩
  have hend : a5 + 2 + 1 = e := (nI_eq (by omega) (by omega)).mp q
  refine s_linked (g := 1) (by omega) hL hS hM (by omega) (by omega) (fun hl => ⟨fun q => absurd q (by decide), fun _ => h0 (fun ⟨x', y', ⟨b3, b5, y1, y2, y3, y4, y5, y6, y7, y8, _⟩, y17, y18⟩ => ?_) _ _ _⟩) (fun hl => ⟨fun _ => ⟨vp_in_nI (n := 1) (by omega) (by omega), ?_⟩, fun q => absurd rfl q⟩)
  · obtain ⟨i1, i2, -⟩ := key y5 y8
    rw [← i1, ← i2] at y18
    exact y18 hl
  simp only [forall_eq]
  rw [show (1 : Int32).toNatClampNeg = 1 by decide, hM.1]
  refine ⟨fun q => ?_, fun q => ?_⟩
  · have : Lk = 12 := (nI_eq (b := 12) (by omega) (by omega)).mp q
    exact h0 (fun ⟨x', y', _, y17, y18⟩ => by omega) _ _ _
  have hL12 : Lk < 12 := by
    rcases Nat.lt_or_ge Lk 12 with w | w
    · exact w
    · exact absurd (congrArg nI (show Lk = 12 by omega)) q
  rw [show (12 : Int32) = nI 12 from rfl, nI_add, nI_clamp (by omega), nI_1]
  refine ⟨vp_in_nI (n := 1) (by omega) (by omega), vp_in_nI (by omega) (by omega), vp_in_nI (n := 1) (by omega) (by omega), vp_in_nI (by omega) (by omega), vp_in_nI (n := 1) (by omega) (by omega), vp_in_nI (n := 1) (by omega) (by omega), ?_⟩
  refine h1 x y ⟨a3, a5, w1, w2, z1, z2, hx, z3, z4, hy, z5, z6, z7, z8, z9, z10, by omega⟩ hL12 hl _ _ _ _ _ _ ⟨pk_us, fun k hk => ?_⟩ (pk_un (by omega)) (KP.rf.up (by omega)) (KP.rf.up (by omega))
  by_cases ek : k = Lk
  · subst ek
    rw [fu_s, fu_s, show 12 * 1 + k = 12 + k by omega, pk_us, pk_us]
    exact ⟨rfl, rfl, hx'.2.2, hy'.2.2⟩
  · rw [fu_n ek, fu_n ek, pk_un (by omega), pk_un (by omega)]
    exact hM.2 k (by omega)
