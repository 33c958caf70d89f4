/-! runs of characters of a kind; names packed as numbers -/
def Run (p : Nat → Bool) (t : Nat → Nat) (a e b : Nat) : Prop := a ≤ b ∧ b ≤ e ∧ (∀ j, a ≤ j → j < b → p (t j) = true) ∧ (b < e → p (t b) = false)
theorem run_ex (p : Nat → Bool) (t : Nat → Nat) (e : Nat) : ∀ (k a : Nat), a + k = e → ∃ b, Run p t a e b := by
  intro k
  induction k with
  | zero => intro a ha; exact ⟨a, Nat.le_refl _, by omega, fun j h1 h2 => by omega, fun h => by omega⟩
  | succ k ih =>
    intro a ha
    cases hp : p (t a) with
    | false => exact ⟨a, Nat.le_refl _, by omega, fun j h1 h2 => by omega, fun _ => hp⟩
    | true =>
      obtain ⟨b, h1, h2, h3, h4⟩ := ih (a + 1) (by omega)
      refine ⟨b, by omega, h2, fun j hj hk => ?_, h4⟩
      rcases Nat.lt_or_ge a j with q | q
      · exact h3 j (by omega) hk
      · rw [show j = a by omega]; exact hp
theorem Run.uniq {p : Nat → Bool} {t : Nat → Nat} {a e b b' : Nat} (h : Run p t a e b) (h' : Run p t a e b') : b = b' := by
  rcases Nat.lt_trichotomy b b' with q | q | q
  · have := h.2.2.2 (by have := h'.2.1; omega)
    rw [h'.2.2.1 b h.1 q] at this
    cases this
  · exact q
  · have := h'.2.2.2 (by have := h.2.1; omega)
    rw [h.2.2.1 b' h'.1 q] at this
    cases this
/-- a row of k codes as a number -/
def pck (c : Nat → Nat) : Nat → Nat
  | 0 => 0
  | k + 1 => pck c k * 128 + c k
theorem pck_congr {c c' : Nat → Nat} : ∀ {k : Nat}, (∀ i, i < k → c i = c' i) → pck c k = pck c' k := by
  intro k
  induction k with
  | zero => intro _; rfl
  | succ k ih =>
    intro h
    show pck c k * 128 + c k = pck c' k * 128 + c' k
    rw [ih (fun i hi => h i (by omega)), h k (by omega)]
theorem pck_lt {c : Nat → Nat} : ∀ {k : Nat}, (∀ i, i < k → c i < 128) → pck c k < 128 ^ k := by
  intro k
  induction k with
  | zero => intro _; show 0 < 1; decide
  | succ k ih =>
    intro h
    have h1 := ih (fun i hi => h i (by omega))
    have h2 := h k (by omega)
    show pck c k * 128 + c k < 128 ^ (k + 1)
    rw [Nat.pow_succ]
    omega
theorem pck_ge {c : Nat → Nat} : ∀ {k : Nat}, (∀ i, i < k → 1 ≤ c i) → 1 ≤ k → 128 ^ (k - 1) ≤ pck c k := by
  intro k
  induction k with
  | zero => intro _ h; omega
  | succ k ih =>
    intro h _
    have h2 := h k (by omega)
    show 128 ^ k ≤ pck c k * 128 + c k
    rcases Nat.lt_or_ge 0 k with q | q
    · have h1 := ih (fun i hi => h i (by omega)) q
      have : 128 ^ k = 128 ^ (k - 1) * 128 := by rw [← Nat.pow_succ]; congr 1; omega
      omega
    · obtain rfl : k = 0 := by omega
      show 1 ≤ pck c 0 * 128 + c 0
      omega
theorem pck_inj {c c' : Nat → Nat} : ∀ {k : Nat}, (∀ i, i < k → c i < 128) → (∀ i, i < k → c' i < 128) → pck c k = pck c' k → ∀ i, i < k → c i = c' i := by
  intro k
  induction k with
  | zero => intro _ _ _ i hi; omega
  | succ k ih =>
    intro h h' e i hi
    have e : pck c k * 128 + c k = pck c' k * 128 + c' k := e
    have h1 := h k (by omega)
    have h2 := h' k (by omega)
    have e1 : pck c k = pck c' k := by omega
    have e2 : c k = c' k := by omega
    rcases Nat.lt_or_ge i k with q | q
    · exact ih (fun i hi => h i (by omega)) (fun i hi => h' i (by omega)) e1 i q
    · rw [show i = k by omega]; exact e2
/-- two names (one to three codes each) are one number when they are one name -/
theorem pck_name {c c' : Nat → Nat} {k k' : Nat} (h : ∀ i, i < k → 1 ≤ c i ∧ c i < 128) (h' : ∀ i, i < k' → 1 ≤ c' i ∧ c' i < 128) (hk : 1 ≤ k ∧ k ≤ 3) (hk' : 1 ≤ k' ∧ k' ≤ 3) : pck c k = pck c' k' ↔ k = k' ∧ ∀ i, i < k → c i = c' i := by
  constructor
  · intro e
    have a1 := pck_lt (fun i hi => (h i hi).2)
    have a2 := pck_ge (fun i hi => (h i hi).1) hk.1
    have b1 := pck_lt (fun i hi => (h' i hi).2)
    have b2 := pck_ge (fun i hi => (h' i hi).1) hk'.1
    have ek : k = k' := by
      have hA : k = 1 ∨ k = 2 ∨ k = 3 := by omega
      have hB : k' = 1 ∨ k' = 2 ∨ k' = 3 := by omega
      rcases hA with rfl | rfl | rfl <;> rcases hB with rfl | rfl | rfl <;> first | rfl | (simp at a1 a2 b1 b2; omega)
    subst ek
    exact ⟨rfl, pck_inj (fun i hi => (h i hi).2) (fun i hi => (h' i hi).2) e⟩
  · rintro ⟨rfl, e⟩
    exact pck_congr e
theorem isN_range {c : Nat} (h : isN c = true) : 48 ≤ c ∧ c ≤ 122 := by
  have : (97 ≤ c ∧ c ≤ 122) ∨ (48 ≤ c ∧ c ≤ 57) := by simpa [isN] using h
  omega
theorem s_Mo_eatName {Q : Int32 → (Int32 × Int32 × Int32) → Prop} {f : Nat → Int32} {t : Nat → Nat} {n a e b : Nat} {mn : Int32} {bg : Int32} (hT : Tx f t n) (he : e ≤ n) (hR : Run isN t a e b) (h1 : 1 ≤ b - a ∧ b - a ≤ 3 → Q 1 (nI b, nI a, nI (b - a))) (h0 : ¬ (1 ≤ b - a ∧ b - a ≤ 3) → Q 0 (nI b, nI a, nI (b - a))) : wp_Mo_eatName Q (nI a) (nI e) bg mn f := by
  have hn := hT.1
  obtain ⟨r1, r2, r3, r4⟩ := hR
  have fin : w_Mo_eatName_47 Q (nI e) f (nI b) (nI a) mn := by
    unfold w_Mo_eatName_47
    rw [pk_sub r1]
    simp only [forall_eq]
    simp (disch := omega) only [L0, NC]
    exact ⟨fun h => h0 (by omega), fun h => ⟨fun g => h0 (by omega), fun g => h1 (by omega)⟩⟩
  have L : ∀ (k c : Nat), c + k = b → a ≤ c → ∃ m, w_Mo_eatName_8 Q (nI e) f m (nI c) (nI a) mn := by
    intro k
    induction k with
    | zero =>
      intro c hc hac
      have : c = b := by omega
      subst this
      refine ⟨1, ?_⟩
      show w_Mo_eatName_8B _ _ _ _ _ _ _
      unfold w_Mo_eatName_8B
      simp only [forall_eq]
      refine ⟨fun _ => fin, fun h => ?_⟩
      have h : c < e := Nat.not_le.mp (fun z => h ((nI_leI (by omega) (by omega)).mpr z))
      rw [nI_clamp (by omega)]
      refine ⟨vp_in_nI (by omega) (by omega), ?_⟩
      have hb := hT.2 c (by omega)
      rw [hb.1]
      exact s_Mo_inName (by omega) (fun z => by rw [r4 h] at z; cases z) (fun _ => ⟨fun _ => fin, fun z => absurd rfl z⟩)
    | succ k ih =>
      intro c hc hac
      obtain ⟨m, hm⟩ := ih (c + 1) (by omega) (by omega)
      refine ⟨m + 1, ?_⟩
      show w_Mo_eatName_8B _ _ _ _ _ _ _
      unfold w_Mo_eatName_8B
      simp only [forall_eq]
      refine ⟨fun h => ?_, fun h => ?_⟩
      · have : e ≤ c := (nI_leI (by omega) (by omega)).mp h
        omega
      · rw [nI_clamp (by omega)]
        refine ⟨vp_in_nI (by omega) (by omega), ?_⟩
        have hb := hT.2 c (by omega)
        rw [hb.1]
        refine s_Mo_inName (by omega) (fun _ => ⟨fun z => absurd z (by decide), fun _ => ?_⟩) (fun z => by rw [r3 c (by omega) (by omega)] at z; cases z)
        rw [nI_1]
        exact hm
  exact L (b - a) a (by omega) (by omega)
/-- takeName: at most three characters of the run -/
theorem s_takeName {Q : Int32 → Int32 → Prop} {f : Nat → Int32} {t : Nat → Nat} {n a e b : Nat} (hT : Tx f t n) (hE : LE t n a e) (hR : Run isN t a e b) (h : ∀ k, k ≤ 3 → k ≤ b - a → (k = 3 ∨ k = b - a) → Q (nI (pck (fun i => t (a + i)) k)) (nI (a + k))) : wp_Te_takeName Q (nI n) (nI a) f := by
  have hn := hT.1
  obtain ⟨e1, e2, e3, e4⟩ := hE
  obtain ⟨r1, r2, r3, r4⟩ := hR
  have hc : ∀ i, a + i < b → t (a + i) < 128 := fun i hi => by have := isN_range (r3 (a + i) (by omega) hi); omega
  have L : ∀ (j k : Nat), k + j = 3 → k ≤ b - a → ∃ m, w_Te_takeName_4 Q (nI n) f m (nI (pck (fun i => t (a + i)) k)) (nI k) (nI (a + k)) := by
    intro j
    induction j with
    | zero =>
      intro k hk hkb
      refine ⟨1, ?_⟩
      show w_Te_takeName_4B _ _ _ _ _ _ _
      unfold w_Te_takeName_4B
      refine ⟨fun _ => h k (by omega) hkb (by omega), fun z => absurd (nI_le (a := 3) (b := k) (by omega) (by omega)) z⟩
    | succ j ih =>
      intro k hk hkb
      have hp : pck (fun i => t (a + i)) k < 128 ^ k := pck_lt (fun i hi => hc i (by omega))
      have hp2 : 128 ^ k ≤ 16384 := by
        have : k = 0 ∨ k = 1 ∨ k = 2 := by omega
        rcases this with rfl | rfl | rfl <;> decide
      rcases Nat.lt_or_ge k (b - a) with q | q
      · obtain ⟨m, hm⟩ := ih (k + 1) (by omega) (by omega)
        refine ⟨m + 1, ?_⟩
        show w_Te_takeName_4B _ _ _ _ _ _ _
        unfold w_Te_takeName_4B
        refine ⟨fun z => ?_, fun _ => ?_⟩
        · have : 3 ≤ k := (nI_leI (a := 3) (by omega) (by omega)).mp z
          omega
        · refine s_Te_next hT (by omega) (fun z => ?_) (fun z => by omega)
          have ht := hT.2 (a + k) z
          refine s_X_isOfName (by omega) (fun _ => ⟨fun z => absurd z (by decide), fun _ => ?_⟩) (fun y => by rw [r3 (a + k) (by omega) (by omega)] at y; cases y)
          simp only [forall_eq]
          refine s_Te_next hT (by omega) (fun z => ?_) (fun z => by omega)
          simp only [L0, NA]
          exact hm
      · refine ⟨1, ?_⟩
        show w_Te_takeName_4B _ _ _ _ _ _ _
        unfold w_Te_takeName_4B
        refine ⟨fun _ => h k (by omega) hkb (by omega), fun _ => ?_⟩
        have ek : a + k = b := by omega
        refine s_Te_next hT (by omega) (fun z => ?_) (fun z => ?_)
        · have ht := hT.2 (a + k) z
          refine s_X_isOfName (by omega) (fun y => ?_) (fun _ => ⟨fun _ => h k (by omega) hkb (by omega), fun y => absurd rfl y⟩)
          rw [ek] at y z
          rcases Nat.lt_or_ge b e with g | g
          · rw [r4 g] at y; cases y
          · have : t b = 10 := by rw [show b = e by omega]; exact e4 (by omega)
            rw [this] at y
            exact absurd y (by decide)
        · exact s_X_isOfName (k := 0) (by omega) (fun y => absurd y (by decide)) (fun _ => ⟨fun _ => h k (by omega) hkb (by omega), fun y => absurd rfl y⟩)
  exact L 3 0 (by omega) (by omega)
theorem okB_nI {k : Nat} (hk : k < 65536) : okB (nI k) ↔ isBs k = true := by
  have e : ∀ j : Nat, j < 200 → (nI k = nI j ↔ k = j) := fun j hj => nI_eq (by omega) (by omega)
  have h1 := e 65 (by omega)
  have h2 := e 67 (by omega)
  have h3 := e 71 (by omega)
  have h4 := e 84 (by omega)
  unfold okB isBs
  rw [show (65 : Int32) = nI 65 from rfl, show (67 : Int32) = nI 67 from rfl, show (71 : Int32) = nI 71 from rfl, show (84 : Int32) = nI 84 from rfl, h1, h2, h3, h4]
  simp [or_assoc]
theorem s_takeBases {Q : Int32 → Int32 → Prop} {f : Nat → Int32} {t : Nat → Nat} {n a e b : Nat} (hT : Tx f t n) (hE : LE t n a e) (hR : Run isBs t a e b) (h : Q (nI (b - a)) (nI b)) : wp_Te_takeBases Q (nI n) (nI a) f := by
  have hn := hT.1
  obtain ⟨e1, e2, e3, e4⟩ := hE
  obtain ⟨r1, r2, r3, r4⟩ := hR
  have fin : w_Te_takeBases_44 Q (nI n) f (nI a) (nI b) := by
    unfold w_Te_takeBases_44
    rw [pk_sub r1]
    simp only [forall_eq]
    exact h
  have L : ∀ (k c : Nat), c + k = b → a ≤ c → ∃ m, w_Te_takeBases_5 Q (nI n) f m (nI a) (nI c) := by
    intro k
    induction k with
    | zero =>
      intro c hc hac
      have : c = b := by omega
      subst this
      refine ⟨1, ?_⟩
      show w_Te_takeBases_5B _ _ _ _ _ _
      unfold w_Te_takeBases_5B
      simp only [forall_eq]
      refine ⟨fun _ => fin, fun h => ?_⟩
      have h : c < n := Nat.not_le.mp (fun z => h ((nI_leI (by omega) (by omega)).mpr z))
      rw [nI_clamp (by omega)]
      refine ⟨vp_in_nI (by omega) (by omega), ?_⟩
      have hb := hT.2 c (by omega)
      rw [hb.1]
      refine s_X_isBase (fun z => ?_) (fun _ => ⟨fun _ => fin, fun z => absurd rfl z⟩)
      have z := (okB_nI (by omega)).mp z
      rcases Nat.lt_or_ge c e with g | g
      · rw [r4 g] at z; cases z
      · have : t c = 10 := by rw [show c = e by omega]; exact e4 (by omega)
        rw [this] at z
        exact absurd z (by decide)
    | succ k ih =>
      intro c hc hac
      obtain ⟨m, hm⟩ := ih (c + 1) (by omega) (by omega)
      refine ⟨m + 1, ?_⟩
      show w_Te_takeBases_5B _ _ _ _ _ _
      unfold w_Te_takeBases_5B
      simp only [forall_eq]
      refine ⟨fun h => ?_, fun h => ?_⟩
      · have : n ≤ c := (nI_leI (by omega) (by omega)).mp h
        omega
      · rw [nI_clamp (by omega)]
        refine ⟨vp_in_nI (by omega) (by omega), ?_⟩
        have hb := hT.2 c (by omega)
        rw [hb.1]
        refine s_X_isBase (fun _ => ⟨fun z => absurd z (by decide), fun _ => ?_⟩) (fun z => absurd ((okB_nI (by omega)).mpr (r3 c (by omega) (by omega))) z)
        rw [nI_1]
        exact hm
  exact L (b - a) a (by omega) (by omega)
