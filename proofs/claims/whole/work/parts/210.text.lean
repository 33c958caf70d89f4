/-! THE TEXT: codes t below n, lines, names, runs -/
def Tx (f : Nat → Int32) (t : Nat → Nat) (n : Nat) : Prop := n ≤ 400 ∧ ∀ j, j < n → f j = nI (t j) ∧ 9 ≤ t j ∧ t j ≤ 126
/-- e ends the line that a lies in -/
def LE (t : Nat → Nat) (n a e : Nat) : Prop := a ≤ e ∧ e ≤ n ∧ (∀ j, a ≤ j → j < e → t j ≠ 10) ∧ (e < n → t e = 10)
theorem LE.mv {t : Nat → Nat} {n a e b : Nat} (h : LE t n a e) (h1 : a ≤ b) (h2 : b ≤ e) : LE t n b e := ⟨h2, h.2.1, fun j hj hk => h.2.2.1 j (by omega) hk, h.2.2.2⟩
theorem Tx.eq {f : Nat → Int32} {t : Nat → Nat} {n a k : Nat} (h : Tx f t n) (ha : a < n) (hk : k < 2147483648) : f a = nI k ↔ t a = k := by
  have h1 := h.2 a ha
  rw [h1.1]
  exact nI_eq (by omega) hk
theorem Tx.nar {f : Nat → Int32} {t : Nat → Nat} {n a : Nat} (h : Tx f t n) (ha : a < n) : narrow .char (.int (f a)) = .int (f a) := by
  have h1 := h.2 a ha
  rw [h1.1]
  exact (pk_charN (by omega)).1
theorem s_Te_next {Q : Int32 → Unit → Prop} {f : Nat → Int32} {t : Nat → Nat} {n a : Nat} (hT : Tx f t n) (ha : a ≤ n) (h1 : a < n → Q (nI (t a)) ()) (h0 : a = n → Q 0 ()) : wp_Te_next Q (nI n) (nI a) f := by
  have hn := hT.1
  unfold wp_Te_next
  simp only [forall_eq]
  refine ⟨fun h => ?_, fun h => ?_⟩
  · have h : n ≤ a := (nI_leI (by omega) (by omega)).mp h
    exact h0 (by omega)
  · have h : a < n := Nat.not_le.mp (fun z => h ((nI_leI (by omega) (by omega)).mpr z))
    rw [nI_clamp (by omega)]
    exact ⟨vp_in_nI (by omega) (by omega), hT.nar h, by rw [(hT.2 a h).1]; exact h1 h⟩
theorem s_Te_takes {Q : Int32 → Int32 → Prop} {f : Nat → Int32} {t : Nat → Nat} {n a k : Nat} (hT : Tx f t n) (ha : a ≤ n) (hk : 1 ≤ k) (hk2 : k < 200) (h1 : a < n → t a = k → Q 1 (nI (a + 1))) (h0 : ¬ (a < n ∧ t a = k) → Q 0 (nI a)) : wp_Te_takes Q (nI k) (nI n) (nI a) f := by
  have hn := hT.1
  unfold wp_Te_takes
  refine s_Te_next hT ha (fun h => ?_) (fun h => ?_)
  · have hb := hT.2 a h
    simp only [forall_eq, L0, nI_add]
    refine ⟨fun z => h1 h ((nI_eq (by omega) (by omega)).mp z), fun z => h0 (fun y => z (congrArg nI y.2))⟩
  · refine ⟨fun z => ?_, fun z => h0 (fun y => by omega)⟩
    have := (nI_eq (a := 0) (b := k) (by omega) (by omega)).mp z
    omega
/-- a token of the line, not its end -/
theorem s_takes {Q : Int32 → Int32 → Prop} {f : Nat → Int32} {t : Nat → Nat} {n a e k : Nat} (hT : Tx f t n) (hE : LE t n a e) (hk : 1 ≤ k) (hk2 : k < 200) (hk3 : k ≠ 10) (h1 : a < e → t a = k → Q 1 (nI (a + 1))) (h0 : ¬ (a < e ∧ t a = k) → Q 0 (nI a)) : wp_Te_takes Q (nI k) (nI n) (nI a) f := by
  obtain ⟨e1, e2, e3, e4⟩ := hE
  refine s_Te_takes hT (by omega) hk hk2 (fun h q => ?_) (fun h => h0 (fun z => h ⟨by omega, z.2⟩))
  rcases Nat.lt_or_ge a e with z | z
  · exact h1 z q
  · have : e = a := by omega
    subst this
    have := e4 h
    omega
theorem s_takesNL {Q : Int32 → Int32 → Prop} {f : Nat → Int32} {t : Nat → Nat} {n a e : Nat} (hT : Tx f t n) (hE : LE t n a e) (h1 : a = e → e < n → Q 1 (nI (e + 1))) (h0 : ¬ (a = e ∧ e < n) → Q 0 (nI a)) : wp_Te_takes Q (nI 10) (nI n) (nI a) f := by
  obtain ⟨e1, e2, e3, e4⟩ := hE
  refine s_Te_takes hT (by omega) (by omega) (by omega) (fun h q => ?_) (fun h => h0 (fun z => h ⟨by omega, by rw [z.1]; exact e4 z.2⟩))
  have : a = e := by
    rcases Nat.lt_or_ge a e with z | z
    · exact absurd q (e3 a (Nat.le_refl _) z)
    · omega
  rw [this]
  exact h1 this (by omega)
theorem s_Mo_eat {Q : Int32 → Int32 → Prop} {f : Nat → Int32} {t : Nat → Nat} {n a e k : Nat} (hT : Tx f t n) (he : e ≤ n) (ha : a ≤ e) (hk2 : k < 200) (h1 : a < e → t a = k → Q 1 (nI (a + 1))) (h0 : ¬ (a < e ∧ t a = k) → Q 0 (nI a)) : wp_Mo_eat Q (nI k) (nI a) (nI e) f := by
  have hn := hT.1
  unfold wp_Mo_eat
  simp only [forall_eq, L0, nI_add]
  refine ⟨fun h => ?_, fun h => ?_⟩
  · have h : e ≤ a := (nI_leI (by omega) (by omega)).mp h
    exact h0 (fun z => by omega)
  · have h : a < e := Nat.not_le.mp (fun z => h ((nI_leI (by omega) (by omega)).mpr z))
    rw [nI_clamp (by omega)]
    refine ⟨vp_in_nI (by omega) (by omega), ?_⟩
    refine ⟨fun z => h1 h ((hT.eq (by omega) (by omega)).mp z), fun z => h0 (fun y => z ((hT.eq (by omega) (by omega)).mpr y.2))⟩
/-- the rest of a line -/
theorem s_rest {Q : Int32 → Int32 → Prop} {f : Nat → Int32} {t : Nat → Nat} {n e : Nat} (hT : Tx f t n) (h1 : e < n → Q 1 (nI (e + 1))) (h0 : ¬ e < n → Q 0 (nI e)) : ∀ (k a : Nat), a + k = e → LE t n a e → ∃ m, w_Te_takesRestOfLine_0 Q (nI n) f m (nI a) := by
  have hn := hT.1
  have fin : LE t n e e → w_Te_takesRestOfLine_38 Q (nI n) f (nI e) := fun hE => by
    unfold w_Te_takesRestOfLine_38
    exact s_takesNL hT hE (fun _ h => ⟨rfl, h1 h⟩) (fun h => ⟨rfl, h0 (fun z => h ⟨rfl, z⟩)⟩)
  intro k
  induction k with
  | zero =>
    intro a ha hE
    have : a = e := by omega
    subst this
    have h2 := hE.2.1
    refine ⟨1, ?_⟩
    show w_Te_takesRestOfLine_0B _ _ _ _ _
    unfold w_Te_takesRestOfLine_0B
    simp only [forall_eq, L0, nI_add]
    refine ⟨fun _ => fin hE, fun h => ?_⟩
    have h : a < n := Nat.not_le.mp (fun z => h ((nI_leI (by omega) (by omega)).mpr z))
    rw [nI_clamp (by omega)]
    refine ⟨vp_in_nI (by omega) (by omega), fun _ => fin hE, fun z => ?_⟩
    exact absurd ((hT.eq h (by omega)).mpr (hE.2.2.2 h)) z
  | succ k ih =>
    intro a ha hE
    obtain ⟨m, hm⟩ := ih (a + 1) (by omega) (hE.mv (by omega) (by omega))
    refine ⟨m + 1, ?_⟩
    show w_Te_takesRestOfLine_0B _ _ _ _ _
    unfold w_Te_takesRestOfLine_0B
    simp only [forall_eq, L0, nI_add]
    have h2 := hE.2.1
    refine ⟨fun h => ?_, fun h => ?_⟩
    · have : n ≤ a := (nI_leI (by omega) (by omega)).mp h
      omega
    · rw [nI_clamp (by omega)]
      refine ⟨vp_in_nI (by omega) (by omega), fun z => ?_, fun z => hm⟩
      exact absurd ((hT.eq (by omega) (by omega)).mp z) (hE.2.2.1 a (by omega) (by omega))
def isN (c : Nat) : Bool := (decide (97 ≤ c) && decide (c ≤ 122)) || (decide (48 ≤ c) && decide (c ≤ 57))
def isBs (c : Nat) : Bool := decide (c = 65) || decide (c = 67) || decide (c = 71) || decide (c = 84)
theorem s_X_isOfName {Q : Int32 → Unit → Prop} {k : Nat} (hk : k < 65536) (h1 : isN k = true → Q 1 ()) (h0 : isN k = false → Q 0 ()) : wp_X_isOfName Q (nI k) := by
  have e97 : (97 : Int32) = nI 97 := rfl
  have e122 : (122 : Int32) = nI 122 := rfl
  have e57 : (57 : Int32) = nI 57 := rfl
  unfold wp_X_isOfName w_X_isOfName_12 w_X_isOfName_24
  simp (disch := omega) only [L0, e97, e122, e57, NC]
  have i1 : isN k = true ↔ (97 ≤ k ∧ k ≤ 122) ∨ (48 ≤ k ∧ k ≤ 57) := by simp [isN]
  have h1' : ((97 ≤ k ∧ k ≤ 122) ∨ (48 ≤ k ∧ k ≤ 57)) → Q 1 () := fun z => h1 (i1.mpr z)
  have h0' : ¬ ((97 ≤ k ∧ k ≤ 122) ∨ (48 ≤ k ∧ k ≤ 57)) → Q 0 () := fun z => h0 (by cases hb : isN k with | false => rfl | true => exact absurd (i1.mp hb) z)
  refine ⟨fun a => ⟨fun b => h0' (by omega), fun b => ⟨fun d => h0' (by omega), fun d => h1' (by omega)⟩⟩, fun a => ⟨fun b => h1' (by omega), fun b => ⟨fun d => h0' (by omega), fun d => ⟨fun g => h0' (by omega), fun g => h1' (by omega)⟩⟩⟩⟩
theorem s_Mo_inName {Q : Int32 → Unit → Prop} {k : Nat} (hk : k < 65536) (h1 : isN k = true → Q 1 ()) (h0 : isN k = false → Q 0 ()) : wp_Mo_inName Q (nI k) := by
  have e97 : (97 : Int32) = nI 97 := rfl
  have e122 : (122 : Int32) = nI 122 := rfl
  have e57 : (57 : Int32) = nI 57 := rfl
  unfold wp_Mo_inName w_Mo_inName_12 w_Mo_inName_24
  simp (disch := omega) only [L0, e97, e122, e57, NC]
  have i1 : isN k = true ↔ (97 ≤ k ∧ k ≤ 122) ∨ (48 ≤ k ∧ k ≤ 57) := by simp [isN]
  have h1' : ((97 ≤ k ∧ k ≤ 122) ∨ (48 ≤ k ∧ k ≤ 57)) → Q 1 () := fun z => h1 (i1.mpr z)
  have h0' : ¬ ((97 ≤ k ∧ k ≤ 122) ∨ (48 ≤ k ∧ k ≤ 57)) → Q 0 () := fun z => h0 (by cases hb : isN k with | false => rfl | true => exact absurd (i1.mp hb) z)
  refine ⟨fun a => ⟨fun b => h0' (by omega), fun b => ⟨fun d => h0' (by omega), fun d => h1' (by omega)⟩⟩, fun a => ⟨fun b => h1' (by omega), fun b => ⟨fun d => h0' (by omega), fun d => ⟨fun g => h0' (by omega), fun g => h1' (by omega)⟩⟩⟩⟩
