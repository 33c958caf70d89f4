/-! PURE PART: numbers -/
theorem NA : (∀ a b : Nat, nI a + nI b = nI (a + b)) ∧ (∀ a b : Nat, nI a * nI b = nI (a * b)) := ⟨nI_add, pk_mul⟩
theorem NS : ∀ a b : Nat, b ≤ a → nI a - nI b = nI (a - b) := fun _ _ h => pk_sub h
theorem NC : (∀ a b : Nat, a < 2147483648 → b < 2147483648 → (nI a < nI b ↔ a < b)) ∧ (∀ a b : Nat, a < 2147483648 → b < 2147483648 → (nI a ≤ nI b ↔ a ≤ b)) ∧ (∀ a b : Nat, a < 2147483648 → b < 2147483648 → (nI a = nI b ↔ a = b)) ∧ (∀ a : Nat, a < 2147483648 → (nI a).toNatClampNeg = a) ∧ (∀ a n : Nat, a < n → n < 2147483648 → (vp_in (nI a) n ↔ True)) :=
  ⟨fun _ _ => nI_ltI, fun _ _ => nI_leI, fun _ _ => nI_eq, fun _ => nI_clamp, fun _ _ h h2 => ⟨fun _ => trivial, fun _ => vp_in_nI h h2⟩⟩
theorem L0 : (0 : Int32) = nI 0 ∧ (1 : Int32) = nI 1 ∧ (2 : Int32) = nI 2 ∧ (3 : Int32) = nI 3 ∧ (4 : Int32) = nI 4 ∧ (8 : Int32) = nI 8 ∧ (9 : Int32) = nI 9 ∧ (10 : Int32) = nI 10 ∧ (12 : Int32) = nI 12 ∧ (16 : Int32) = nI 16 ∧ (24 : Int32) = nI 24 ∧ (25 : Int32) = nI 25 ∧ (32 : Int32) = nI 32 ∧ (48 : Int32) = nI 48 ∧ (64 : Int32) = nI 64 ∧ (72 : Int32) = nI 72 ∧ (128 : Int32) = nI 128 ∧ (400 : Int32) = nI 400 ∧ (126 : Int32) = nI 126 := ⟨rfl, rfl, rfl, rfl, rfl, rfl, rfl, rfl, rfl, rfl, rfl, rfl, rfl, rfl, rfl, rfl, rfl, rfl, rfl⟩
theorem IA {c : Prop} {A B : Prop} (h1 : c → A) (h2 : ¬ c → B) : (c → A) ∧ (¬ c → B) := ⟨h1, h2⟩
/-- a code that may stand in the text -/
def okC (c : Int32) : Prop := c = 9 ∨ c = 10 ∨ (¬ c < 32 ∧ ¬ 126 < c)
theorem s_Te_put {Q : Int32 → (Int32 × (Nat → Int32)) → Prop} {c : Int32} {n : Nat} {f : Nat → Int32} (hn : n ≤ 400) (h1 : okC c → n < 400 → Q 1 (nI (n + 1), upd f n (vp_nar .char c))) (h0 : ¬ (okC c ∧ n < 400) → Q 0 (nI n, f)) : wp_Te_put Q c (nI n) f := by
  have T : okC c → w_Te_put_24 Q c (nI n) f := fun hc => by
    unfold w_Te_put_24 w_Te_put_29
    refine ⟨fun h => absurd h (by decide), fun _ => ?_⟩
    simp only [L0, forall_eq]
    refine ⟨fun h => ?_, fun h => ?_⟩
    · have h : n < 400 := (nI_ltI (by omega) (by omega)).mp h
      exact ⟨vp_in_nI h (by omega), by rw [nI_clamp (by omega), nI_add]; exact h1 hc h⟩
    · exact h0 (fun z => h ((nI_ltI (by omega) (by omega)).mpr z.2))
  have F : ¬ okC c → w_Te_put_28 Q c (nI n) f := fun hc => by
    unfold w_Te_put_28 w_Te_put_29
    exact ⟨fun _ => h0 (fun z => hc z.1), fun h => absurd rfl h⟩
  unfold wp_Te_put
  refine ⟨fun h => T (Or.inl h), fun a => ⟨fun h => T (Or.inr (Or.inl h)), fun b => ⟨fun h => F (fun z => ?_), fun d => ⟨fun h => F (fun z => ?_), fun h => T (Or.inr (Or.inr ⟨d, h⟩))⟩⟩⟩⟩
  · rcases z with z | z | z
    · exact a z
    · exact b z
    · exact z.1 h
  · rcases z with z | z | z
    · exact a z
    · exact b z
    · exact z.2 h
theorem s_X_type {Q : Int32 → (Int32 × (Nat → Int32)) → Prop} {c : Int32} {n : Nat} {f : Nat → Int32} (hn : n ≤ 400) (h1 : okC c → n < 400 → Q 1 (nI (n + 1), upd f n (vp_nar .char c))) (h0 : ¬ (okC c ∧ n < 400) → Q 0 (nI n, f)) : wp_X_type Q c (nI n) f :=
  s_Te_put hn (fun a b => ⟨rfl, h1 a b⟩) (fun z => ⟨rfl, h0 z⟩)
theorem s_Mo_type {Q : Int32 → (Int32 × (Nat → Int32)) → Prop} {c : Int32} {n : Nat} {f : Nat → Int32} (hn : n ≤ 400) (h1 : okC c → n < 400 → Q 1 (nI (n + 1), upd f n (vp_nar .char c))) (h0 : ¬ (okC c ∧ n < 400) → Q 0 (nI n, f)) : wp_Mo_type Q c (nI n) f := by
  have T : okC c → w_Mo_type_24 Q c (nI n) f := fun hc => by
    unfold w_Mo_type_24
    simp only [L0, forall_eq]
    refine ⟨fun h => ?_, fun h => ?_⟩
    · have h : n = 400 := (nI_eq (by omega) (by omega)).mp h
      exact h0 (fun z => by omega)
    · have h : n < 400 := by
        rcases Nat.lt_or_ge n 400 with q | q
        · exact q
        · exact absurd (congrArg nI (show n = 400 by omega)) h
      exact ⟨vp_in_nI h (by omega), by rw [nI_clamp (by omega), nI_add]; exact h1 hc h⟩
  unfold wp_Mo_type
  refine ⟨fun h => T (Or.inl h), fun a => ⟨fun h => T (Or.inr (Or.inl h)), fun b => ⟨fun h => h0 (fun z => ?_), fun d => ⟨fun h => h0 (fun z => ?_), fun h => T (Or.inr (Or.inr ⟨d, h⟩))⟩⟩⟩⟩
  · rcases z.1 with z | z | z
    · exact a z
    · exact b z
    · exact z.1 h
  · rcases z.1 with z | z | z
    · exact a z
    · exact b z
    · exact z.2 h
def okB (c : Int32) : Prop := c = 65 ∨ c = 67 ∨ c = 71 ∨ c = 84
theorem s_X_isBase {Q : Int32 → Unit → Prop} {c : Int32} (h1 : okB c → Q 1 ()) (h0 : ¬ okB c → Q 0 ()) : wp_X_isBase Q c := by
  unfold wp_X_isBase w_X_isBase_24
  exact ⟨fun h => h1 (Or.inl h), fun a => ⟨fun h => h1 (Or.inr (Or.inl h)), fun b => ⟨fun h => h1 (Or.inr (Or.inr (Or.inl h))), fun d => ⟨fun h => h1 (Or.inr (Or.inr (Or.inr h))), fun e => h0 (fun z => by rcases z with z | z | z | z <;> contradiction)⟩⟩⟩⟩
theorem s_Mo_isBase {Q : Int32 → Unit → Prop} {c : Int32} (h1 : okB c → Q 1 ()) (h0 : ¬ okB c → Q 0 ()) : wp_Mo_isBase Q c := by
  unfold wp_Mo_isBase w_Mo_isBase_24
  exact ⟨fun h => h1 (Or.inl h), fun a => ⟨fun h => h1 (Or.inr (Or.inl h)), fun b => ⟨fun h => h1 (Or.inr (Or.inr (Or.inl h))), fun d => ⟨fun h => h1 (Or.inr (Or.inr (Or.inr h))), fun e => h0 (fun z => by rcases z with z | z | z | z <;> contradiction)⟩⟩⟩⟩
theorem s_X_read {Q : Int32 → (Int32 × (Nat → Int32)) → Prop} {c : Int32} {n : Nat} {f : Nat → Int32} (hn : n ≤ 12) (h1 : okB c → n < 12 → Q 1 (nI (n + 1), upd f n (vp_nar .char c))) (h0 : ¬ (okB c ∧ n < 12) → Q 0 (nI n, f)) : wp_X_read Q c (nI n) f := by
  unfold wp_X_read wp_Re_put
  refine s_X_isBase (fun hc => ⟨fun z => absurd z (by decide), fun _ => ?_⟩) (fun hc => ⟨fun _ => ⟨rfl, h0 (fun z => hc z.1)⟩, fun z => absurd rfl z⟩)
  simp only [L0, forall_eq]
  refine ⟨fun h => ?_, fun h => ⟨rfl, h0 (fun z => h ((nI_ltI (by omega) (by omega)).mpr z.2))⟩⟩
  have h : n < 12 := (nI_ltI (by omega) (by omega)).mp h
  exact ⟨vp_in_nI h (by omega), rfl, by rw [nI_clamp (by omega), nI_add]; exact h1 hc h⟩
theorem s_Mo_read {Q : Int32 → (Int32 × (Nat → Int32)) → Prop} {c : Int32} {n : Nat} {f : Nat → Int32} (hn : n ≤ 12) (h1 : okB c → n < 12 → Q 1 (nI (n + 1), upd f n (vp_nar .char c))) (h0 : ¬ (okB c ∧ n < 12) → Q 0 (nI n, f)) : wp_Mo_read Q c (nI n) f := by
  unfold wp_Mo_read
  refine s_Mo_isBase (fun hc => ⟨fun z => absurd z (by decide), fun _ => ?_⟩) (fun hc => ⟨fun _ => h0 (fun z => hc z.1), fun z => absurd rfl z⟩)
  simp only [L0, forall_eq]
  refine ⟨fun h => ?_, fun h => ?_⟩
  · have h : n = 12 := (nI_eq (by omega) (by omega)).mp h
    exact h0 (fun z => by omega)
  · have h : n < 12 := by
      rcases Nat.lt_or_ge n 12 with q | q
      · exact q
      · exact absurd (congrArg nI (show n = 12 by omega)) h
    exact ⟨vp_in_nI h (by omega), by rw [nI_clamp (by omega), nI_add]; exact h1 hc h⟩
