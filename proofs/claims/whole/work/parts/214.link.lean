/-! links -/
def fu (f : Nat → Nat) (k v : Nat) : Nat → Nat := fun j => if j = k then v else f j
theorem fu_s {f : Nat → Nat} {k v : Nat} : fu f k v k = v := if_pos rfl
theorem fu_n {f : Nat → Nat} {k v j : Nat} (h : j ≠ k) : fu f k v j = f j := if_neg h
def LinkP (fr to : Nat → Nat) (Lk x y : Nat) : Prop := ∃ k, k < Lk ∧ ((fr k = x ∧ to k = y) ∨ (to k = tn x ∧ fr k = tn y))
theorem nI_or (a b : Nat) : nI a ||| nI b = nI (a ||| b) := by
  apply Int32.toBitVec_inj.mp
  rw [Int32.toBitVec_or]
  show BitVec.ofNat 32 a ||| BitVec.ofNat 32 b = BitVec.ofNat 32 (a ||| b)
  exact BitVec.ofNat_or.symm
theorem sh_amt : ∀ y, y < 16 → (((nI y &&& 31).toBitVec).smod 32).toNat = y := by decide +kernel
theorem one_sh : ∀ y, y < 16 → (1 : Int32) <<< (nI y &&& 31) = nI (2 ^ y) := by decide +kernel
theorem and1 (m : Nat) (h : m < 4294967296) : nI m &&& 1 = nI (m % 2) := pk_andN (k := 1) h rfl
/-- the masks of the sides that may follow -/
def FX (av : Nat → Int32) (fr to : Nat → Nat) (Lk : Nat) : Prop := ∀ x, x < 16 → ∃ m, m < 65536 ∧ av x = nI m ∧ ∀ y, y < 16 → (m.testBit y = true ↔ LinkP fr to Lk x y)
theorem s_mayFollow {Q : Int32 → Unit → Prop} {av : Nat → Int32} {fr to : Nat → Nat} {Lk x y : Nat} (hF : FX av fr to Lk) (hx : x < 16) (hy : y < 16) (h1 : LinkP fr to Lk x y → Q 1 ()) (h0 : ¬ LinkP fr to Lk x y → Q 0 ()) : wp_Gr_mayFollow Q (nI x) (nI y) av := by
  obtain ⟨m, hm, hav, hb⟩ := hF x hx
  have e : nI m >>> (nI y &&& 31) = nI (m / 2 ^ y) := pk_shrN (by omega) _ y (sh_amt y hy)
  have hlt : m / 2 ^ y < 65536 := Nat.lt_of_le_of_lt (Nat.div_le_self _ _) hm
  have tb : m.testBit y = true ↔ m / 2 ^ y % 2 = 1 := by rw [Nat.testBit_eq_decide_div_mod_eq]; simp
  unfold wp_Gr_mayFollow
  refine ⟨vp_in_nI hx (by omega), ?_⟩
  rw [nI_clamp (by omega), hav, e, and1 _ (by omega)]
  simp only [forall_eq]
  refine ⟨fun q => ?_, fun q => ?_⟩
  · have : m / 2 ^ y % 2 = 0 := (nI_eq (b := 0) (by omega) (by omega)).mp q
    exact h0 (fun z => by have := tb.mp ((hb y hy).mpr z); omega)
  · have : m / 2 ^ y % 2 ≠ 0 := fun z => q (by rw [z]; rfl)
    exact h1 ((hb y hy).mp (tb.mpr (by omega)))
theorem LinkP.mono {fr to : Nat → Nat} {Lk x y : Nat} {a b : Nat} : LinkP (fu fr Lk a) (fu to Lk b) (Lk + 1) x y ↔ (LinkP fr to Lk x y ∨ (x = a ∧ y = b) ∨ (x = tn b ∧ y = tn a)) := by
  constructor
  · rintro ⟨k, hk, h⟩
    by_cases e : k = Lk
    · subst e
      rw [fu_s, fu_s] at h
      rcases h with h | h
      · exact Or.inr (Or.inl ⟨h.1.symm, h.2.symm⟩)
      · refine Or.inr (Or.inr ⟨?_, ?_⟩)
        · rw [h.1, tn_tn]
        · rw [h.2, tn_tn]
    · rw [fu_n e, fu_n e] at h
      exact Or.inl ⟨k, by omega, h⟩
  · rintro (⟨k, hk, h⟩ | h | h)
    · exact ⟨k, by omega, by rw [fu_n (by omega), fu_n (by omega)]; exact h⟩
    · exact ⟨Lk, by omega, by rw [fu_s, fu_s]; exact Or.inl ⟨h.1.symm, h.2.symm⟩⟩
    · exact ⟨Lk, by omega, by rw [fu_s, fu_s, h.1, h.2, tn_tn, tn_tn]; exact Or.inr ⟨rfl, rfl⟩⟩
theorem tb_or (m y z : Nat) : (m ||| 2 ^ y).testBit z = true ↔ (m.testBit z = true ∨ z = y) := by
  rw [Nat.testBit_or, Nat.testBit_two_pow, Bool.or_eq_true, decide_eq_true_eq]
  exact ⟨fun h => h.imp id Eq.symm, fun h => h.imp id Eq.symm⟩
theorem or_lt (m y : Nat) (hm : m < 65536) (hy : y < 16) : m ||| 2 ^ y < 65536 := by
  have h2 : 2 ^ y < 2 ^ 16 := Nat.pow_lt_pow_right (by decide) hy
  exact Nat.or_lt_two_pow (n := 16) hm h2
theorem tn16 {k : Nat} (h : k < 16) : tn k < 16 := tn_lt (S := 8) h
theorem s_addLink {Q : Int32 → (Int32 × (Nat → Int32)) → Prop} {av : Nat → Int32} {fr to : Nat → Nat} {Lk x y : Nat} (hF : FX av fr to Lk) (hL : Lk ≤ 12) (hx : x < 16) (hy : y < 16)
    (h1 : Lk < 12 → ¬ LinkP fr to Lk x y → ∀ av', FX av' (fu fr Lk x) (fu to Lk y) (Lk + 1) → Q 1 (nI (Lk + 1), av')) (h0 : ¬ (Lk < 12 ∧ ¬ LinkP fr to Lk x y) → Q 0 (nI Lk, av)) : wp_Gr_addLink Q (nI x) (nI y) (nI Lk) av := by
  unfold wp_Gr_addLink
  refine ⟨fun q => h0 (fun z => ?_), fun q => ?_⟩
  · have : 12 ≤ Lk := (nI_leI (a := 12) (by omega) (by omega)).mp q
    omega
  · have hl : Lk < 12 := Nat.not_le.mp (fun z => q ((nI_leI (a := 12) (by omega) (by omega)).mpr z))
    refine s_mayFollow hF hx hy (fun z => ⟨fun q => absurd q (by decide), fun _ => h0 (fun w => w.2 z)⟩) (fun z => ⟨fun _ => ?_, fun q => absurd rfl q⟩)
    obtain ⟨m, hm, hav, hb⟩ := hF x hx
    have hty := tn16 hy
    have htx := tn16 hx
    obtain ⟨m2, hm2, hav2, hb2⟩ : ∃ m2, m2 < 65536 ∧ upd av x (nI (m ||| 2 ^ y)) (tn y) = nI m2 ∧ ∀ w, w < 16 → (m2.testBit w = true ↔ (LinkP fr to Lk (tn y) w ∨ (tn y = x ∧ w = y))) := by
      by_cases e : tn y = x
      · refine ⟨m ||| 2 ^ y, or_lt m y hm hy, by rw [e, pk_us], fun w hw => ?_⟩
        rw [tb_or, hb w hw, e]
        exact ⟨fun h => h.imp id (fun h => ⟨rfl, h⟩), fun h => h.imp id (fun h => h.2)⟩
      · obtain ⟨m2, k1, k2, k3⟩ := hF (tn y) hty
        refine ⟨m2, k1, by rw [pk_un e, k2], fun w hw => ?_⟩
        rw [k3 w hw]
        exact ⟨Or.inl, fun h => h.elim id (fun h => absurd h.1 e)⟩
    simp only [forall_eq, nI_clamp (show x < 2147483648 by omega)]
    rw [hav, one_sh y hy, nI_or, nI_1]
    refine ⟨vp_in_nI hx (by omega), vp_in_nI hx (by omega), ?_⟩
    refine s_turned (by omega) ?_
    rw [nI_clamp (show tn y < 2147483648 by omega)]
    refine ⟨vp_in_nI hty (by omega), ?_⟩
    refine s_turned (by omega) ?_
    rw [hav2, one_sh _ htx, nI_or]
    refine ⟨vp_in_nI hty (by omega), h1 hl z _ (fun u hu => ?_)⟩
    by_cases e : u = tn y
    · refine ⟨m2 ||| 2 ^ tn x, or_lt _ _ hm2 htx, by rw [e, pk_us], fun w hw => ?_⟩
      rw [tb_or, hb2 w hw, LinkP.mono, e]
      constructor
      · rintro ((h | h) | h)
        · exact Or.inl h
        · exact Or.inr (Or.inl h)
        · exact Or.inr (Or.inr ⟨rfl, h⟩)
      · rintro (h | h | h)
        · exact Or.inl (Or.inl h)
        · exact Or.inl (Or.inr h)
        · exact Or.inr h.2
    · rw [pk_un e]
      by_cases e2 : u = x
      · refine ⟨m ||| 2 ^ y, or_lt m y hm hy, by rw [e2, pk_us], fun w hw => ?_⟩
        rw [tb_or, hb w hw, LinkP.mono, e2]
        constructor
        · rintro (h | h)
          · exact Or.inl h
          · exact Or.inr (Or.inl ⟨rfl, h⟩)
        · rintro (h | h | h)
          · exact Or.inl h
          · exact Or.inr h.2
          · exact absurd (e2.trans h.1) e
      · rw [pk_un e2]
        obtain ⟨m3, k1, k2, k3⟩ := hF u hu
        refine ⟨m3, k1, k2, fun w hw => ?_⟩
        rw [k3 w hw, LinkP.mono]
        exact ⟨Or.inl, fun h => h.elim id (fun h => h.elim (fun h => absurd h.1 e2) (fun h => absurd h.1 e))⟩
/-- the reference's links in their half of the arrays -/
def ML (lk fa ta : Nat → Int32) (g : Nat) (fr to : Nat → Nat) (Lk S : Nat) : Prop := lk g = nI Lk ∧ ∀ k, k < Lk → fa (12 * g + k) = nI (fr k) ∧ ta (12 * g + k) = nI (to k) ∧ fr k < 2 * S ∧ to k < 2 * S
theorem s_linked {Q : Int32 → Unit → Prop} {lk fa ta : Nat → Int32} {fr to : Nat → Nat} {g Lk S x y : Nat} (hg : g < 2) (hL : Lk ≤ 12) (hS : S ≤ 8) (hM : ML lk fa ta g fr to Lk S) (hx : x < 16) (hy : y < 16) (h1 : LinkP fr to Lk x y → Q 1 ()) (h0 : ¬ LinkP fr to Lk x y → Q 0 ()) : wp_Mo_linked Q (nI g) (nI x) (nI y) lk fa ta := by
  have htx := tn16 hx
  have hty := tn16 hy
  have L : ∀ (j k : Nat) (v : Nat), k + j = Lk → v < 2 → (v = 1 ↔ LinkP fr to k x y) → ∃ m, w_Mo_linked_9 Q (nI g) (nI x) (nI y) lk fa ta m (nI v) (nI (12 * g + k)) := by
    intro j
    induction j with
    | zero =>
      intro k v hk hv hp
      refine ⟨1, ?_⟩
      show w_Mo_linked_9B _ _ _ _ _ _ _ _ _ _
      unfold w_Mo_linked_9B
      rw [nI_clamp (by omega), hM.1]
      simp only [forall_eq, L0, NA]
      refine ⟨vp_in_nI hg (by omega), fun _ => ?_, fun q => absurd (nI_le (by omega) (by omega)) q⟩
      obtain rfl : k = Lk := by omega
      have : v = 0 ∨ v = 1 := by omega
      rcases this with rfl | rfl
      · exact ⟨rfl, h0 (fun z => absurd (hp.mpr z) (by decide))⟩
      · exact ⟨rfl, h1 (hp.mp rfl)⟩
    | succ j ih =>
      intro k v hk hv hp
      obtain ⟨f1, f2, f3, f4⟩ := hM.2 k (by omega)
      have step : ∀ v', v' < 2 → (v' = 1 ↔ LinkP fr to (k + 1) x y) → ∃ m, w_Mo_linked_9 Q (nI g) (nI x) (nI y) lk fa ta m (nI v') (nI (12 * g + k + 1)) := fun v' h1 h2 => ih (k + 1) v' (by omega) h1 h2
      have P : LinkP fr to (k + 1) x y ↔ (LinkP fr to k x y ∨ (fr k = x ∧ to k = y) ∨ (to k = tn x ∧ fr k = tn y)) := by
        constructor
        · rintro ⟨i, hi, h⟩
          by_cases e : i = k
          · subst e; exact Or.inr h
          · exact Or.inl ⟨i, by omega, h⟩
        · rintro (⟨i, hi, h⟩ | h)
          · exact ⟨i, by omega, h⟩
          · exact ⟨k, by omega, h⟩
      by_cases hn : LinkP fr to (k + 1) x y
      · obtain ⟨m, hm⟩ := step 1 (by omega) ⟨fun _ => hn, fun _ => rfl⟩
        refine ⟨m + 1, ?_⟩
        show w_Mo_linked_9B _ _ _ _ _ _ _ _ _ _
        unfold w_Mo_linked_9B w_Mo_linked_52 w_Mo_linked_78 w_Mo_linked_82 w_Mo_linked_83
        rw [nI_clamp (by omega), hM.1]
        simp only [forall_eq]
        rw [tn_x x (by omega), tn_x y (by omega), nI_clamp (by omega), f1, f2]
        simp only [L0, NA]
        refine ⟨vp_in_nI hg (by omega), fun q => absurd ((nI_leI (by omega) (by omega)).mp q) (by omega), fun _ => ⟨fun q => ?_, fun _ => hm⟩⟩
        have hv0 : v = 0 := (nI_eq (b := 0) (by omega) (by omega)).mp q
        have hnk : ¬ LinkP fr to k x y := fun z => by have := hp.mpr z; omega
        have hor := (P.mp hn).resolve_left hnk
        refine ⟨vp_in_nI (by omega) (by omega), fun q1 => ⟨vp_in_nI (by omega) (by omega), fun q2 => hm, fun q2 => ⟨vp_in_nI (by omega) (by omega), fun q3 => ⟨vp_in_nI (by omega) (by omega), fun q4 => hm, fun q4 => ?_⟩, fun q3 => ?_⟩⟩, fun q1 => ⟨vp_in_nI (by omega) (by omega), fun q3 => ⟨vp_in_nI (by omega) (by omega), fun q4 => hm, fun q4 => ?_⟩, fun q3 => ?_⟩⟩
        · rcases hor with h | h
          · exact absurd (congrArg nI h.2) q2
          · exact absurd (congrArg nI h.2) q4
        · rcases hor with h | h
          · exact absurd (congrArg nI h.2) q2
          · exact absurd (congrArg nI h.1) q3
        · rcases hor with h | h
          · exact absurd (congrArg nI h.1) q1
          · exact absurd (congrArg nI h.2) q4
        · rcases hor with h | h
          · exact absurd (congrArg nI h.1) q1
          · exact absurd (congrArg nI h.1) q3
      · obtain ⟨m, hm⟩ := step 0 (by omega) ⟨fun h => by omega, fun h => absurd h hn⟩
        have hv0 : v = 0 := by
          have : v ≠ 1 := fun z => hn (P.mpr (Or.inl (hp.mp z)))
          omega
        have hno : ¬ ((fr k = x ∧ to k = y) ∨ (to k = tn x ∧ fr k = tn y)) := fun z => hn (P.mpr (Or.inr z))
        refine ⟨m + 1, ?_⟩
        show w_Mo_linked_9B _ _ _ _ _ _ _ _ _ _
        unfold w_Mo_linked_9B w_Mo_linked_52 w_Mo_linked_78 w_Mo_linked_82 w_Mo_linked_83
        rw [nI_clamp (by omega), hM.1]
        simp only [forall_eq]
        rw [tn_x x (by omega), tn_x y (by omega), nI_clamp (by omega), f1, f2]
        simp only [L0, NA]
        refine ⟨vp_in_nI hg (by omega), fun q => absurd ((nI_leI (by omega) (by omega)).mp q) (by omega), fun _ => ⟨fun q => ?_, fun q => absurd (congrArg nI hv0) q⟩⟩
        have e1 : ∀ {a b : Nat}, a < 16 → b < 16 → nI a = nI b → a = b := fun ha hb h => (nI_eq (by omega) (by omega)).mp h
        refine ⟨vp_in_nI (by omega) (by omega), fun q1 => ⟨vp_in_nI (by omega) (by omega), fun q2 => absurd (Or.inl ⟨e1 (by omega) hx q1, e1 (by omega) hy q2⟩) hno, fun q2 => ⟨vp_in_nI (by omega) (by omega), fun q3 => ⟨vp_in_nI (by omega) (by omega), fun q4 => absurd (Or.inr ⟨e1 (by omega) htx q3, e1 (by omega) hty q4⟩) hno, fun q4 => hm⟩, fun q3 => hm⟩⟩, fun q1 => ⟨vp_in_nI (by omega) (by omega), fun q3 => ⟨vp_in_nI (by omega) (by omega), fun q4 => absurd (Or.inr ⟨e1 (by omega) htx q3, e1 (by omega) hty q4⟩) hno, fun q4 => hm⟩, fun q3 => hm⟩⟩
  unfold wp_Mo_linked
  simp only [forall_eq, L0, NA]
  exact L Lk 0 0 (by omega) (by omega) ⟨fun h => by omega, fun ⟨k, hk, _⟩ => by omega⟩
