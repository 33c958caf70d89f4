theorem law_TG {args : Array Value} {s : State} (hts : ∀ w ∈ lw_tbl, w.before args s = true) : ∀ w ∈ TG, w.before args s = true := by
  intro w hw
  rcases List.mem_append.mp hw with h | h
  · exact hts w (List.mem_filter.mp h).1
  · simp only [TX, List.mem_cons, List.not_mem_nil, or_false] at h
    rcases h with rfl | rfl
    · exact selp (x := y_AB_isLatin1) rfl (by decide +kernel) (hts _ (List.mem_append_right _ (List.mem_of_getElem? (i := 556) (by decide +kernel)))) (hts _ (List.mem_append_right _ (List.mem_of_getElem? (i := 521) (by decide +kernel)))) (hts _ (List.mem_append_right _ (List.mem_of_getElem? (i := 522) (by decide +kernel))))
    · exact selp (x := y_AB_isLatin1) rfl (by decide +kernel) (hts _ (List.mem_append_right _ (List.mem_of_getElem? (i := 556) (by decide +kernel)))) (hts _ (List.mem_append_right _ (List.mem_of_getElem? (i := 525) (by decide +kernel)))) (hts _ (List.mem_append_right _ (List.mem_of_getElem? (i := 526) (by decide +kernel))))
theorem arrK {args : Array Value} {s : State} {ty : FieldType} (h : (Cond.arrayClass ty).before args s = true) : ∃ cA : ClassId, ArrOfT s cA ty ∧ s.vm.findClass ("[" ++ ty.toString) = some cA := by
  simp only [Cond.before, Cond.holds, Cond.value] at h
  cases h1 : s.vm.findClass ("[" ++ ty.toString) with
  | none => simp [h1] at h
  | some cA =>
    cases h2 : s.vm.classes[cA]? with
    | none => simp [h1, h2] at h
    | some k =>
      refine ⟨cA, fun n z => ⟨fun k h => (by cases h), k, h2, ?_⟩, rfl⟩
      cases hk : k.kind with
      | array comp t =>
        have e : t = ty := by simpa [h1, h2, hk] using h
        exact ⟨comp, by rw [e]⟩
      | _ => simp [h1, h2, hk] at h
theorem law_DigitOnes_ix : ∀ j, j < 100 → (flatC (Jvm.Cond.and given_1 narrow_1))[([12, 13, 14, 15, 16, 17, 18, 19, 20, 21, 22, 23, 24, 25, 26, 27, 28, 29, 30, 31, 32, 33, 34, 35, 36, 37, 38, 39, 40, 41, 42, 43, 44, 45, 46, 47, 48, 49, 50, 51, 52, 53, 54, 55, 56, 57, 58, 59, 60, 61, 62, 63, 64, 65, 66, 67, 68, 69, 70, 71, 72, 73, 74, 75, 76, 77, 78, 79, 80, 81, 82, 83, 84, 85, 86, 87, 88, 89, 90, 91, 92, 93, 94, 95, 96, 97, 98, 99, 100, 101, 102, 103, 104, 105, 106, 107, 108, 109, 110, 111] : List Nat).getD j 0]? = some (Cond.eq (.elem (.static "java/lang/Integer" "DigitOnes" "[B") (.int (Int32.ofNat j))) (.int (tabO.getD j 0))) := by decide +kernel
theorem law_DigitOnes_el : ∀ j, j < 100 → (Cond.eq (.elem (.static "java/lang/Integer" "DigitOnes" "[B") (.int (Int32.ofNat j))) (.int (tabO.getD j 0))) ∈ flatC (Jvm.Cond.and given_1 narrow_1) := fun j hj => List.mem_of_getElem? (law_DigitOnes_ix j hj)
theorem law_DigitOnes {args : Array Value} {s : State} {A : Nat → Prop} (hts : ∀ w ∈ lw_tbl, w.before args s = true) (hg : (Jvm.Cond.and given_1 narrow_1).before args s = true) (hA : ∀ a : Nat, a < s.heap.size → ¬ A a) : gD "DigitOnes" tabO A s s.heap := by
  have hs := flat_of_before _ hg
  obtain ⟨t, h1, h2⟩ := va_Tof (tm := .static "java/lang/Integer" "DigitOnes" "[B") (ty := .byte) (N := 100) (f := fun j => .int (tabO.getD j 0)) (A := A) (by decide) (hs _ (List.mem_of_getElem? (i := 10) (by decide +kernel))) (va_eqt (hs _ (List.mem_of_getElem? (i := 11) (by decide +kernel)))) (fun j hj => va_eqt (hs _ (law_DigitOnes_el j hj))) hA
  exact ⟨t, va_Zref (hts _ (List.mem_append_right _ (List.mem_of_getElem? (i := 653) (by decide +kernel)))) (hts _ (List.mem_append_right _ (List.mem_of_getElem? (i := 18) (by decide +kernel)))) h1 hA, h2⟩
theorem law_DigitTens_ix : ∀ j, j < 100 → (flatC (Jvm.Cond.and given_1 narrow_1))[([115, 116, 117, 118, 119, 120, 121, 122, 123, 124, 125, 126, 127, 128, 129, 130, 131, 132, 133, 134, 135, 136, 137, 138, 139, 140, 141, 142, 143, 144, 145, 146, 147, 148, 149, 150, 151, 152, 153, 154, 155, 156, 157, 158, 159, 160, 161, 162, 163, 164, 165, 166, 167, 168, 169, 170, 171, 172, 173, 174, 175, 176, 177, 178, 179, 180, 181, 182, 183, 184, 185, 186, 187, 188, 189, 190, 191, 192, 193, 194, 195, 196, 197, 198, 199, 200, 201, 202, 203, 204, 205, 206, 207, 208, 209, 210, 211, 212, 213, 214] : List Nat).getD j 0]? = some (Cond.eq (.elem (.static "java/lang/Integer" "DigitTens" "[B") (.int (Int32.ofNat j))) (.int (tabT.getD j 0))) := by decide +kernel
theorem law_DigitTens_el : ∀ j, j < 100 → (Cond.eq (.elem (.static "java/lang/Integer" "DigitTens" "[B") (.int (Int32.ofNat j))) (.int (tabT.getD j 0))) ∈ flatC (Jvm.Cond.and given_1 narrow_1) := fun j hj => List.mem_of_getElem? (law_DigitTens_ix j hj)
theorem law_DigitTens {args : Array Value} {s : State} {A : Nat → Prop} (hts : ∀ w ∈ lw_tbl, w.before args s = true) (hg : (Jvm.Cond.and given_1 narrow_1).before args s = true) (hA : ∀ a : Nat, a < s.heap.size → ¬ A a) : gD "DigitTens" tabT A s s.heap := by
  have hs := flat_of_before _ hg
  obtain ⟨t, h1, h2⟩ := va_Tof (tm := .static "java/lang/Integer" "DigitTens" "[B") (ty := .byte) (N := 100) (f := fun j => .int (tabT.getD j 0)) (A := A) (by decide) (hs _ (List.mem_of_getElem? (i := 113) (by decide +kernel))) (va_eqt (hs _ (List.mem_of_getElem? (i := 114) (by decide +kernel)))) (fun j hj => va_eqt (hs _ (law_DigitTens_el j hj))) hA
  exact ⟨t, va_Zref (hts _ (List.mem_append_right _ (List.mem_of_getElem? (i := 655) (by decide +kernel)))) (hts _ (List.mem_append_right _ (List.mem_of_getElem? (i := 18) (by decide +kernel)))) h1 hA, h2⟩
theorem law_N {args : Array Value} {s : State} {A : Nat → Prop} (hts : ∀ w ∈ lw_tbl, w.before args s = true) (hg : (Jvm.Cond.and given_1 narrow_1).before args s = true) (hA : ∀ a : Nat, a < s.heap.size → ¬ A a) : gN A s s.heap := by
  have hs := flat_of_before _ hg
  refine ⟨fun q hq => ?_, va_Zof (hts _ (List.mem_append_right _ (List.mem_of_getElem? (i := 126) (by decide +kernel)))) (hts _ (List.mem_append_right _ (List.mem_of_getElem? (i := 8) (by decide +kernel)))) (va_eqi (hs _ (List.mem_of_getElem? (i := 4) (by decide +kernel)))) hA, va_Zqof (hts _ (List.mem_append_right _ (List.mem_of_getElem? (i := 605) (by decide +kernel)))) (hts _ (List.mem_append_right _ (List.mem_of_getElem? (i := 17) (by decide +kernel)))) (hs _ (List.mem_of_getElem? (i := 5) (by decide +kernel))) hA, law_DigitOnes hts hg hA, law_DigitTens hts hg hA⟩
  simp only [nestL, List.mem_cons, List.not_mem_nil, or_false] at hq
  rcases hq with rfl | rfl | rfl | rfl | rfl | rfl | rfl | rfl | rfl | rfl
  · exact va_Nw.of rfl (hts _ (List.mem_append_right _ (List.mem_of_getElem? (i := 29) (by decide +kernel))))
  · exact va_Nw.of rfl (hts _ (List.mem_append_right _ (List.mem_of_getElem? (i := 49) (by decide +kernel))))
  · exact va_Nw.of rfl (hts _ (List.mem_append_right _ (List.mem_of_getElem? (i := 64) (by decide +kernel))))
  · exact va_Nw.of rfl (hts _ (List.mem_append_right _ (List.mem_of_getElem? (i := 75) (by decide +kernel))))
  · exact va_Nw.of rfl (hts _ (List.mem_append_right _ (List.mem_of_getElem? (i := 150) (by decide +kernel))))
  · exact va_Nw.of rfl (hts _ (List.mem_append_right _ (List.mem_of_getElem? (i := 287) (by decide +kernel))))
  · exact va_Nw.of rfl (hts _ (List.mem_append_right _ (List.mem_of_getElem? (i := 294) (by decide +kernel))))
  · exact va_Nw.of rfl (hts _ (List.mem_append_right _ (List.mem_of_getElem? (i := 312) (by decide +kernel))))
  · exact va_Nw.of rfl (hts _ (List.mem_append_right _ (List.mem_of_getElem? (i := 315) (by decide +kernel))))
  · exact va_Nw.of rfl (hts _ (List.mem_append_right _ (List.mem_of_getElem? (i := 393) (by decide +kernel))))
