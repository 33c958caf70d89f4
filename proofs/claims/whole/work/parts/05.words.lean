theorem w_0 : (Cond.fieldLink R_Te 15 "WalkAligner$Text" "length" "I") ∈ TG := TG_of 35 (by decide +kernel) (by decide +kernel)
theorem w_1 : (Cond.fieldLink R_Te 9 "WalkAligner$Text" "characters" "[C") ∈ TG := TG_of 33 (by decide +kernel) (by decide +kernel)
theorem w_2 : (Cond.fieldLink R_Te 19 "WalkAligner$Text" "at" "I") ∈ TG := TG_of 37 (by decide +kernel) (by decide +kernel)
theorem w_3 : (Cond.code y_Te_next c_Te_next 1 (some .char)) ∈ TG := TG_of 274 (by decide +kernel) (by decide +kernel)
theorem w_4 : (Cond.methodLink R_Te 22 y_Te_next) ∈ TG := TG_of 271 (by decide +kernel) (by decide +kernel)
theorem w_5 : (Cond.instanceMethod y_Te_next) ∈ TG := TG_of 272 (by decide +kernel) (by decide +kernel)
theorem w_6 : (Cond.selects R_Te y_Te_next y_Te_next) ∈ TG := TG_of 273 (by decide +kernel) (by decide +kernel)
theorem w_7 : (Cond.initialized R_Te) ∈ TG := TG_of 2 (by decide +kernel) (by decide +kernel)
theorem w_8 : (Cond.code y_Te_takes c_Te_takes 2 (some .boolean)) ∈ TG := TG_of 270 (by decide +kernel) (by decide +kernel)
theorem w_9 : (Cond.methodLink R_Te 26 y_Te_takes) ∈ TG := TG_of 279 (by decide +kernel) (by decide +kernel)
theorem w_10 : (Cond.instanceMethod y_Te_takes) ∈ TG := TG_of 268 (by decide +kernel) (by decide +kernel)
theorem w_11 : (Cond.selects R_Te y_Te_takes y_Te_takes) ∈ TG := TG_of 269 (by decide +kernel) (by decide +kernel)
theorem w_12 : (Cond.code y_X_isOfName c_X_isOfName 1 (some .boolean)) ∈ TG := TG_of 289 (by decide +kernel) (by decide +kernel)
theorem w_13 : (Cond.static y_X_isOfName) ∈ TG := TG_of 288 (by decide +kernel) (by decide +kernel)
theorem w_14 : (Cond.initialized R_X) ∈ TG := TG_of 1 (by decide +kernel) (by decide +kernel)
theorem w_15 : (Cond.code y_X_isBase c_X_isBase 1 (some .boolean)) ∈ TG := TG_of 296 (by decide +kernel) (by decide +kernel)
theorem w_16 : (Cond.static y_X_isBase) ∈ TG := TG_of 295 (by decide +kernel) (by decide +kernel)
theorem in_X : ∀ w ∈ u_ws R_X T_X 7, w ∈ TG := by
  intro w hw
  obtain ⟨k, hk, rfl⟩ := List.mem_map.mp hw
  have hk := List.mem_range.mp hk
  have H : ∀ k, k < 7 → ∃ i, tables_1[i]? = some (u_lay R_X T_X k) ∧ goodWord (u_lay R_X T_X k) = true := fun k hk => ⟨([223, 225, 227, 229, 231, 233, 235] : List Nat).getD k 0, by revert k; decide +kernel⟩
  obtain ⟨i, h1, h2⟩ := H k hk
  exact TG_of i h1 h2
theorem in_Te : ∀ w ∈ u_ws R_Te T_Te 3, w ∈ TG := by
  intro w hw
  obtain ⟨k, hk, rfl⟩ := List.mem_map.mp hw
  have hk := List.mem_range.mp hk
  have H : ∀ k, k < 3 → ∃ i, tables_1[i]? = some (u_lay R_Te T_Te k) ∧ goodWord (u_lay R_Te T_Te k) = true := fun k hk => ⟨([39, 41, 43] : List Nat).getD k 0, by revert k; decide +kernel⟩
  obtain ⟨i, h1, h2⟩ := H k hk
  exact TG_of i h1 h2
theorem in_Re : ∀ w ∈ u_ws R_Re T_Re 2, w ∈ TG := by
  intro w hw
  obtain ⟨k, hk, rfl⟩ := List.mem_map.mp hw
  have hk := List.mem_range.mp hk
  have H : ∀ k, k < 2 → ∃ i, tables_1[i]? = some (u_lay R_Re T_Re k) ∧ goodWord (u_lay R_Re T_Re k) = true := fun k hk => ⟨([57, 59] : List Nat).getD k 0, by revert k; decide +kernel⟩
  obtain ⟨i, h1, h2⟩ := H k hk
  exact TG_of i h1 h2
theorem in_Co : ∀ w ∈ u_ws R_Co T_Co 1, w ∈ TG := by
  intro w hw
  obtain ⟨k, hk, rfl⟩ := List.mem_map.mp hw
  have hk := List.mem_range.mp hk
  have H : ∀ k, k < 1 → ∃ i, tables_1[i]? = some (u_lay R_Co T_Co k) ∧ goodWord (u_lay R_Co T_Co k) = true := fun k hk => ⟨([69] : List Nat).getD k 0, by revert k; decide +kernel⟩
  obtain ⟨i, h1, h2⟩ := H k hk
  exact TG_of i h1 h2
theorem in_Rs : ∀ w ∈ u_ws R_Rs T_Rs 10, w ∈ TG := by
  intro w hw
  obtain ⟨k, hk, rfl⟩ := List.mem_map.mp hw
  have hk := List.mem_range.mp hk
  have H : ∀ k, k < 10 → ∃ i, tables_1[i]? = some (u_lay R_Rs T_Rs k) ∧ goodWord (u_lay R_Rs T_Rs k) = true := fun k hk => ⟨([95, 97, 99, 101, 103, 105, 107, 109, 111, 113] : List Nat).getD k 0, by revert k; decide +kernel⟩
  obtain ⟨i, h1, h2⟩ := H k hk
  exact TG_of i h1 h2
theorem in_Gr : ∀ w ∈ u_ws R_Gr T_Gr 15, w ∈ TG := by
  intro w hw
  obtain ⟨k, hk, rfl⟩ := List.mem_map.mp hw
  have hk := List.mem_range.mp hk
  have H : ∀ k, k < 15 → ∃ i, tables_1[i]? = some (u_lay R_Gr T_Gr k) ∧ goodWord (u_lay R_Gr T_Gr k) = true := fun k hk => ⟨([185, 187, 189, 191, 193, 195, 197, 199, 201, 203, 205, 207, 209, 211, 213] : List Nat).getD k 0, by revert k; decide +kernel⟩
  obtain ⟨i, h1, h2⟩ := H k hk
  exact TG_of i h1 h2
theorem in_Mo : ∀ w ∈ u_ws R_Mo T_Mo 33, w ∈ TG := by
  intro w hw
  obtain ⟨k, hk, rfl⟩ := List.mem_map.mp hw
  have hk := List.mem_range.mp hk
  have H : ∀ k, k < 33 → ∃ i, tables_1[i]? = some (u_lay R_Mo T_Mo k) ∧ goodWord (u_lay R_Mo T_Mo k) = true := fun k hk => ⟨([740, 742, 744, 746, 748, 750, 752, 754, 756, 758, 760, 762, 764, 766, 768, 770, 772, 774, 776, 778, 780, 782, 784, 786, 788, 790, 792, 794, 796, 798, 800, 802, 804] : List Nat).getD k 0, by revert k; decide +kernel⟩
  obtain ⟨i, h1, h2⟩ := H k hk
  exact TG_of i h1 h2
theorem in_SB : ∀ w ∈ u_ws R_SB T_SB 4, w ∈ TG := by
  intro w hw
  obtain ⟨k, hk, rfl⟩ := List.mem_map.mp hw
  have hk := List.mem_range.mp hk
  have H : ∀ k, k < 4 → ∃ i, tables_1[i]? = some (u_lay R_SB T_SB k) ∧ goodWord (u_lay R_SB T_SB k) = true := fun k hk => ⟨([138, 140, 142, 144] : List Nat).getD k 0, by revert k; decide +kernel⟩
  obtain ⟨i, h1, h2⟩ := H k hk
  exact TG_of i h1 h2
