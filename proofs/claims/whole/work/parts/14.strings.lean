/-! ===== texts and throws: contracts ===== -/
theorem cf_J0_length : CFV mJ0_length_8abf5 0 := ⟨wI_J0_length_8abf5, wS_J0_length_8abf5, wN_java_lang_String, wC_J0_length_8abf5, rfl, ⟨by decide +kernel, by decide +kernel, by decide +kernel⟩, le45 rfl⟩
theorem cf_J0_charAt : CFV mJ0_charAt_5068e 1 := ⟨wI_J0_charAt_5068e, wS_J0_charAt_5068e, wN_java_lang_String, wC_J0_charAt_5068e, rfl, ⟨by decide +kernel, by decide +kernel, by decide +kernel⟩, le45 rfl⟩
theorem A_J0_length {Γ : GA} (hΓ : (gl Γ).stackTraces = false) {j : Nat} (hj : j < strN) {S : AS} : AM Γ mJ0_length_8abf5 8 0 0 [vO j] S (0, ((strB j).length : Int)) S := sorry
theorem A_J0_charAt {Γ : GA} (hΓ : (gl Γ).stackTraces = false) {j i2 : Nat} {i : Int} (hj : j < strN) (hi : i2 = (w32 i).toNat ∧ 0 ≤ w32 i ∧ w32 i < ((strB j).length : Int)) {S : AS} : AM Γ mJ0_charAt_5068e 8 0 0 [vO j, vI i] S (0, (strB j).getD i2 0) S := sorry
theorem thrW_1 : thrW (exN 1) := sorry
theorem thrW_2 : thrW (exN 2) := sorry
theorem thrW_3 : thrW (exN 3) := sorry
theorem thrW_4 : thrW (exN 4) := sorry
