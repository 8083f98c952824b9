/-! ===== texts and throws: contracts ===== -/
theorem pl_J1 : plainName RJ1 = true := by decide +kernel
theorem pl_J3 : plainName RJ3 = true := by decide +kernel
theorem cf_J0_length : CFV mJ0_length_8abf5 0 := ⟨wI_J0_length_8abf5, wS_J0_length_8abf5, wN_java_lang_String, wC_J0_length_8abf5, rfl, ⟨by decide +kernel, by decide +kernel, by decide +kernel⟩, le45 rfl⟩
theorem cf_J0_charAt : CFV mJ0_charAt_5068e 1 := ⟨wI_J0_charAt_5068e, wS_J0_charAt_5068e, wN_java_lang_String, wC_J0_charAt_5068e, rfl, ⟨by decide +kernel, by decide +kernel, by decide +kernel⟩, le45 rfl⟩
theorem cf_J0_coder : CFV mJ0_coder_7d493 0 := ⟨wI_J0_coder_7d493, wS_J0_coder_7d493, wN_java_lang_String, wC_J0_coder_7d493, rfl, ⟨by decide +kernel, by decide +kernel, by decide +kernel⟩, le45 rfl⟩
theorem cf_J0_isLatin1 : CFV mJ0_isLatin1_aae02 0 := ⟨wI_J0_isLatin1_aae02, wS_J0_isLatin1_aae02, wN_java_lang_String, wC_J0_isLatin1_aae02, rfl, ⟨by decide +kernel, by decide +kernel, by decide +kernel⟩, le45 rfl⟩
theorem ft_J3_checkIndex : fitM mJ3_checkIndex_8e157 3 := ⟨by decide +kernel, by decide +kernel, by decide +kernel⟩
theorem ft_J0_checkIndex : fitM mJ0_checkIndex_df160 2 := ⟨by decide +kernel, by decide +kernel, by decide +kernel⟩
theorem ft_J1_charAt : fitM mJ1_charAt_3b067 2 := ⟨by decide +kernel, by decide +kernel, by decide +kernel⟩
theorem strB_ok : ∀ j, j < strN → ∀ c ∈ strB j, 0 ≤ c ∧ c < 128 := by decide +kernel
theorem strB_ok2 : ∀ j, j < strN → (strB j).length < 100 := by decide +kernel
theorem ch_128 : ∀ n : Nat, n < 128 → bAnd (n : Int) 255 = (n : Int) ∧ ((Int32.ofInt (n : Int)).toUInt32 % 65536).toInt32 = Int32.ofInt (n : Int) ∧ narrow .char (.int (Int32.ofInt (n : Int))) = .int (Int32.ofInt (n : Int)) := by decide +kernel
theorem ch_at {j i : Nat} (hj : j < strN) : ∃ n : Nat, n < 128 ∧ (strB j).getD i 0 = (n : Int) := by
  rw [List.getD_eq_getElem?_getD]
  cases h : (strB j)[i]? with
  | none => exact ⟨0, by decide, rfl⟩
  | some c =>
    have h1 := strB_ok j hj c (List.mem_of_getElem? h)
    refine ⟨c.toNat, by omega, ?_⟩
    show c = (c.toNat : Int)
    omega
theorem dJ0_length_8abf5_0 : decode cJ0_length_8abf5 0 = .ok (.aload_n 0, 1) := by decide +kernel
theorem dJ0_length_8abf5_1 : decode cJ0_length_8abf5 1 = .ok (.getfield 9, 3) := by decide +kernel
theorem dJ0_length_8abf5_4 : decode cJ0_length_8abf5 4 = .ok (.arraylength, 1) := by decide +kernel
theorem dJ0_length_8abf5_5 : decode cJ0_length_8abf5 5 = .ok (.aload_n 0, 1) := by decide +kernel
theorem dJ0_length_8abf5_6 : decode cJ0_length_8abf5 6 = .ok (.invokevirtual 335, 3) := by decide +kernel
theorem dJ0_length_8abf5_9 : decode cJ0_length_8abf5 9 = .ok (.ishr, 1) := by decide +kernel
theorem dJ0_length_8abf5_10 : decode cJ0_length_8abf5 10 = .ok (.ireturn, 1) := by decide +kernel
theorem dJ0_charAt_5068e_0 : decode cJ0_charAt_5068e 0 = .ok (.aload_n 0, 1) := by decide +kernel
theorem dJ0_charAt_5068e_1 : decode cJ0_charAt_5068e 1 = .ok (.invokevirtual 492, 3) := by decide +kernel
theorem dJ0_charAt_5068e_4 : decode cJ0_charAt_5068e 4 = .ok (.ifCond .eq 12, 3) := by decide +kernel
theorem dJ0_charAt_5068e_7 : decode cJ0_charAt_5068e 7 = .ok (.aload_n 0, 1) := by decide +kernel
theorem dJ0_charAt_5068e_8 : decode cJ0_charAt_5068e 8 = .ok (.getfield 9, 3) := by decide +kernel
theorem dJ0_charAt_5068e_11 : decode cJ0_charAt_5068e 11 = .ok (.iload_n 1, 1) := by decide +kernel
theorem dJ0_charAt_5068e_12 : decode cJ0_charAt_5068e 12 = .ok (.invokestatic 495, 3) := by decide +kernel
theorem dJ0_charAt_5068e_15 : decode cJ0_charAt_5068e 15 = .ok (.ireturn, 1) := by decide +kernel
theorem dJ0_charAt_5068e_16 : decode cJ0_charAt_5068e 16 = .ok (.aload_n 0, 1) := by decide +kernel
theorem dJ0_charAt_5068e_17 : decode cJ0_charAt_5068e 17 = .ok (.getfield 9, 3) := by decide +kernel
theorem dJ0_charAt_5068e_20 : decode cJ0_charAt_5068e 20 = .ok (.iload_n 1, 1) := by decide +kernel
theorem dJ0_charAt_5068e_21 : decode cJ0_charAt_5068e 21 = .ok (.invokestatic 498, 3) := by decide +kernel
theorem dJ0_charAt_5068e_24 : decode cJ0_charAt_5068e 24 = .ok (.ireturn, 1) := by decide +kernel
theorem dJ0_coder_7d493_0 : decode cJ0_coder_7d493 0 = .ok (.getstatic 38, 3) := by decide +kernel
theorem dJ0_coder_7d493_3 : decode cJ0_coder_7d493 3 = .ok (.ifCond .eq 10, 3) := by decide +kernel
theorem dJ0_coder_7d493_6 : decode cJ0_coder_7d493 6 = .ok (.aload_n 0, 1) := by decide +kernel
theorem dJ0_coder_7d493_7 : decode cJ0_coder_7d493 7 = .ok (.getfield 15, 3) := by decide +kernel
theorem dJ0_coder_7d493_10 : decode cJ0_coder_7d493 10 = .ok (.goto 4, 3) := by decide +kernel
theorem dJ0_coder_7d493_13 : decode cJ0_coder_7d493 13 = .ok (.iconst 1, 1) := by decide +kernel
theorem dJ0_coder_7d493_14 : decode cJ0_coder_7d493 14 = .ok (.ireturn, 1) := by decide +kernel
theorem dJ0_isLatin1_aae02_0 : decode cJ0_isLatin1_aae02 0 = .ok (.getstatic 38, 3) := by decide +kernel
theorem dJ0_isLatin1_aae02_3 : decode cJ0_isLatin1_aae02 3 = .ok (.ifCond .eq 14, 3) := by decide +kernel
theorem dJ0_isLatin1_aae02_6 : decode cJ0_isLatin1_aae02 6 = .ok (.aload_n 0, 1) := by decide +kernel
theorem dJ0_isLatin1_aae02_7 : decode cJ0_isLatin1_aae02 7 = .ok (.getfield 15, 3) := by decide +kernel
theorem dJ0_isLatin1_aae02_10 : decode cJ0_isLatin1_aae02 10 = .ok (.ifCond .ne 7, 3) := by decide +kernel
theorem dJ0_isLatin1_aae02_13 : decode cJ0_isLatin1_aae02 13 = .ok (.iconst 1, 1) := by decide +kernel
theorem dJ0_isLatin1_aae02_14 : decode cJ0_isLatin1_aae02 14 = .ok (.goto 4, 3) := by decide +kernel
theorem dJ0_isLatin1_aae02_17 : decode cJ0_isLatin1_aae02 17 = .ok (.iconst 0, 1) := by decide +kernel
theorem dJ0_isLatin1_aae02_18 : decode cJ0_isLatin1_aae02 18 = .ok (.ireturn, 1) := by decide +kernel
theorem dJ0_checkIndex_df160_0 : decode cJ0_checkIndex_df160 0 = .ok (.iload_n 0, 1) := by decide +kernel
theorem dJ0_checkIndex_df160_1 : decode cJ0_checkIndex_df160 1 = .ok (.iload_n 1, 1) := by decide +kernel
theorem dJ0_checkIndex_df160_2 : decode cJ0_checkIndex_df160 2 = .ok (.getstatic 1053, 3) := by decide +kernel
theorem dJ0_checkIndex_df160_5 : decode cJ0_checkIndex_df160 5 = .ok (.invokestatic 1059, 3) := by decide +kernel
theorem dJ0_checkIndex_df160_8 : decode cJ0_checkIndex_df160 8 = .ok (.pop, 1) := by decide +kernel
theorem dJ0_checkIndex_df160_9 : decode cJ0_checkIndex_df160 9 = .ok (.return_, 1) := by decide +kernel
theorem dJ1_charAt_3b067_0 : decode cJ1_charAt_3b067 0 = .ok (.iload_n 1, 1) := by decide +kernel
theorem dJ1_charAt_3b067_1 : decode cJ1_charAt_3b067 1 = .ok (.aload_n 0, 1) := by decide +kernel
theorem dJ1_charAt_3b067_2 : decode cJ1_charAt_3b067 2 = .ok (.arraylength, 1) := by decide +kernel
theorem dJ1_charAt_3b067_3 : decode cJ1_charAt_3b067 3 = .ok (.invokestatic 9, 3) := by decide +kernel
theorem dJ1_charAt_3b067_6 : decode cJ1_charAt_3b067 6 = .ok (.aload_n 0, 1) := by decide +kernel
theorem dJ1_charAt_3b067_7 : decode cJ1_charAt_3b067 7 = .ok (.iload_n 1, 1) := by decide +kernel
theorem dJ1_charAt_3b067_8 : decode cJ1_charAt_3b067 8 = .ok (.baload, 1) := by decide +kernel
theorem dJ1_charAt_3b067_9 : decode cJ1_charAt_3b067 9 = .ok (.sipush 255, 3) := by decide +kernel
theorem dJ1_charAt_3b067_12 : decode cJ1_charAt_3b067 12 = .ok (.iand, 1) := by decide +kernel
theorem dJ1_charAt_3b067_13 : decode cJ1_charAt_3b067 13 = .ok (.i2c, 1) := by decide +kernel
theorem dJ1_charAt_3b067_14 : decode cJ1_charAt_3b067 14 = .ok (.ireturn, 1) := by decide +kernel
theorem dJ3_checkIndex_8e157_0 : decode cJ3_checkIndex_8e157 0 = .ok (.iload_n 0, 1) := by decide +kernel
theorem dJ3_checkIndex_8e157_1 : decode cJ3_checkIndex_8e157 1 = .ok (.ifCond .lt 8, 3) := by decide +kernel
theorem dJ3_checkIndex_8e157_4 : decode cJ3_checkIndex_8e157 4 = .ok (.iload_n 0, 1) := by decide +kernel
theorem dJ3_checkIndex_8e157_5 : decode cJ3_checkIndex_8e157 5 = .ok (.iload_n 1, 1) := by decide +kernel
theorem dJ3_checkIndex_8e157_6 : decode cJ3_checkIndex_8e157 6 = .ok (.if_icmp .lt 10, 3) := by decide +kernel
theorem dJ3_checkIndex_8e157_9 : decode cJ3_checkIndex_8e157 9 = .ok (.aload_n 2, 1) := by decide +kernel
theorem dJ3_checkIndex_8e157_10 : decode cJ3_checkIndex_8e157 10 = .ok (.iload_n 0, 1) := by decide +kernel
theorem dJ3_checkIndex_8e157_11 : decode cJ3_checkIndex_8e157 11 = .ok (.iload_n 1, 1) := by decide +kernel
theorem dJ3_checkIndex_8e157_12 : decode cJ3_checkIndex_8e157 12 = .ok (.invokestatic 95, 3) := by decide +kernel
theorem dJ3_checkIndex_8e157_15 : decode cJ3_checkIndex_8e157 15 = .ok (.athrow, 1) := by decide +kernel
theorem dJ3_checkIndex_8e157_16 : decode cJ3_checkIndex_8e157 16 = .ok (.iload_n 0, 1) := by decide +kernel
theorem dJ3_checkIndex_8e157_17 : decode cJ3_checkIndex_8e157 17 = .ok (.ireturn, 1) := by decide +kernel
section AWs9
variable {Γ : GA} {M M' : MT} {d d' mc' ms' : Nat} {o0 o1 : Nat × Int} {S0 S1 S : AS} {uc us uc' us' pc n idx : Nat} {ls ls' : List (Option AV)} {st st' as : List AV}
theorem AW.sval {j : Nat} (hj : j < strN) (hw : Cond.fieldLink M.1.cls idx "java/lang/String" "value" "[B" ∈ WT) (hd : decode M.2.1 pc = .ok (.getfield idx, 3)) (hn : pc + 3 = n) (kk : AW Γ M d o0 S0 uc us n ls (vO (200 + j) :: st) S) : AW Γ M d o0 S0 uc us pc ls (vO j :: st) S := by
  intro p e R s m args below meth c mc ms C H locs cells slots lr hP hS hc hL
  subst hn
  have k2 := kk p e R s m args below meth c mc ms C H locs cells slots lr hP hS hc hL
  simp only [List.map_cons, aV_O] at k2 ⊢
  exact vk_getf C.x C.b (C.q.2.2.1 j hj).2.2.1 hS C.o (C.w _ hw) (fun x hx => hx) hd k2
theorem AW.scod {j : Nat} (hj : j < strN) (hw : Cond.fieldLink M.1.cls idx "java/lang/String" "coder" "B" ∈ WT) (hd : decode M.2.1 pc = .ok (.getfield idx, 3)) (hn : pc + 3 = n) (kk : AW Γ M d o0 S0 uc us n ls (vI 0 :: st) S) : AW Γ M d o0 S0 uc us pc ls (vO j :: st) S := by
  intro p e R s m args below meth c mc ms C H locs cells slots lr hP hS hc hL
  subst hn
  have k2 := kk p e R s m args below meth c mc ms C H locs cells slots lr hP hS hc hL
  simp only [List.map_cons, aV_O, aV_I] at k2 ⊢
  exact vk_getf C.x C.b (C.q.2.2.1 j hj).2.1 hS C.o (C.w _ hw) (fun x hx => hx) hd k2
theorem AW.scs (hw : Cond.fieldLink M.1.cls idx "java/lang/String" "COMPACT_STRINGS" "Z" ∈ WT) (hd : decode M.2.1 pc = .ok (.getstatic idx, 3)) (hn : pc + 3 = n) (kk : AW Γ M d o0 S0 uc us n ls (vI 1 :: st) S) : AW Γ M d o0 S0 uc us pc ls st S := by
  intro p e R s m args below meth c mc ms C H locs cells slots lr hP hS hc hL
  subst hn
  have k2 := kk p e R s m args below meth c mc ms C H locs cells slots lr hP hS hc hL
  simp only [List.map_cons, aV_I] at k2
  exact va_gets C.x C.b C.q.2.2.2.1.2.2.1 hS C.o (C.w _ hw) (fun x hx => hx) hd k2
theorem AW.sfm' (hw : Cond.fieldLink M.1.cls idx "jdk/internal/util/Preconditions" "SIOOBE_FORMATTER" "Ljava/util/function/BiFunction;" ∈ WT) (hd : decode M.2.1 pc = .ok (.getstatic idx, 3)) (hn : pc + 3 = n) (kk : ∀ w : AV, (w = vN ∨ ∃ t : Nat, w = vA t) → AW Γ M d o0 S0 uc us n ls (w :: st) S) : AW Γ M d o0 S0 uc us pc ls st S := by
  intro p e R s m args below meth c mc ms C H locs cells slots lr hP hS hc hL
  subst hn
  rcases C.q.2.2.2.1.2.2.2 with hZ | ⟨t, hZ⟩
  · have k2 := kk vN (Or.inl rfl) p e R s m args below meth c mc ms C H locs cells slots lr hP hS hc hL
    simp only [List.map_cons, aV_N] at k2
    exact va_gets C.x C.b hZ hS C.o (C.w _ hw) (fun x hx => hx) hd k2
  · have k2 := kk (vA t) (Or.inr ⟨t, rfl⟩) p e R s m args below meth c mc ms C H locs cells slots lr hP hS hc hL
    simp only [List.map_cons, aV_A] at k2
    exact va_gets C.x C.b hZ hS C.o (C.w _ hw) (fun x hx => hx) hd k2
theorem AW.stlen {j : Nat} (hj : j < strN) (hd : decode M.2.1 pc = .ok (.arraylength, 1)) (hn : pc + 1 = n) (kk : AW Γ M d o0 S0 uc us n ls (vI ((strB j).length : Int) :: st) S) : AW Γ M d o0 S0 uc us pc ls (vO (200 + j) :: st) S := by
  intro p e R s m args below meth c mc ms C H locs cells slots lr hP hS hc hL
  subst hn
  have k2 := kk p e R s m args below meth c mc ms C H locs cells slots lr hP hS hc hL
  simp only [List.map_cons, aV_O, aV_I] at k2 ⊢
  exact va_tlen C.x C.b (C.q.2.2.1 j hj).2.2.2 hS (v := Int32.ofInt ((strB j).length : Int)) rfl hd k2
theorem AW.stald {j : Nat} {i : Int} (hj : j < strN) (hi : 0 ≤ w32 i ∧ w32 i < ((strB j).length : Int)) (hd : decode M.2.1 pc = .ok (.baload, 1)) (hn : pc + 1 = n) (kk : AW Γ M d o0 S0 uc us n ls (vI ((strB j).getD (w32 i).toNat 0) :: st) S) : AW Γ M d o0 S0 uc us pc ls (vI i :: vO (200 + j) :: st) S := by
  intro p e R s m args below meth c mc ms C H locs cells slots lr hP hS hc hL
  subst hn
  have k2 := kk p e R s m args below meth c mc ms C H locs cells slots lr hP hS hc hL
  simp only [List.map_cons, aV_O, aV_I] at k2 ⊢
  exact va_tb C.x C.b (C.q.2.2.1 j hj).2.2.2 hS (in_ofI hi) (by rw [clamp_ofI hi.1]) hd k2
theorem AW.i2c {x : Int} (hx : ((Int32.ofInt x).toUInt32 % 65536).toInt32 = Int32.ofInt x) (hd : decode M.2.1 pc = .ok (.i2c, 1)) (hn : pc + 1 = n) (kk : AW Γ M d o0 S0 uc us n ls (vI x :: st) S) : AW Γ M d o0 S0 uc us pc ls (vI x :: st) S := by
  intro p e R s m args below meth c mc ms C H locs cells slots lr hP hS hc hL
  subst hn
  have k2 := kk p e R s m args below meth c mc ms C H locs cells slots lr hP hS hc hL
  simp only [List.map_cons, aV_I] at k2 ⊢
  exact lv_i2c C.x C.b hd hx k2
theorem AW.nret {v : Int} {ty : FieldType} (hr : M.2.2.2.1 = some ty) (hv : rV (some ty) v = some (.int (Int32.ofInt v))) (hn : narrow ty (.int (Int32.ofInt v)) = .int (Int32.ofInt v)) (ho : o0 = (0, v)) (hS0 : S0 = S) (hd : decode M.2.1 pc = .ok (.ireturn, 1)) : AW Γ M d o0 S0 uc us pc ls [vI v] S := by
  intro p e R s m args below meth c mc ms C H locs cells slots lr hP hS hc hL
  subst ho; subst hS0
  refine W.widen (k := mc) (n := ms) (by omega) (by omega) ?_
  refine vx_ret ?_
  exact W_bret (v := Int32.ofInt v) (w := Int32.ofInt v) C.x C.b (by rw [C.r, hr]) hn (fun t ht hW => ⟨⟨by rw [hr, hv], rfl, by rw [ht]; exact hP⟩, hS.F ht⟩) hS.2.2 hd C.k
theorem AW.callS2 (hM : AM Γ M' d' mc' ms' as S o1 S1)
    (hl : Cond.methodLink M.1.cls idx M'.1 ∈ WT) (hI : Cond.static M'.1 ∈ WT) (hN : Cond.initialized M'.1.cls ∈ WT) (hC : aCode M' ∈ WT) (hh : M'.2.2.2.2 = []) (hfit : fitM M' as.length) (hml : M'.2.2.1 ≤ 45) (hd' : d' + 1 ≤ d) (hst : st.length ≤ 4)
    (hd : decode M.2.1 pc = .ok (.invokestatic idx, 3)) (hn : pc + 3 = n) (hmc : S1.1 < 85 → S.1 < 85 ∧ S.1 + mc' = S1.1) (hu1 : mc' + uc' ≤ uc) (hu2 : ms' + us' ≤ us) (hs : rS M'.2.2.2.1 o1.2 ++ st = st')
    (k0 : o1.1 = 0 → AW Γ M d o0 S0 uc' us' n ls st' S1) (kx : 0 < o1.1 → AX Γ M d o0 S0 uc' us' pc ls o1.1 S1) : AW Γ M d o0 S0 uc us pc ls (as.reverse ++ st) S := by
  subst hs
  refine AW.run (M' := M') (o1 := o1) (S1 := S1) (fun p e R s m args below meth c9 C H locs cells slots lr hP hS hc hls hsz => ?_) hmc hu1 hu2 hn k0 kx
  have hrm := C.rm
  refine ⟨_, (as.map (aV Γ)).toArray, rfl, vx_runS (As := as.map (aV Γ)) ⟨C.x, C.b, C.l, C.o, C.w⟩ hM
    (va_cwS as.length C.w (gin (in3 hl hI hN) hC) (by rw [aWs, aCode_nil hh]) rfl rfl ⟨hfit.1, hfit.2.1, hfit.2.2⟩ ⟨by show d' + 1 ≤ R.frames; omega, by show 8 + (M'.2.2.1 + 11) + 64 * d' ≤ R.locals; omega⟩)
    ⟨aB_blind Γ S _, fun U hU hW => ⟨rfl, aB_of C hP hS hU hW hsz⟩⟩ rfl (by simp) hls (by simp [List.map_append]) (lv_room (Nat.le_trans (aV_sum st) (by omega))) (by rw [← C.b] at hd; rw [← C.b]; exact hd) hc⟩
theorem AW.cO2 {j : Nat} (hM : AM Γ M' d' mc' ms' (vO j :: as) S o1 S1) (hC : CFV M' as.length) (hj : j < strN) (hcl : M'.1.cls = "java/lang/String")
    (hl : Cond.methodLink M.1.cls idx M'.1 ∈ WT) (hd' : d' + 1 ≤ d) (hst : st.length ≤ 4) (hd : decode M.2.1 pc = .ok (.invokevirtual idx, 3)) (hn : pc + 3 = n) (hmc : S1.1 < 85 → S.1 < 85 ∧ S.1 + mc' = S1.1) (hu1 : mc' + uc' ≤ uc) (hu2 : ms' + us' ≤ us) (hs : rS M'.2.2.2.1 o1.2 ++ st = st')
    (k0 : o1.1 = 0 → AW Γ M d o0 S0 uc' us' n ls st' S1) (kx : 0 < o1.1 → AX Γ M d o0 S0 uc' us' pc ls o1.1 S1) : AW Γ M d o0 S0 uc us pc ls (as.reverse ++ vO j :: st) S := by
  subst hs
  exact AW.callO hM hj hcl hl hC.1 hC.2.1 hC.2.2.1 hC.2.2.2.1 hC.2.2.2.2.1 hC.2.2.2.2.2.1 hC.2.2.2.2.2.2 hd' hst hd hn hmc hu1 hu2 k0 kx
theorem A_J0_coder (hΓ : (gl Γ).stackTraces = false) {j : Nat} (hj : j < strN) : AM Γ mJ0_coder_7d493 1 0 0 [vO j] S (0, 0) S := by
  refine AM.of pl_J0 rfl wC_J0_coder_7d493 (le45 rfl) hΓ ?_
  refine AW.scs (n := 3) wF_J0_38 dJ0_coder_7d493_0 rfl ?_
  refine AW.if_eq (t := 13) (n := 6) dJ0_coder_7d493_3 rfl rfl (fun q => absurd q (by decide)) (fun _ => ?_)
  refine AW.oload_n (n := 7) dJ0_coder_7d493_6 rfl rfl ?_
  refine AW.scod (n := 10) hj wF_J0_15 dJ0_coder_7d493_7 rfl ?_
  refine AW.goto (t := 14) dJ0_coder_7d493_10 rfl ?_
  exact AW.nret rfl rfl (by decide) rfl rfl dJ0_coder_7d493_14
theorem A_J0_isLatin1 (hΓ : (gl Γ).stackTraces = false) {j : Nat} (hj : j < strN) : AM Γ mJ0_isLatin1_aae02 1 0 0 [vO j] S (0, 1) S := by
  refine AM.of pl_J0 rfl wC_J0_isLatin1_aae02 (le45 rfl) hΓ ?_
  refine AW.scs (n := 3) wF_J0_38 dJ0_isLatin1_aae02_0 rfl ?_
  refine AW.if_eq (t := 17) (n := 6) dJ0_isLatin1_aae02_3 rfl rfl (fun q => absurd q (by decide)) (fun _ => ?_)
  refine AW.oload_n (n := 7) dJ0_isLatin1_aae02_6 rfl rfl ?_
  refine AW.scod (n := 10) hj wF_J0_15 dJ0_isLatin1_aae02_7 rfl ?_
  refine AW.if_ne (t := 17) (n := 13) dJ0_isLatin1_aae02_10 rfl rfl (fun _ => ?_) (fun q => absurd (by decide) q)
  refine AW.iconst (n := 14) dJ0_isLatin1_aae02_13 rfl ?_
  refine AW.goto (t := 18) dJ0_isLatin1_aae02_14 rfl ?_
  exact AW.zret rfl (by decide) rfl rfl dJ0_isLatin1_aae02_18
theorem A_J0_length (hΓ : (gl Γ).stackTraces = false) {j : Nat} (hj : j < strN) : AM Γ mJ0_length_8abf5 8 0 0 [vO j] S (0, ((strB j).length : Int)) S := by
  refine AM.of pl_J0 rfl wC_J0_length_8abf5 (le45 rfl) hΓ ?_
  refine AW.oload_n (n := 1) dJ0_length_8abf5_0 rfl rfl ?_
  refine AW.sval (n := 4) hj wF_J0_9 dJ0_length_8abf5_1 rfl ?_
  refine AW.stlen (n := 5) hj dJ0_length_8abf5_4 rfl ?_
  refine AW.oload_n (n := 6) dJ0_length_8abf5_5 rfl rfl ?_
  refine AW.cO2 (n := 9) (as := []) (st := [vI ((strB j).length : Int)]) (st' := [vI 0, vI ((strB j).length : Int)]) (uc' := 0) (us' := 0) (A_J0_coder hΓ hj) cf_J0_coder hj rfl wM_J0_335 (le45 rfl) (le45 rfl) dJ0_length_8abf5_6 rfl (fun q => ⟨q, rfl⟩) (le45 rfl) (le45 rfl) rfl (fun _ => ?_) nlt0
  have h9 : bShr ((strB j).length : Int) 0 = ((strB j).length : Int) := by
    have h8 := strB_ok2 j hj
    generalize (strB j).length = q at h8 ⊢
    have : ∀ q : Nat, q < 100 → bShr (q : Int) 0 = (q : Int) := by decide +kernel
    exact this q h8
  refine AW.ishr (n := 10) dJ0_length_8abf5_9 rfl ?_
  rw [h9]
  exact AW.iret rfl rfl rfl dJ0_length_8abf5_10
theorem A_J3_checkIndex (hΓ : (gl Γ).stackTraces = false) {i k : Int} {w : AV} (h1 : 0 ≤ w32 i) (h2 : w32 i < w32 k) (hw : (aEnt [vI i, vI k, w]).length ≤ 3) : AM Γ mJ3_checkIndex_8e157 1 0 0 [vI i, vI k, w] S (0, i) S := by
  refine AM.of pl_J3 rfl wC_J3_checkIndex_8e157 hw hΓ ?_
  refine AW.iload_n (n := 1) dJ3_checkIndex_8e157_0 rfl rfl ?_
  refine AW.if_lt (t := 9) (n := 4) dJ3_checkIndex_8e157_1 rfl rfl (fun q => absurd h1 (by omega)) (fun _ => ?_)
  refine AW.iload_n (n := 5) dJ3_checkIndex_8e157_4 rfl rfl ?_
  refine AW.iload_n (n := 6) dJ3_checkIndex_8e157_5 rfl rfl ?_
  refine AW.icmp_lt (t := 16) (n := 9) dJ3_checkIndex_8e157_6 rfl rfl rfl rfl (fun _ => ?_) (fun q => absurd h2 q)
  refine AW.iload_n (n := 17) dJ3_checkIndex_8e157_16 rfl rfl ?_
  exact AW.iret rfl rfl rfl dJ3_checkIndex_8e157_17
theorem A_J0_checkIndex (hΓ : (gl Γ).stackTraces = false) {i k : Int} (h1 : 0 ≤ w32 i) (h2 : w32 i < w32 k) : AM Γ mJ0_checkIndex_df160 2 0 0 [vI i, vI k] S (0, 0) S := by
  refine AM.of pl_J0 rfl wC_J0_checkIndex_df160 (le45 rfl) hΓ ?_
  refine AW.iload_n (n := 1) dJ0_checkIndex_df160_0 rfl rfl ?_
  refine AW.iload_n (n := 2) dJ0_checkIndex_df160_1 rfl rfl ?_
  refine AW.sfm' (n := 5) wF_J0_1053 dJ0_checkIndex_df160_2 rfl (fun w hw => ?_)
  have hlen : (aEnt [vI i, vI k, w]).length ≤ 3 := by rcases hw with rfl | ⟨t, rfl⟩ <;> exact le45 rfl
  refine AW.callS2 (n := 8) (as := [vI i, vI k, w]) (st := []) (st' := [vI i]) (uc' := 0) (us' := 0) (A_J3_checkIndex hΓ h1 h2 hlen) wM_J0_1059 wT_J3_checkIndex_8e157 wN_jdk_internal_util_Preconditions wC_J3_checkIndex_8e157 rfl ft_J3_checkIndex (le45 rfl) (le45 rfl) (le45 rfl) dJ0_checkIndex_df160_5 rfl (fun q => ⟨q, rfl⟩) (le45 rfl) (le45 rfl) rfl (fun _ => ?_) nlt0
  refine AW.pop (n := 9) dJ0_checkIndex_df160_8 rfl (cI _) ?_
  exact AW.vret rfl rfl rfl dJ0_checkIndex_df160_9
theorem A_J1_charAt (hΓ : (gl Γ).stackTraces = false) {j : Nat} {i : Int} (hj : j < strN) (hi : 0 ≤ w32 i ∧ w32 i < ((strB j).length : Int)) : AM Γ mJ1_charAt_3b067 3 0 0 [vO (200 + j), vI i] S (0, (strB j).getD (w32 i).toNat 0) S := by
  refine AM.of pl_J1 rfl wC_J1_charAt_3b067 (le45 rfl) hΓ ?_
  have h8 := strB_ok2 j hj
  refine AW.iload_n (n := 1) dJ1_charAt_3b067_0 rfl rfl ?_
  refine AW.oload_n (n := 2) dJ1_charAt_3b067_1 rfl rfl ?_
  refine AW.stlen (n := 3) hj dJ1_charAt_3b067_2 rfl ?_
  refine AW.callS2 (n := 6) (as := [vI i, vI ((strB j).length : Int)]) (st := []) (st' := []) (uc' := 0) (us' := 0) (A_J0_checkIndex hΓ hi.1 (by rw [w32_id (x := ((strB j).length : Int)) (by omega) (by omega)]; exact hi.2)) wM_J1_9 wT_J0_checkIndex_df160 wN_java_lang_String wC_J0_checkIndex_df160 rfl ft_J0_checkIndex (le45 rfl) (le45 rfl) (le45 rfl) dJ1_charAt_3b067_3 rfl (fun q => ⟨q, rfl⟩) (le45 rfl) (le45 rfl) rfl (fun _ => ?_) nlt0
  refine AW.oload_n (n := 7) dJ1_charAt_3b067_6 rfl rfl ?_
  refine AW.iload_n (n := 8) dJ1_charAt_3b067_7 rfl rfl ?_
  refine AW.stald (n := 9) hj hi dJ1_charAt_3b067_8 rfl ?_
  obtain ⟨c, hc, e⟩ := ch_at (i := (w32 i).toNat) hj
  rw [e]
  obtain ⟨g1, g2, g3⟩ := ch_128 c hc
  refine AW.sipush (n := 12) dJ1_charAt_3b067_9 rfl (by decide) ?_
  refine AW.iand (n := 13) dJ1_charAt_3b067_12 rfl ?_
  rw [g1]
  refine AW.i2c (n := 14) g2 dJ1_charAt_3b067_13 rfl ?_
  exact AW.nret rfl rfl g3 rfl rfl dJ1_charAt_3b067_14
theorem A_J0_charAt (hΓ : (gl Γ).stackTraces = false) {j i2 : Nat} {i : Int} (hj : j < strN) (hi : i2 = (w32 i).toNat ∧ 0 ≤ w32 i ∧ w32 i < ((strB j).length : Int)) : AM Γ mJ0_charAt_5068e 8 0 0 [vO j, vI i] S (0, (strB j).getD i2 0) S := by
  obtain ⟨rfl, hi⟩ := hi
  refine AM.of pl_J0 rfl wC_J0_charAt_5068e (le45 rfl) hΓ ?_
  refine AW.oload_n (n := 1) dJ0_charAt_5068e_0 rfl rfl ?_
  refine AW.cO2 (n := 4) (as := []) (st := []) (st' := [vI 1]) (uc' := 0) (us' := 0) (A_J0_isLatin1 hΓ hj) cf_J0_isLatin1 hj rfl wM_J0_492 (le45 rfl) (le45 rfl) dJ0_charAt_5068e_1 rfl (fun q => ⟨q, rfl⟩) (le45 rfl) (le45 rfl) rfl (fun _ => ?_) nlt0
  refine AW.if_eq (t := 16) (n := 7) dJ0_charAt_5068e_4 rfl rfl (fun q => absurd q (by decide)) (fun _ => ?_)
  refine AW.oload_n (n := 8) dJ0_charAt_5068e_7 rfl rfl ?_
  refine AW.sval (n := 11) hj wF_J0_9 dJ0_charAt_5068e_8 rfl ?_
  refine AW.iload_n (n := 12) dJ0_charAt_5068e_11 rfl rfl ?_
  refine AW.callS2 (n := 15) (as := [vO (200 + j), vI i]) (st := []) (st' := [vI ((strB j).getD (w32 i).toNat 0)]) (uc' := 0) (us' := 0) (A_J1_charAt hΓ hj hi) wM_J0_495 wT_J1_charAt_3b067 wN_java_lang_StringLatin1 wC_J1_charAt_3b067 rfl ft_J1_charAt (le45 rfl) (le45 rfl) (le45 rfl) dJ0_charAt_5068e_12 rfl (fun q => ⟨q, rfl⟩) (le45 rfl) (le45 rfl) rfl (fun _ => ?_) nlt0
  obtain ⟨c, hc, e⟩ := ch_at (i := (w32 i).toNat) hj
  rw [e]
  exact AW.nret rfl rfl (ch_128 c hc).2.2 rfl rfl dJ0_charAt_5068e_15
end AWs9
/-! throws -/
theorem wt_or (ps : List Nat) {ws : List Cond} (hp : ps.map (fun i => tables_1[i]?) = ws.map some) (g : ws.all (fun w => goodWord w || nW w) = true) : ∀ w ∈ ws, w ∈ WT ∨ w ∈ WN := by
  intro w hw
  have h1 : some w ∈ ws.map some := List.mem_map.mpr ⟨w, hw, rfl⟩
  rw [← hp] at h1
  obtain ⟨i, -, hi⟩ := List.mem_map.mp h1
  have h2 := List.all_eq_true.mp g w hw
  simp only [Bool.or_eq_true] at h2
  rcases h2 with h2 | h2
  · exact Or.inl (wt_t i hi h2)
  · exact Or.inr (List.mem_filter.mpr ⟨List.mem_of_getElem? hi, h2⟩)
def thrA (X : String) : List Cond := Bundle.throwableAtoms ++ Bundle.throwableSAtoms ++ Bundle.chainSAtoms X exNames
def thrB (X : String) : List Cond := [.instantiable X 6, .castable X X, .selects X Bundle.tFill0 Bundle.tFill0, .selects X Bundle.tFill Bundle.tFill,
   .lays X Bundle.tN "cause" "Ljava/lang/Throwable;", .lays X Bundle.tN "stackTrace" Bundle.steD, .lays X Bundle.tN "suppressedExceptions" Bundle.listD, .lays X Bundle.tN "detailMessage" "Ljava/lang/String;",
   .isRef (.static Bundle.tN "UNASSIGNED_STACK" Bundle.steD), .isRef (.static Bundle.tN "SUPPRESSED_SENTINEL" Bundle.listD),
   .fieldLink Bundle.tN 198 Bundle.tN "backtrace" "Ljava/lang/Object;", .lays Bundle.tN Bundle.tN "backtrace" "Ljava/lang/Object;", .lays X Bundle.tN "backtrace" "Ljava/lang/Object;"]
theorem thr_of {X : String} (hf : Bundle.fit X = true) (ps : List Nat) (hp : ps.map (fun i => tables_1[i]?) = ((thrA X ++ thrB X).filter vx_no).map some) (g : ((thrA X ++ thrB X).filter vx_no).all (fun w => goodWord w || nW w) = true) : thrW X := by
  refine ⟨hf, fun own ic w hw => ?_⟩
  obtain ⟨h1, h2⟩ := List.mem_filter.mp hw
  have h3 : w ∈ thrA X ++ (Cond.methodLink own ic (Bundle.initS X) :: thrB X) := h1
  rcases List.mem_append.mp h3 with h | h
  · exact Or.inr (wt_or ps hp g w (List.mem_filter.mpr ⟨List.mem_append_left _ h, h2⟩))
  · rcases List.mem_cons.mp h with h | h
    · exact Or.inl h
    · exact Or.inr (wt_or ps hp g w (List.mem_filter.mpr ⟨List.mem_append_right _ h, h2⟩))
set_option maxRecDepth 100000 in
theorem thrW_1 : thrW (exN 1) := thr_of (X := "java/lang/IndexOutOfBoundsException") (by decide +kernel) [18, 845, 854, 859, 862, 864, 846, 847, 32, 33, 848, 853, 860, 880, 835, 881, 837, 882, 839, 849, 851, 841, 876, 877, 879, 841, 1049, 1050, 1051, 870, 827, 870, 871, 872, 873, 829, 873, 874, 875, 876, 831, 1039, 1040, 1041, 857, 1042, 1043, 1044, 1045, 844, 843, 1046] (by decide +kernel) (by decide +kernel)
set_option maxRecDepth 100000 in
theorem thrW_2 : thrW (exN 2) := thr_of (X := "java/lang/IllegalArgumentException") (by decide +kernel) [18, 845, 854, 859, 862, 864, 846, 847, 32, 33, 848, 853, 860, 880, 835, 881, 837, 882, 839, 849, 851, 841, 876, 877, 879, 841, 867, 868, 869, 870, 827, 870, 871, 872, 873, 829, 873, 874, 875, 876, 831, 824, 825, 832, 833, 834, 836, 838, 840, 844, 843, 842] (by decide +kernel) (by decide +kernel)
set_option maxRecDepth 100000 in
theorem thrW_4 : thrW (exN 4) := thr_of (X := "java/lang/IllegalStateException") (by decide +kernel) [18, 845, 854, 859, 862, 864, 846, 847, 32, 33, 848, 853, 860, 880, 835, 881, 837, 882, 839, 849, 851, 841, 876, 877, 879, 841, 1020, 1021, 1022, 870, 827, 870, 871, 872, 873, 829, 873, 874, 875, 876, 831, 1010, 1011, 1012, 856, 1013, 1014, 1015, 1016, 844, 843, 1017] (by decide +kernel) (by decide +kernel)
