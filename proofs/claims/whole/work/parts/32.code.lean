/-! ===== methods as functions, and their bytecode beside them (printed by wip/whole/gen/emit.py) ===== -/
def L_X12_comes : List (Nat × Instr × Nat) := [(0, .aload_n 0, 1), (1, .iconst 0, 1), (2, .putfield 105, 3), (5, .aload_n 0, 1), (6, .getfield 52, 3), (9, .ifCond .eq 5, 3), (12, .iconst (-1), 1), (13, .ireturn, 1), (14, .aload_n 0, 1), (15, .getfield 49, 3), (18, .iconst (-1), 1), (19, .if_icmp .eq 7, 3), (22, .aload_n 0, 1), (23, .invokevirtual 419, 3), (26, .aload_n 0, 1), (27, .aload_n 0, 1), (28, .getfield 354, 3), (31, .aload_n 0, 1), (32, .getfield 21, 3), (35, .iconst 1, 1), (36, .iaload, 1), (37, .if_icmp .ne 7, 3), (40, .iconst 1, 1), (41, .goto 4, 3), (44, .iconst 0, 1), (45, .putfield 52, 3), (48, .aload_n 0, 1), (49, .getfield 52, 3), (52, .ifCond .eq 5, 3), (55, .iconst (-1), 1), (56, .ireturn, 1), (57, .aload_n 0, 1), (58, .aload_n 0, 1), (59, .getfield 354, 3), (62, .iconst 0, 1), (63, .invokevirtual 333, 3), (66, .istore_n 1, 1), (67, .aload_n 0, 1), (68, .getfield 21, 3), (71, .iconst 3, 1), (72, .iaload, 1), (73, .ifCond .le 53, 3), (76, .aload_n 0, 1), (77, .getfield 375, 3), (80, .ifCond .ne 46, 3), (83, .iload_n 1, 1), (84, .aload_n 0, 1), (85, .getfield 340, 3), (88, .aload_n 0, 1), (89, .getfield 21, 3), (92, .iconst 3, 1), (93, .iaload, 1), (94, .iadd, 1), (95, .if_icmp .le 31, 3), (98, .aload_n 0, 1), (99, .dup, 1), (100, .getfield 340, 3), (103, .aload_n 0, 1), (104, .getfield 21, 3), (107, .iconst 3, 1), (108, .iaload, 1), (109, .iadd, 1), (110, .putfield 340, 3), (113, .aload_n 0, 1), (114, .dup, 1), (115, .getfield 357, 3), (118, .iconst 1, 1), (119, .iadd, 1), (120, .putfield 357, 3), (123, .goto (-56), 3), (126, .aload_n 0, 1), (127, .iload_n 1, 1), (128, .aload_n 0, 1), (129, .getfield 340, 3), (132, .aload_n 0, 1), (133, .getfield 21, 3), (136, .iconst 2, 1), (137, .iaload, 1), (138, .iadd, 1), (139, .if_icmp .le 7, 3), (142, .iconst 1, 1), (143, .goto 4, 3), (146, .iconst 0, 1), (147, .putfield 52, 3), (150, .aload_n 0, 1), (151, .getfield 52, 3), (154, .ifCond .eq 5, 3), (157, .iconst (-1), 1), (158, .ireturn, 1), (159, .aload_n 0, 1), (160, .iload_n 1, 1), (161, .aload_n 0, 1), (162, .getfield 352, 3), (165, .isub, 1), (166, .invokevirtual 422, 3), (169, .aload_n 0, 1), (170, .iload_n 1, 1), (171, .putfield 352, 3), (174, .aload_n 0, 1), (175, .invokevirtual 424, 3), (178, .aload_n 0, 1), (179, .aload_n 0, 1), (180, .getfield 354, 3), (183, .putfield 49, 3), (186, .aload_n 0, 1), (187, .dup, 1), (188, .getfield 354, 3), (191, .iconst 1, 1), (192, .iadd, 1), (193, .putfield 354, 3), (196, .aload_n 0, 1), (197, .getfield 49, 3), (200, .ireturn, 1)]
theorem D_X12_comes : dOK cX12_comes L_X12_comes = true := by decide +kernel
theorem cf_X12_comes : CFV mX12_comes 0 := ⟨wI_X12_comes, wS_X12_comes, wN_WaveRightModel, wC_X12_comes, rfl, ⟨by decide +kernel, by decide +kernel, by decide +kernel⟩, le45 rfl⟩
def X12_comes_j147 (n : Nat) (σ13 : SG) (v10 : Int) (y15 : Int) : Option (Int × SG) :=
  if y15 = 0 ∨ y15 = 1 then
  lt (up σ13 57 35 y15) fun σ17 =>
  if w32 (σ17 57 35) = 0 then
    (X12_swims n (v10 - (σ17 57 25)) σ17).bind fun σ20 =>
    lt (up σ20 57 25 v10) fun σ21 =>
    (X12_comeBack n σ21).bind fun σ23 =>
    lt (up σ23 57 27 (σ23 57 28)) fun σ24 =>
    lt (up σ24 57 28 ((σ24 57 28) + 1)) fun σ25 =>
    some (((σ25 57 27), σ25))
  else
    some (((-1), σ17))
  else none
def X12_comes_e67 (n : Nat) (v10 : Int) (σ13 : SG) : Option (Int × SG) :=
  rdA 144 2 fun j14 =>
  ((if w32 v10 ≤ w32 ((σ13 57 26) + (σ13 60 j14)) then
    some (0)
  else
    some (1)) : Option (Int)).bind (fun s => X12_comes_j147 n σ13 v10 s)
def X12_comes_l67 (n : Nat) (v10 : Int) (σ11 : SG) : Option ((SG) ⊕ (SG)) :=
  rdA 144 3 fun j26 =>
  if w32 (σ11 60 j26) ≤ 0 then
    some (.inr σ11)
  else
    if w32 (σ11 57 37) = 0 then
      rdA 144 3 fun j27 =>
      if w32 v10 ≤ w32 ((σ11 57 26) + (σ11 60 j27)) then
        some (.inr σ11)
      else
        rdA 144 3 fun j28 =>
        lt (up σ11 57 26 ((σ11 57 26) + (σ11 60 j28))) fun σ29 =>
        lt (up σ29 57 29 ((σ29 57 29) + 1)) fun σ30 =>
        some (.inl σ30)
    else
      some (.inr σ11)
def X12_comes_j45 (n : Nat) (σ2 : SG) (y5 : Int) : Option (Int × SG) :=
  if y5 = 0 ∨ y5 = 1 then
  lt (up σ2 57 35 y5) fun σ7 =>
  if w32 (σ7 57 35) = 0 then
    (X12_ofWave n (σ7 57 28) 0 σ7).bind fun v10 =>
    ((iter n (fun s : SG => X12_comes_l67 n v10 s) σ7) : Option (SG)).bind (fun s => X12_comes_e67 n v10 s)
  else
    some (((-1), σ7))
  else none
def X12_comes_j26 (n : Nat) (σ2 : SG) : Option (Int × SG) :=
  rdA 144 1 fun j4 =>
  ((if w32 (σ2 57 28) = w32 (σ2 60 j4) then
    some (1)
  else
    some (0)) : Option (Int)).bind (fun s => X12_comes_j45 n σ2 s)
def X12_comes (n : Nat) (σ : SG) : Option (Int × SG) :=
  lt (up σ 57 0 0) fun σ1 =>
  if w32 (σ1 57 35) = 0 then
    ((if w32 (σ1 57 27) = (-1) then
      some (σ1)
    else
      (X12_goesBy n σ1).bind fun σ32 =>
      some (σ32)) : Option (SG)).bind (fun s => X12_comes_j26 n s)
  else
    some (((-1), σ1))
set_option maxHeartbeats 4000000 in
set_option maxRecDepth 100000 in
theorem A_X12_comes {Γ : GA} (hΓ : (gl Γ).stackTraces = false) {n : Nat} {σ : SG} {r : Int} {τ : SG}  (h : X12_comes n σ = some (r, τ)) : AM Γ mX12_comes 8 0 0 [vR 57] (85, σ) (0, r) (85, τ) := by
  refine AM.of pl_X12 rfl wC_X12_comes (le45 rfl) hΓ ?_
  refine AW.to (ls'' := [some (vR 57), none]) ?_ (lle_s rfl (lle_e (lle_z)))
  unfold X12_comes at h
  refine AW.aload_n (n := 1) (dat D_X12_comes 0 rfl) rfl rfl ?_
  refine AW.iconst (n := 2) (dat D_X12_comes 1 rfl) rfl ?_
  refine AW.putI (n := 5) fX12_0 wF_X12_105 ly_57 (le45 rfl) rfl rfl rfl (dat D_X12_comes 2 rfl) rfl ?_
  refine AW.ltS h (fun σ1 h => ?_)
  refine AW.aload_n (n := 6) (dat D_X12_comes 3 rfl) rfl rfl ?_
  refine AW.getI (n := 9) fX12_35 wF_X12_52 ly_57 (le45 rfl) rfl rfl (dat D_X12_comes 4 rfl) rfl ?_
  refine AW.if_eqH (t := 14) (n := 12) h (dat D_X12_comes 5 rfl) rfl rfl (fun h => ?_) (fun h => ?_)
  · refine AW.aload_n (n := 15) (dat D_X12_comes 8 rfl) rfl rfl ?_
    refine AW.getI (n := 18) fX12_27 wF_X12_49 ly_57 (le45 rfl) rfl rfl (dat D_X12_comes 9 rfl) rfl ?_
    refine AW.iconst (n := 19) (dat D_X12_comes 10 rfl) rfl ?_
    obtain ⟨s3, h, hq3⟩ := ob_some h
    obtain ⟨σ2, e3⟩ : ∃ z, z = s3 := ⟨_, rfl⟩
    subst e3
    have hJ3 : AW Γ mX12_comes 8 (0, r) (85, τ) 0 0 26 [some (vR 57), none] [] (85, σ2) := by
      have h : X12_comes_j26 n σ2 = some _ := hq3
      unfold X12_comes_j26 at h
      refine AW.aload_n (n := 27) (dat D_X12_comes 14 rfl) rfl rfl ?_
      refine AW.aload_n (n := 28) (dat D_X12_comes 15 rfl) rfl rfl ?_
      refine AW.getI (n := 31) fX12_28 wF_X12_354 ly_57 (le45 rfl) rfl rfl (dat D_X12_comes 16 rfl) rfl ?_
      refine AW.aload_n (n := 32) (dat D_X12_comes 17 rfl) rfl rfl ?_
      refine AW.getR (n := 35) (t := 60) fX12_9 wF_X12_21 ly_57 (le45 rfl) rfl (dat D_X12_comes 18 rfl) rfl ?_
      refine AW.iconst (n := 36) (dat D_X12_comes 19 rfl) rfl ?_
      refine AW.ialdH h (n := 37) rfl ly_60 (le45 rfl) (dat D_X12_comes 20 rfl) rfl (fun j4 h => ?_)
      obtain ⟨s6, h, hq6⟩ := ob_some h
      obtain ⟨y5, e6⟩ : ∃ z, z = s6 := ⟨_, rfl⟩
      subst e6
      have hJ6 : AW Γ mX12_comes 8 (0, r) (85, τ) 0 0 45 [some (vR 57), none] [vI y5, vR 57] (85, σ2) := by
        have h : X12_comes_j45 n σ2 y5 = some _ := hq6
        unfold X12_comes_j45 at h
        obtain ⟨q8, h⟩ := ite_y h
        refine AW.putZ (n := 48) q8 fX12_35 wF_X12_52 ly_57 (le45 rfl) rfl rfl rfl (dat D_X12_comes 25 rfl) rfl ?_
        refine AW.ltS h (fun σ7 h => ?_)
        refine AW.aload_n (n := 49) (dat D_X12_comes 26 rfl) rfl rfl ?_
        refine AW.getI (n := 52) fX12_35 wF_X12_52 ly_57 (le45 rfl) rfl rfl (dat D_X12_comes 27 rfl) rfl ?_
        refine AW.if_eqH (t := 57) (n := 55) h (dat D_X12_comes 28 rfl) rfl rfl (fun h => ?_) (fun h => ?_)
        · refine AW.aload_n (n := 58) (dat D_X12_comes 31 rfl) rfl rfl ?_
          refine AW.aload_n (n := 59) (dat D_X12_comes 32 rfl) rfl rfl ?_
          refine AW.getI (n := 62) fX12_28 wF_X12_354 ly_57 (le45 rfl) rfl rfl (dat D_X12_comes 33 rfl) rfl ?_
          refine AW.iconst (n := 63) (dat D_X12_comes 34 rfl) rfl ?_
          obtain ⟨v10, hc9, h⟩ := ob_some h
          refine AW.cV (n := 66) (as := [vI (σ7 57 28), vI 0]) (st := []) (st' := [vI v10]) (uc' := 0) (us' := 0) (A_X12_ofWave hΓ hc9) cf_X12_ofWave ly_57 (le45 rfl) vc_12 (le45 rfl) wM_X12_333 (le45 rfl) (le45 rfl) (dat D_X12_comes 35 rfl) rfl rfl (le45 rfl) (le45 rfl) rfl (fun _ => ?_) nlt0
          refine AW.istore_n (n := 67) (ls' := [some (vR 57), some (vI v10)]) (dat D_X12_comes 36 rfl) rfl (le45 rfl) (le45 rfl) rfl rfl ?_
          obtain ⟨b12, hi12, hq12⟩ := ob_some h
          obtain ⟨σ13, e12⟩ : ∃ z, z = b12 := ⟨_, rfl⟩
          subst e12
          have hR12 : AW Γ mX12_comes 8 (0, r) (85, τ) 0 0 126 [some (vR 57), some (vI v10)] [] (85, σ13) := by
            have h : X12_comes_e67 n v10 σ13 = some _ := hq12
            unfold X12_comes_e67 at h
            refine AW.aload_n (n := 127) (dat D_X12_comes 70 rfl) rfl rfl ?_
            refine AW.iload_n (n := 128) (dat D_X12_comes 71 rfl) rfl rfl ?_
            refine AW.aload_n (n := 129) (dat D_X12_comes 72 rfl) rfl rfl ?_
            refine AW.getI (n := 132) fX12_26 wF_X12_340 ly_57 (le45 rfl) rfl rfl (dat D_X12_comes 73 rfl) rfl ?_
            refine AW.aload_n (n := 133) (dat D_X12_comes 74 rfl) rfl rfl ?_
            refine AW.getR (n := 136) (t := 60) fX12_9 wF_X12_21 ly_57 (le45 rfl) rfl (dat D_X12_comes 75 rfl) rfl ?_
            refine AW.iconst (n := 137) (dat D_X12_comes 76 rfl) rfl ?_
            refine AW.ialdH h (n := 138) rfl ly_60 (le45 rfl) (dat D_X12_comes 77 rfl) rfl (fun j14 h => ?_)
            refine AW.iadd (n := 139) (dat D_X12_comes 78 rfl) rfl ?_
            obtain ⟨s16, h, hq16⟩ := ob_some h
            obtain ⟨y15, e16⟩ : ∃ z, z = s16 := ⟨_, rfl⟩
            subst e16
            have hJ16 : AW Γ mX12_comes 8 (0, r) (85, τ) 0 0 147 [some (vR 57), some (vI v10)] [vI y15, vR 57] (85, σ13) := by
              have h : X12_comes_j147 n σ13 v10 y15 = some _ := hq16
              unfold X12_comes_j147 at h
              obtain ⟨q18, h⟩ := ite_y h
              refine AW.putZ (n := 150) q18 fX12_35 wF_X12_52 ly_57 (le45 rfl) rfl rfl rfl (dat D_X12_comes 83 rfl) rfl ?_
              refine AW.ltS h (fun σ17 h => ?_)
              refine AW.aload_n (n := 151) (dat D_X12_comes 84 rfl) rfl rfl ?_
              refine AW.getI (n := 154) fX12_35 wF_X12_52 ly_57 (le45 rfl) rfl rfl (dat D_X12_comes 85 rfl) rfl ?_
              refine AW.if_eqH (t := 159) (n := 157) h (dat D_X12_comes 86 rfl) rfl rfl (fun h => ?_) (fun h => ?_)
              · refine AW.aload_n (n := 160) (dat D_X12_comes 89 rfl) rfl rfl ?_
                refine AW.iload_n (n := 161) (dat D_X12_comes 90 rfl) rfl rfl ?_
                refine AW.aload_n (n := 162) (dat D_X12_comes 91 rfl) rfl rfl ?_
                refine AW.getI (n := 165) fX12_25 wF_X12_352 ly_57 (le45 rfl) rfl rfl (dat D_X12_comes 92 rfl) rfl ?_
                refine AW.isub (n := 166) (dat D_X12_comes 93 rfl) rfl ?_
                obtain ⟨σ20, hc19, h⟩ := ob_some h
                refine AW.cV (n := 169) (as := [vI (v10 - (σ17 57 25))]) (st := []) (st' := []) (uc' := 0) (us' := 0) (A_X12_swims hΓ hc19) cf_X12_swims ly_57 (le45 rfl) vc_12 (le45 rfl) wM_X12_422 (le45 rfl) (le45 rfl) (dat D_X12_comes 94 rfl) rfl rfl (le45 rfl) (le45 rfl) rfl (fun _ => ?_) nlt0
                refine AW.aload_n (n := 170) (dat D_X12_comes 95 rfl) rfl rfl ?_
                refine AW.iload_n (n := 171) (dat D_X12_comes 96 rfl) rfl rfl ?_
                refine AW.putI (n := 174) fX12_25 wF_X12_352 ly_57 (le45 rfl) rfl rfl rfl (dat D_X12_comes 97 rfl) rfl ?_
                refine AW.ltS h (fun σ21 h => ?_)
                refine AW.aload_n (n := 175) (dat D_X12_comes 98 rfl) rfl rfl ?_
                obtain ⟨σ23, hc22, h⟩ := ob_some h
                refine AW.cV (n := 178) (as := []) (st := []) (st' := []) (uc' := 0) (us' := 0) (A_X12_comeBack hΓ hc22) cf_X12_comeBack ly_57 (le45 rfl) vc_12 (le45 rfl) wM_X12_424 (le45 rfl) (le45 rfl) (dat D_X12_comes 99 rfl) rfl rfl (le45 rfl) (le45 rfl) rfl (fun _ => ?_) nlt0
                refine AW.aload_n (n := 179) (dat D_X12_comes 100 rfl) rfl rfl ?_
                refine AW.aload_n (n := 180) (dat D_X12_comes 101 rfl) rfl rfl ?_
                refine AW.getI (n := 183) fX12_28 wF_X12_354 ly_57 (le45 rfl) rfl rfl (dat D_X12_comes 102 rfl) rfl ?_
                refine AW.putI (n := 186) fX12_27 wF_X12_49 ly_57 (le45 rfl) rfl rfl rfl (dat D_X12_comes 103 rfl) rfl ?_
                refine AW.ltS h (fun σ24 h => ?_)
                refine AW.aload_n (n := 187) (dat D_X12_comes 104 rfl) rfl rfl ?_
                refine AW.dup (n := 188) (dat D_X12_comes 105 rfl) rfl (cR _) ?_
                refine AW.getI (n := 191) fX12_28 wF_X12_354 ly_57 (le45 rfl) rfl rfl (dat D_X12_comes 106 rfl) rfl ?_
                refine AW.iconst (n := 192) (dat D_X12_comes 107 rfl) rfl ?_
                refine AW.iadd (n := 193) (dat D_X12_comes 108 rfl) rfl ?_
                refine AW.putI (n := 196) fX12_28 wF_X12_354 ly_57 (le45 rfl) rfl rfl rfl (dat D_X12_comes 109 rfl) rfl ?_
                refine AW.ltS h (fun σ25 h => ?_)
                refine AW.aload_n (n := 197) (dat D_X12_comes 110 rfl) rfl rfl ?_
                refine AW.getI (n := 200) fX12_27 wF_X12_49 ly_57 (le45 rfl) rfl rfl (dat D_X12_comes 111 rfl) rfl ?_
                cases h
                exact AW.iret rfl rfl rfl (dat D_X12_comes 112 rfl)
              · refine AW.iconst (n := 158) (dat D_X12_comes 87 rfl) rfl ?_
                cases h
                exact AW.iret rfl rfl rfl (dat D_X12_comes 88 rfl)
            refine AW.icmp_leH (t := 146) (n := 142) h (dat D_X12_comes 79 rfl) rfl rfl rfl rfl (fun h => ?_) (fun h => ?_)
            · refine AW.iconst (n := 147) (dat D_X12_comes 82 rfl) rfl ?_
              cases h
              exact AW.to hJ16 (lle_s rfl (lle_s rfl (lle_z)))
            · refine AW.iconst (n := 143) (dat D_X12_comes 80 rfl) rfl ?_
              refine AW.goto (t := 147) (dat D_X12_comes 81 rfl) rfl ?_
              cases h
              exact AW.to hJ16 (lle_s rfl (lle_s rfl (lle_z)))
          refine AW.to (ls'' := [some (vR 57), some (vI v10)]) ?_ (lle_s rfl (lle_s rfl (lle_z)))
          refine aw_iter (fun s : SG => AW Γ mX12_comes 8 (0, r) (85, τ) 0 0 67 [some (vR 57), some (vI v10)] [] (85, s)) (fun s y h hk12 hb12 => ?_) _ _ hi12
          obtain ⟨σ11, e12⟩ : ∃ z, z = s := ⟨_, rfl⟩
          subst e12
          show AW Γ mX12_comes 8 (0, r) (85, τ) 0 0 67 [some (vR 57), some (vI v10)] [] (85, σ11)
          have h : X12_comes_l67 n v10 σ11 = some y := h
          unfold X12_comes_l67 at h
          refine AW.aload_n (n := 68) (dat D_X12_comes 37 rfl) rfl rfl ?_
          refine AW.getR (n := 71) (t := 60) fX12_9 wF_X12_21 ly_57 (le45 rfl) rfl (dat D_X12_comes 38 rfl) rfl ?_
          refine AW.iconst (n := 72) (dat D_X12_comes 39 rfl) rfl ?_
          refine AW.ialdH h (n := 73) rfl ly_60 (le45 rfl) (dat D_X12_comes 40 rfl) rfl (fun j26 h => ?_)
          refine AW.if_leH (t := 126) (n := 76) h (dat D_X12_comes 41 rfl) rfl rfl (fun h => ?_) (fun h => ?_)
          · cases h
            have hb := hb12 _ rfl
            cases hb
            exact AW.to hR12 (lle_s rfl (lle_s rfl (lle_z)))
          · refine AW.aload_n (n := 77) (dat D_X12_comes 42 rfl) rfl rfl ?_
            refine AW.getI (n := 80) fX12_37 wF_X12_375 ly_57 (le45 rfl) rfl rfl (dat D_X12_comes 43 rfl) rfl ?_
            refine AW.if_neH (t := 126) (n := 83) h (dat D_X12_comes 44 rfl) rfl rfl (fun h => ?_) (fun h => ?_)
            · refine AW.iload_n (n := 84) (dat D_X12_comes 45 rfl) rfl rfl ?_
              refine AW.aload_n (n := 85) (dat D_X12_comes 46 rfl) rfl rfl ?_
              refine AW.getI (n := 88) fX12_26 wF_X12_340 ly_57 (le45 rfl) rfl rfl (dat D_X12_comes 47 rfl) rfl ?_
              refine AW.aload_n (n := 89) (dat D_X12_comes 48 rfl) rfl rfl ?_
              refine AW.getR (n := 92) (t := 60) fX12_9 wF_X12_21 ly_57 (le45 rfl) rfl (dat D_X12_comes 49 rfl) rfl ?_
              refine AW.iconst (n := 93) (dat D_X12_comes 50 rfl) rfl ?_
              refine AW.ialdH h (n := 94) rfl ly_60 (le45 rfl) (dat D_X12_comes 51 rfl) rfl (fun j27 h => ?_)
              refine AW.iadd (n := 95) (dat D_X12_comes 52 rfl) rfl ?_
              refine AW.icmp_leH (t := 126) (n := 98) h (dat D_X12_comes 53 rfl) rfl rfl rfl rfl (fun h => ?_) (fun h => ?_)
              · cases h
                have hb := hb12 _ rfl
                cases hb
                exact AW.to hR12 (lle_s rfl (lle_s rfl (lle_z)))
              · refine AW.aload_n (n := 99) (dat D_X12_comes 54 rfl) rfl rfl ?_
                refine AW.dup (n := 100) (dat D_X12_comes 55 rfl) rfl (cR _) ?_
                refine AW.getI (n := 103) fX12_26 wF_X12_340 ly_57 (le45 rfl) rfl rfl (dat D_X12_comes 56 rfl) rfl ?_
                refine AW.aload_n (n := 104) (dat D_X12_comes 57 rfl) rfl rfl ?_
                refine AW.getR (n := 107) (t := 60) fX12_9 wF_X12_21 ly_57 (le45 rfl) rfl (dat D_X12_comes 58 rfl) rfl ?_
                refine AW.iconst (n := 108) (dat D_X12_comes 59 rfl) rfl ?_
                refine AW.ialdH h (n := 109) rfl ly_60 (le45 rfl) (dat D_X12_comes 60 rfl) rfl (fun j28 h => ?_)
                refine AW.iadd (n := 110) (dat D_X12_comes 61 rfl) rfl ?_
                refine AW.putI (n := 113) fX12_26 wF_X12_340 ly_57 (le45 rfl) rfl rfl rfl (dat D_X12_comes 62 rfl) rfl ?_
                refine AW.ltS h (fun σ29 h => ?_)
                refine AW.aload_n (n := 114) (dat D_X12_comes 63 rfl) rfl rfl ?_
                refine AW.dup (n := 115) (dat D_X12_comes 64 rfl) rfl (cR _) ?_
                refine AW.getI (n := 118) fX12_29 wF_X12_357 ly_57 (le45 rfl) rfl rfl (dat D_X12_comes 65 rfl) rfl ?_
                refine AW.iconst (n := 119) (dat D_X12_comes 66 rfl) rfl ?_
                refine AW.iadd (n := 120) (dat D_X12_comes 67 rfl) rfl ?_
                refine AW.putI (n := 123) fX12_29 wF_X12_357 ly_57 (le45 rfl) rfl rfl rfl (dat D_X12_comes 68 rfl) rfl ?_
                refine AW.ltS h (fun σ30 h => ?_)
                refine AW.goto (t := 67) (dat D_X12_comes 69 rfl) rfl ?_
                cases h
                exact AW.to (hk12 _ rfl) (lle_s rfl (lle_s rfl (lle_z)))
            · cases h
              have hb := hb12 _ rfl
              cases hb
              exact AW.to hR12 (lle_s rfl (lle_s rfl (lle_z)))
        · refine AW.iconst (n := 56) (dat D_X12_comes 29 rfl) rfl ?_
          cases h
          exact AW.iret rfl rfl rfl (dat D_X12_comes 30 rfl)
      refine AW.icmp_neH (t := 44) (n := 40) h (dat D_X12_comes 21 rfl) rfl rfl rfl rfl (fun h => ?_) (fun h => ?_)
      · refine AW.iconst (n := 41) (dat D_X12_comes 22 rfl) rfl ?_
        refine AW.goto (t := 45) (dat D_X12_comes 23 rfl) rfl ?_
        cases h
        exact AW.to hJ6 (lle_s rfl (lle_n (lle_z)))
      · refine AW.iconst (n := 45) (dat D_X12_comes 24 rfl) rfl ?_
        cases h
        exact AW.to hJ6 (lle_s rfl (lle_n (lle_z)))
    refine AW.icmp_eqH (t := 26) (n := 22) h (dat D_X12_comes 11 rfl) rfl rfl rfl (by decide) (fun h => ?_) (fun h => ?_)
    · cases h
      exact AW.to hJ3 (lle_s rfl (lle_n (lle_z)))
    · refine AW.aload_n (n := 23) (dat D_X12_comes 12 rfl) rfl rfl ?_
      obtain ⟨σ32, hc31, h⟩ := ob_some h
      refine AW.cV (n := 26) (as := []) (st := []) (st' := []) (uc' := 0) (us' := 0) (A_X12_goesBy hΓ hc31) cf_X12_goesBy ly_57 (le45 rfl) vc_12 (le45 rfl) wM_X12_419 (le45 rfl) (le45 rfl) (dat D_X12_comes 13 rfl) rfl rfl (le45 rfl) (le45 rfl) rfl (fun _ => ?_) nlt0
      cases h
      exact AW.to hJ3 (lle_s rfl (lle_n (lle_z)))
  · refine AW.iconst (n := 13) (dat D_X12_comes 6 rfl) rfl ?_
    cases h
    exact AW.iret rfl rfl rfl (dat D_X12_comes 7 rfl)
def L_X12_noSurfer : List (Nat × Instr × Nat) := [(0, .aload_n 0, 1), (1, .iload_n 1, 1), (2, .iconst 0, 1), (3, .aload_n 0, 1), (4, .invokevirtual 378, 3), (7, .iconst 1, 1), (8, .isub, 1), (9, .invokestatic 164, 3), (12, .ifCond .ne 7, 3), (15, .iconst 1, 1), (16, .goto 4, 3), (19, .iconst 0, 1), (20, .iconst 1, 1), (21, .invokevirtual 230, 3), (24, .ireturn, 1)]
theorem D_X12_noSurfer : dOK cX12_noSurfer L_X12_noSurfer = true := by decide +kernel
theorem cf_X12_noSurfer : CFV mX12_noSurfer 1 := ⟨wI_X12_noSurfer, wS_X12_noSurfer, wN_WaveRightModel, wC_X12_noSurfer, rfl, ⟨by decide +kernel, by decide +kernel, by decide +kernel⟩, le45 rfl⟩
def X12_noSurfer_j20 (n : Nat) (σ : SG) (y5 : Int) : Option (Int × SG) :=
  bnd2 (X12_throwsIf n y5 1 σ) fun v8 σ9 =>
  some ((wZ v8, σ9))
def X12_noSurfer (n : Nat) (a0 : Int) (σ : SG) : Option (Int × SG) :=
  (X12_surfers n σ).bind fun v2 =>
  (X12_in n a0 0 (v2 - 1) σ).bind fun v4 =>
  ((if w32 v4 = 0 then
    some (1)
  else
    some (0)) : Option (Int)).bind (fun s => X12_noSurfer_j20 n σ s)
set_option maxHeartbeats 4000000 in
set_option maxRecDepth 100000 in
theorem A_X12_noSurfer {Γ : GA} (hΓ : (gl Γ).stackTraces = false) {n : Nat} {a0 : Int} {σ : SG} {r : Int} {τ : SG}  (h : X12_noSurfer n a0 σ = some (r, τ)) : AM Γ mX12_noSurfer 2 0 0 [vR 57, vI a0] (85, σ) (0, r) (85, τ) := by
  refine AM.of pl_X12 rfl wC_X12_noSurfer (le45 rfl) hΓ ?_
  refine AW.to (ls'' := [some (vR 57), some (vI a0)]) ?_ (lle_s rfl (lle_s rfl (lle_z)))
  unfold X12_noSurfer at h
  refine AW.aload_n (n := 1) (dat D_X12_noSurfer 0 rfl) rfl rfl ?_
  refine AW.iload_n (n := 2) (dat D_X12_noSurfer 1 rfl) rfl rfl ?_
  refine AW.iconst (n := 3) (dat D_X12_noSurfer 2 rfl) rfl ?_
  refine AW.aload_n (n := 4) (dat D_X12_noSurfer 3 rfl) rfl rfl ?_
  obtain ⟨v2, hc1, h⟩ := ob_some h
  refine AW.cV (n := 7) (as := []) (st := [vI 0, vI a0, vR 57]) (st' := [vI v2, vI 0, vI a0, vR 57]) (uc' := 0) (us' := 0) (A_X12_surfers hΓ hc1) cf_X12_surfers ly_57 (le45 rfl) vc_12 (le45 rfl) wM_X12_378 (le45 rfl) (le45 rfl) (dat D_X12_noSurfer 4 rfl) rfl rfl (le45 rfl) (le45 rfl) rfl (fun _ => ?_) nlt0
  refine AW.iconst (n := 8) (dat D_X12_noSurfer 5 rfl) rfl ?_
  refine AW.isub (n := 9) (dat D_X12_noSurfer 6 rfl) rfl ?_
  obtain ⟨v4, hc3, h⟩ := ob_some h
  refine AW.cS (n := 12) (as := [vI a0, vI 0, vI (v2 - 1)]) (st := [vR 57]) (st' := [vI v4, vR 57]) (uc' := 0) (us' := 0) (A_X12_in hΓ hc3) cf_X12_in rfl wM_X12_164 (le45 rfl) (le45 rfl) (dat D_X12_noSurfer 7 rfl) rfl rfl (le45 rfl) (le45 rfl) rfl (fun _ => ?_) nlt0
  obtain ⟨s6, h, hq6⟩ := ob_some h
  obtain ⟨y5, e6⟩ : ∃ z, z = s6 := ⟨_, rfl⟩
  subst e6
  have hJ6 : AW Γ mX12_noSurfer 2 (0, r) (85, τ) 0 0 20 [none, none] [vI y5, vR 57] (85, σ) := by
    have h : X12_noSurfer_j20 n σ y5 = some _ := hq6
    unfold X12_noSurfer_j20 at h
    refine AW.iconst (n := 21) (dat D_X12_noSurfer 12 rfl) rfl ?_
    obtain ⟨v8, σ9, hc7, h⟩ := bnd2_some h
    refine AW.cV (n := 24) (as := [vI y5, vI 1]) (st := []) (st' := [vI v8]) (uc' := 0) (us' := 0) (A_X12_throwsIf hΓ hc7) cf_X12_throwsIf ly_57 (le45 rfl) vc_12 (le45 rfl) wM_X12_230 (le45 rfl) (le45 rfl) (dat D_X12_noSurfer 13 rfl) rfl rfl (le45 rfl) (le45 rfl) rfl (fun _ => ?_) nlt0
    cases h
    exact AW.zret rfl rfl rfl rfl (dat D_X12_noSurfer 14 rfl)
  refine AW.if_neH (t := 19) (n := 15) h (dat D_X12_noSurfer 8 rfl) rfl rfl (fun h => ?_) (fun h => ?_)
  · refine AW.iconst (n := 16) (dat D_X12_noSurfer 9 rfl) rfl ?_
    refine AW.goto (t := 20) (dat D_X12_noSurfer 10 rfl) rfl ?_
    cases h
    exact AW.to hJ6 (lle_n (lle_n (lle_z)))
  · refine AW.iconst (n := 20) (dat D_X12_noSurfer 11 rfl) rfl ?_
    cases h
    exact AW.to hJ6 (lle_n (lle_n (lle_z)))
def L_X12_wave : List (Nat × Instr × Nat) := [(0, .aload_n 0, 1), (1, .iconst 0, 1), (2, .putfield 105, 3), (5, .aload_n 0, 1), (6, .iload_n 1, 1), (7, .iconst 0, 1), (8, .aload_n 0, 1), (9, .getfield 21, 3), (12, .iconst 1, 1), (13, .iaload, 1), (14, .iconst 1, 1), (15, .isub, 1), (16, .invokestatic 164, 3), (19, .ifCond .ne 7, 3), (22, .iconst 1, 1), (23, .goto 4, 3), (26, .iconst 0, 1), (27, .iconst 1, 1), (28, .invokevirtual 230, 3), (31, .ifCond .ne 25, 3), (34, .aload_n 0, 1), (35, .iload_n 2, 1), (36, .iconst 0, 1), (37, .iconst 4, 1), (38, .invokestatic 164, 3), (41, .ifCond .ne 7, 3), (44, .iconst 1, 1), (45, .goto 4, 3), (48, .iconst 0, 1), (49, .iconst 2, 1), (50, .invokevirtual 230, 3), (53, .ifCond .eq 5, 3), (56, .iconst 0, 1), (57, .ireturn, 1), (58, .aload_n 0, 1), (59, .iload_n 1, 1), (60, .iload_n 2, 1), (61, .invokevirtual 333, 3), (64, .ireturn, 1)]
theorem D_X12_wave : dOK cX12_wave L_X12_wave = true := by decide +kernel
theorem cf_X12_wave : CFV mX12_wave 2 := ⟨wI_X12_wave, wS_X12_wave, wN_WaveRightModel, wC_X12_wave, rfl, ⟨by decide +kernel, by decide +kernel, by decide +kernel⟩, le45 rfl⟩
def X12_wave_j49 (n : Nat) (σ9 : SG) (a0 : Int) (a1 : Int) (y12 : Int) : Option (Int × SG) :=
  bnd2 (X12_throwsIf n y12 2 σ9) fun v15 σ16 =>
  if w32 v15 = 0 then
    (X12_ofWave n a0 a1 σ16).bind fun v18 =>
    some ((v18, σ16))
  else
    some ((0, σ16))
def X12_wave_j27 (n : Nat) (σ1 : SG) (a1 : Int) (a0 : Int) (y5 : Int) : Option (Int × SG) :=
  bnd2 (X12_throwsIf n y5 1 σ1) fun v8 σ9 =>
  if w32 v8 = 0 then
    (X12_in n a1 0 4 σ9).bind fun v11 =>
    ((if w32 v11 = 0 then
      some (1)
    else
      some (0)) : Option (Int)).bind (fun s => X12_wave_j49 n σ9 a0 a1 s)
  else
    some ((0, σ9))
def X12_wave (n : Nat) (a0 : Int) (a1 : Int) (σ : SG) : Option (Int × SG) :=
  lt (up σ 57 0 0) fun σ1 =>
  rdA 144 1 fun j2 =>
  (X12_in n a0 0 ((σ1 60 j2) - 1) σ1).bind fun v4 =>
  ((if w32 v4 = 0 then
    some (1)
  else
    some (0)) : Option (Int)).bind (fun s => X12_wave_j27 n σ1 a1 a0 s)
set_option maxHeartbeats 4000000 in
set_option maxRecDepth 100000 in
theorem A_X12_wave {Γ : GA} (hΓ : (gl Γ).stackTraces = false) {n : Nat} {a0 : Int} {a1 : Int} {σ : SG} {r : Int} {τ : SG}  (h : X12_wave n a0 a1 σ = some (r, τ)) : AM Γ mX12_wave 2 0 0 [vR 57, vI a0, vI a1] (85, σ) (0, r) (85, τ) := by
  refine AM.of pl_X12 rfl wC_X12_wave (le45 rfl) hΓ ?_
  refine AW.to (ls'' := [some (vR 57), some (vI a0), some (vI a1)]) ?_ (lle_s rfl (lle_s rfl (lle_s rfl (lle_z))))
  unfold X12_wave at h
  refine AW.aload_n (n := 1) (dat D_X12_wave 0 rfl) rfl rfl ?_
  refine AW.iconst (n := 2) (dat D_X12_wave 1 rfl) rfl ?_
  refine AW.putI (n := 5) fX12_0 wF_X12_105 ly_57 (le45 rfl) rfl rfl rfl (dat D_X12_wave 2 rfl) rfl ?_
  refine AW.ltS h (fun σ1 h => ?_)
  refine AW.aload_n (n := 6) (dat D_X12_wave 3 rfl) rfl rfl ?_
  refine AW.iload_n (n := 7) (dat D_X12_wave 4 rfl) rfl rfl ?_
  refine AW.iconst (n := 8) (dat D_X12_wave 5 rfl) rfl ?_
  refine AW.aload_n (n := 9) (dat D_X12_wave 6 rfl) rfl rfl ?_
  refine AW.getR (n := 12) (t := 60) fX12_9 wF_X12_21 ly_57 (le45 rfl) rfl (dat D_X12_wave 7 rfl) rfl ?_
  refine AW.iconst (n := 13) (dat D_X12_wave 8 rfl) rfl ?_
  refine AW.ialdH h (n := 14) rfl ly_60 (le45 rfl) (dat D_X12_wave 9 rfl) rfl (fun j2 h => ?_)
  refine AW.iconst (n := 15) (dat D_X12_wave 10 rfl) rfl ?_
  refine AW.isub (n := 16) (dat D_X12_wave 11 rfl) rfl ?_
  obtain ⟨v4, hc3, h⟩ := ob_some h
  refine AW.cS (n := 19) (as := [vI a0, vI 0, vI ((σ1 60 j2) - 1)]) (st := [vR 57]) (st' := [vI v4, vR 57]) (uc' := 0) (us' := 0) (A_X12_in hΓ hc3) cf_X12_in rfl wM_X12_164 (le45 rfl) (le45 rfl) (dat D_X12_wave 12 rfl) rfl rfl (le45 rfl) (le45 rfl) rfl (fun _ => ?_) nlt0
  obtain ⟨s6, h, hq6⟩ := ob_some h
  obtain ⟨y5, e6⟩ : ∃ z, z = s6 := ⟨_, rfl⟩
  subst e6
  have hJ6 : AW Γ mX12_wave 2 (0, r) (85, τ) 0 0 27 [some (vR 57), some (vI a0), some (vI a1)] [vI y5, vR 57] (85, σ1) := by
    have h : X12_wave_j27 n σ1 a1 a0 y5 = some _ := hq6
    unfold X12_wave_j27 at h
    refine AW.iconst (n := 28) (dat D_X12_wave 17 rfl) rfl ?_
    obtain ⟨v8, σ9, hc7, h⟩ := bnd2_some h
    refine AW.cV (n := 31) (as := [vI y5, vI 1]) (st := []) (st' := [vI v8]) (uc' := 0) (us' := 0) (A_X12_throwsIf hΓ hc7) cf_X12_throwsIf ly_57 (le45 rfl) vc_12 (le45 rfl) wM_X12_230 (le45 rfl) (le45 rfl) (dat D_X12_wave 18 rfl) rfl rfl (le45 rfl) (le45 rfl) rfl (fun _ => ?_) nlt0
    refine AW.if_neH (t := 56) (n := 34) h (dat D_X12_wave 19 rfl) rfl rfl (fun h => ?_) (fun h => ?_)
    · refine AW.aload_n (n := 35) (dat D_X12_wave 20 rfl) rfl rfl ?_
      refine AW.iload_n (n := 36) (dat D_X12_wave 21 rfl) rfl rfl ?_
      refine AW.iconst (n := 37) (dat D_X12_wave 22 rfl) rfl ?_
      refine AW.iconst (n := 38) (dat D_X12_wave 23 rfl) rfl ?_
      obtain ⟨v11, hc10, h⟩ := ob_some h
      refine AW.cS (n := 41) (as := [vI a1, vI 0, vI 4]) (st := [vR 57]) (st' := [vI v11, vR 57]) (uc' := 0) (us' := 0) (A_X12_in hΓ hc10) cf_X12_in rfl wM_X12_164 (le45 rfl) (le45 rfl) (dat D_X12_wave 24 rfl) rfl rfl (le45 rfl) (le45 rfl) rfl (fun _ => ?_) nlt0
      obtain ⟨s13, h, hq13⟩ := ob_some h
      obtain ⟨y12, e13⟩ : ∃ z, z = s13 := ⟨_, rfl⟩
      subst e13
      have hJ13 : AW Γ mX12_wave 2 (0, r) (85, τ) 0 0 49 [some (vR 57), some (vI a0), some (vI a1)] [vI y12, vR 57] (85, σ9) := by
        have h : X12_wave_j49 n σ9 a0 a1 y12 = some _ := hq13
        unfold X12_wave_j49 at h
        refine AW.iconst (n := 50) (dat D_X12_wave 29 rfl) rfl ?_
        obtain ⟨v15, σ16, hc14, h⟩ := bnd2_some h
        refine AW.cV (n := 53) (as := [vI y12, vI 2]) (st := []) (st' := [vI v15]) (uc' := 0) (us' := 0) (A_X12_throwsIf hΓ hc14) cf_X12_throwsIf ly_57 (le45 rfl) vc_12 (le45 rfl) wM_X12_230 (le45 rfl) (le45 rfl) (dat D_X12_wave 30 rfl) rfl rfl (le45 rfl) (le45 rfl) rfl (fun _ => ?_) nlt0
        refine AW.if_eqH (t := 58) (n := 56) h (dat D_X12_wave 31 rfl) rfl rfl (fun h => ?_) (fun h => ?_)
        · refine AW.aload_n (n := 59) (dat D_X12_wave 34 rfl) rfl rfl ?_
          refine AW.iload_n (n := 60) (dat D_X12_wave 35 rfl) rfl rfl ?_
          refine AW.iload_n (n := 61) (dat D_X12_wave 36 rfl) rfl rfl ?_
          obtain ⟨v18, hc17, h⟩ := ob_some h
          refine AW.cV (n := 64) (as := [vI a0, vI a1]) (st := []) (st' := [vI v18]) (uc' := 0) (us' := 0) (A_X12_ofWave hΓ hc17) cf_X12_ofWave ly_57 (le45 rfl) vc_12 (le45 rfl) wM_X12_333 (le45 rfl) (le45 rfl) (dat D_X12_wave 37 rfl) rfl rfl (le45 rfl) (le45 rfl) rfl (fun _ => ?_) nlt0
          cases h
          exact AW.iret rfl rfl rfl (dat D_X12_wave 38 rfl)
        · refine AW.iconst (n := 57) (dat D_X12_wave 32 rfl) rfl ?_
          cases h
          exact AW.iret rfl rfl rfl (dat D_X12_wave 33 rfl)
      refine AW.if_neH (t := 48) (n := 44) h (dat D_X12_wave 25 rfl) rfl rfl (fun h => ?_) (fun h => ?_)
      · refine AW.iconst (n := 45) (dat D_X12_wave 26 rfl) rfl ?_
        refine AW.goto (t := 49) (dat D_X12_wave 27 rfl) rfl ?_
        cases h
        exact AW.to hJ13 (lle_s rfl (lle_s rfl (lle_s rfl (lle_z))))
      · refine AW.iconst (n := 49) (dat D_X12_wave 28 rfl) rfl ?_
        cases h
        exact AW.to hJ13 (lle_s rfl (lle_s rfl (lle_s rfl (lle_z))))
    · refine AW.iconst (n := 57) (dat D_X12_wave 32 rfl) rfl ?_
      cases h
      exact AW.iret rfl rfl rfl (dat D_X12_wave 33 rfl)
  refine AW.if_neH (t := 26) (n := 22) h (dat D_X12_wave 13 rfl) rfl rfl (fun h => ?_) (fun h => ?_)
  · refine AW.iconst (n := 23) (dat D_X12_wave 14 rfl) rfl ?_
    refine AW.goto (t := 27) (dat D_X12_wave 15 rfl) rfl ?_
    cases h
    exact AW.to hJ6 (lle_s rfl (lle_s rfl (lle_s rfl (lle_z))))
  · refine AW.iconst (n := 27) (dat D_X12_wave 16 rfl) rfl ?_
    cases h
    exact AW.to hJ6 (lle_s rfl (lle_s rfl (lle_s rfl (lle_z))))
def L_X12_totalOf : List (Nat × Instr × Nat) := [(0, .aload_n 0, 1), (1, .iload_n 1, 1), (2, .iconst 0, 1), (3, .invokevirtual 343, 3), (6, .aload_n 0, 1), (7, .getfield 65, 3), (10, .iload_n 1, 1), (11, .iaload, 1), (12, .ifCond .le 7, 3), (15, .iconst 0, 1), (16, .goto 9, 3), (19, .aload_n 0, 1), (20, .iload_n 1, 1), (21, .iconst 1, 1), (22, .invokevirtual 343, 3), (25, .iadd, 1), (26, .ireturn, 1)]
theorem D_X12_totalOf : dOK cX12_totalOf L_X12_totalOf = true := by decide +kernel
theorem cf_X12_totalOf : CFV mX12_totalOf 1 := ⟨wI_X12_totalOf, wS_X12_totalOf, wN_WaveRightModel, wC_X12_totalOf, rfl, ⟨by decide +kernel, by decide +kernel, by decide +kernel⟩, le45 rfl⟩
def X12_totalOf (n : Nat) (a0 : Int) (σ : SG) : Option (Int) :=
  (X12_bestOf n a0 0 σ).bind fun v2 =>
  rdA 5 a0 fun j3 =>
  if w32 (σ 71 j3) ≤ 0 then
    (X12_bestOf n a0 1 σ).bind fun v5 =>
    some ((v2 + v5))
  else
    some ((v2 + 0))
set_option maxHeartbeats 4000000 in
set_option maxRecDepth 100000 in
theorem A_X12_totalOf {Γ : GA} (hΓ : (gl Γ).stackTraces = false) {n : Nat} {a0 : Int} {σ : SG} {r : Int}  (h : X12_totalOf n a0 σ = some r) : AM Γ mX12_totalOf 3 0 0 [vR 57, vI a0] (85, σ) (0, r) (85, σ) := by
  refine AM.of pl_X12 rfl wC_X12_totalOf (le45 rfl) hΓ ?_
  refine AW.to (ls'' := [some (vR 57), some (vI a0)]) ?_ (lle_s rfl (lle_s rfl (lle_z)))
  unfold X12_totalOf at h
  refine AW.aload_n (n := 1) (dat D_X12_totalOf 0 rfl) rfl rfl ?_
  refine AW.iload_n (n := 2) (dat D_X12_totalOf 1 rfl) rfl rfl ?_
  refine AW.iconst (n := 3) (dat D_X12_totalOf 2 rfl) rfl ?_
  obtain ⟨v2, hc1, h⟩ := ob_some h
  refine AW.cV (n := 6) (as := [vI a0, vI 0]) (st := []) (st' := [vI v2]) (uc' := 0) (us' := 0) (A_X12_bestOf hΓ hc1) cf_X12_bestOf ly_57 (le45 rfl) vc_12 (le45 rfl) wM_X12_343 (le45 rfl) (le45 rfl) (dat D_X12_totalOf 3 rfl) rfl rfl (le45 rfl) (le45 rfl) rfl (fun _ => ?_) nlt0
  refine AW.aload_n (n := 7) (dat D_X12_totalOf 4 rfl) rfl rfl ?_
  refine AW.getR (n := 10) (t := 71) fX12_41 wF_X12_65 ly_57 (le45 rfl) rfl (dat D_X12_totalOf 5 rfl) rfl ?_
  refine AW.iload_n (n := 11) (dat D_X12_totalOf 6 rfl) rfl rfl ?_
  refine AW.ialdH h (n := 12) rfl ly_71 (le45 rfl) (dat D_X12_totalOf 7 rfl) rfl (fun j3 h => ?_)
  refine AW.if_leH (t := 19) (n := 15) h (dat D_X12_totalOf 8 rfl) rfl rfl (fun h => ?_) (fun h => ?_)
  · refine AW.aload_n (n := 20) (dat D_X12_totalOf 11 rfl) rfl rfl ?_
    refine AW.iload_n (n := 21) (dat D_X12_totalOf 12 rfl) rfl rfl ?_
    refine AW.iconst (n := 22) (dat D_X12_totalOf 13 rfl) rfl ?_
    obtain ⟨v5, hc4, h⟩ := ob_some h
    refine AW.cV (n := 25) (as := [vI a0, vI 1]) (st := [vI v2]) (st' := [vI v5, vI v2]) (uc' := 0) (us' := 0) (A_X12_bestOf hΓ hc4) cf_X12_bestOf ly_57 (le45 rfl) vc_12 (le45 rfl) wM_X12_343 (le45 rfl) (le45 rfl) (dat D_X12_totalOf 14 rfl) rfl rfl (le45 rfl) (le45 rfl) rfl (fun _ => ?_) nlt0
    refine AW.iadd (n := 26) (dat D_X12_totalOf 15 rfl) rfl ?_
    cases h
    exact AW.iret rfl rfl rfl (dat D_X12_totalOf 16 rfl)
  · refine AW.iconst (n := 16) (dat D_X12_totalOf 9 rfl) rfl ?_
    refine AW.goto (t := 25) (dat D_X12_totalOf 10 rfl) rfl ?_
    refine AW.iadd (n := 26) (dat D_X12_totalOf 15 rfl) rfl ?_
    cases h
    exact AW.iret rfl rfl rfl (dat D_X12_totalOf 16 rfl)
def L_X12_rankOf : List (Nat × Instr × Nat) := [(0, .iconst 0, 1), (1, .istore 4, 2), (3, .iconst 0, 1), (4, .istore 5, 2), (6, .iload 5, 2), (8, .aload_n 0, 1), (9, .invokevirtual 378, 3), (12, .if_icmp .ge 75, 3), (15, .iload 5, 2), (17, .iload_n 1, 1), (18, .if_icmp .ne 6, 3), (21, .goto 60, 3), (24, .aload_n 0, 1), (25, .iload 5, 2), (27, .invokevirtual 429, 3), (30, .iload_n 2, 1), (31, .isub, 1), (32, .istore 6, 2), (34, .aload_n 0, 1), (35, .iload 5, 2), (37, .iconst 0, 1), (38, .invokevirtual 343, 3), (41, .iload_n 3, 1), (42, .isub, 1), (43, .istore 7, 2), (45, .iload 4, 2), (47, .iload 6, 2), (49, .ifCond .gt 24, 3), (52, .iload 6, 2), (54, .ifCond .ne 23, 3), (57, .iload 7, 2), (59, .ifCond .gt 14, 3), (62, .iload 7, 2), (64, .ifCond .ne 13, 3), (67, .iload 5, 2), (69, .iload_n 1, 1), (70, .if_icmp .ge 7, 3), (73, .iconst 1, 1), (74, .goto 4, 3), (77, .iconst 0, 1), (78, .iadd, 1), (79, .istore 4, 2), (81, .iinc 5 1, 3), (84, .goto (-78), 3), (87, .iload 4, 2), (89, .ireturn, 1)]
theorem D_X12_rankOf : dOK cX12_rankOf L_X12_rankOf = true := by decide +kernel
theorem cf_X12_rankOf : CFV mX12_rankOf 3 := ⟨wI_X12_rankOf, wS_X12_rankOf, wN_WaveRightModel, wC_X12_rankOf, rfl, ⟨by decide +kernel, by decide +kernel, by decide +kernel⟩, le45 rfl⟩
def X12_rankOf_e6 (n : Nat) (e4 : Int) : Option (Int) :=
  some (e4)
def X12_rankOf_j81 (n : Nat) (z2 : Int) (y7 : Int) : Option ((Int × Int) ⊕ (Int)) :=
  lt (z2 + 1) fun x9 =>
  some (.inl (y7, x9))
def X12_rankOf_j78 (n : Nat) (z1 : Int) (y16 : Int) : Option (Int) :=
  lt (z1 + y16) fun x18 =>
  some (x18)
def X12_rankOf_l6 (n : Nat) (σ : SG) (a0 : Int) (a1 : Int) (a2 : Int) (z1 : Int) (z2 : Int) : Option ((Int × Int) ⊕ (Int)) :=
  (X12_surfers n σ).bind fun v6 =>
  if w32 v6 ≤ w32 z2 then
    some (.inr z1)
  else
    ((if w32 z2 = w32 a0 then
      some (z1)
    else
      (X12_totalOf n z2 σ).bind fun v11 =>
      lt (v11 - a1) fun x12 =>
      (X12_bestOf n z2 0 σ).bind fun v14 =>
      lt (v14 - a2) fun x15 =>
      ((if 0 < w32 x12 then
        some (1)
      else
        if w32 x12 = 0 then
          if 0 < w32 x15 then
            some (1)
          else
            if w32 x15 = 0 then
              if w32 a0 ≤ w32 z2 then
                some (0)
              else
                some (1)
            else
              some (0)
        else
          some (0)) : Option (Int)).bind (fun s => X12_rankOf_j78 n z1 s)) : Option (Int)).bind (fun s => X12_rankOf_j81 n z2 s)
def X12_rankOf (n : Nat) (a0 : Int) (a1 : Int) (a2 : Int) (σ : SG) : Option (Int) :=
  ((iter n (fun s : Int × Int => X12_rankOf_l6 n σ a0 a1 a2 s.1 s.2) (0, 0)) : Option (Int)).bind (fun s => X12_rankOf_e6 n s)
set_option maxHeartbeats 4000000 in
set_option maxRecDepth 100000 in
theorem A_X12_rankOf {Γ : GA} (hΓ : (gl Γ).stackTraces = false) {n : Nat} {a0 : Int} {a1 : Int} {a2 : Int} {σ : SG} {r : Int}  (h : X12_rankOf n a0 a1 a2 σ = some r) : AM Γ mX12_rankOf 4 0 0 [vR 57, vI a0, vI a1, vI a2] (85, σ) (0, r) (85, σ) := by
  refine AM.of pl_X12 rfl wC_X12_rankOf (le45 rfl) hΓ ?_
  refine AW.to (ls'' := [some (vR 57), some (vI a0), some (vI a1), some (vI a2), none, none, none, none]) ?_ (lle_s rfl (lle_s rfl (lle_s rfl (lle_s rfl (lle_e (lle_e (lle_e (lle_e (lle_z)))))))))
  unfold X12_rankOf at h
  refine AW.iconst (n := 1) (dat D_X12_rankOf 0 rfl) rfl ?_
  refine AW.istore (n := 3) (ls' := [some (vR 57), some (vI a0), some (vI a1), some (vI a2), some (vI 0), none, none, none]) (dat D_X12_rankOf 1 rfl) rfl (le45 rfl) (le45 rfl) rfl rfl ?_
  refine AW.iconst (n := 4) (dat D_X12_rankOf 2 rfl) rfl ?_
  refine AW.istore (n := 6) (ls' := [some (vR 57), some (vI a0), some (vI a1), some (vI a2), some (vI 0), some (vI 0), none, none]) (dat D_X12_rankOf 3 rfl) rfl (le45 rfl) (le45 rfl) rfl rfl ?_
  obtain ⟨b3, hi3, hq3⟩ := ob_some h
  obtain ⟨e4, e3⟩ : ∃ z, z = b3 := ⟨_, rfl⟩
  subst e3
  have hR3 : AW Γ mX12_rankOf 4 (0, r) (85, σ) 0 0 87 [none, none, none, none, some (vI e4), none, none, none] [] (85, σ) := by
    have h : X12_rankOf_e6 n e4 = some _ := hq3
    unfold X12_rankOf_e6 at h
    refine AW.iload (n := 89) (dat D_X12_rankOf 44 rfl) rfl rfl ?_
    cases h
    exact AW.iret rfl rfl rfl (dat D_X12_rankOf 45 rfl)
  refine AW.to (ls'' := [some (vR 57), some (vI a0), some (vI a1), some (vI a2), some (vI 0), some (vI 0), none, none]) ?_ (lle_s rfl (lle_s rfl (lle_s rfl (lle_s rfl (lle_s rfl (lle_s rfl (lle_n (lle_n (lle_z)))))))))
  refine aw_iter (fun s : Int × Int => AW Γ mX12_rankOf 4 (0, r) (85, σ) 0 0 6 [some (vR 57), some (vI a0), some (vI a1), some (vI a2), some (vI (s.1)), some (vI (s.2)), none, none] [] (85, σ)) (fun s y h hk3 hb3 => ?_) _ _ hi3
  obtain ⟨z1, z2⟩ := s
  show AW Γ mX12_rankOf 4 (0, r) (85, σ) 0 0 6 [some (vR 57), some (vI a0), some (vI a1), some (vI a2), some (vI z1), some (vI z2), none, none] [] (85, σ)
  have h : X12_rankOf_l6 n σ a0 a1 a2 z1 z2 = some y := h
  unfold X12_rankOf_l6 at h
  refine AW.iload (n := 8) (dat D_X12_rankOf 4 rfl) rfl rfl ?_
  refine AW.aload_n (n := 9) (dat D_X12_rankOf 5 rfl) rfl rfl ?_
  obtain ⟨v6, hc5, h⟩ := ob_some h
  refine AW.cV (n := 12) (as := []) (st := [vI z2]) (st' := [vI v6, vI z2]) (uc' := 0) (us' := 0) (A_X12_surfers hΓ hc5) cf_X12_surfers ly_57 (le45 rfl) vc_12 (le45 rfl) wM_X12_378 (le45 rfl) (le45 rfl) (dat D_X12_rankOf 6 rfl) rfl rfl (le45 rfl) (le45 rfl) rfl (fun _ => ?_) nlt0
  refine AW.icmp_geH (t := 87) (n := 15) h (dat D_X12_rankOf 7 rfl) rfl rfl rfl rfl (fun h => ?_) (fun h => ?_)
  · cases h
    have hb := hb3 _ rfl
    cases hb
    exact AW.to hR3 (lle_n (lle_n (lle_n (lle_n (lle_s rfl (lle_n (lle_n (lle_n (lle_z)))))))))
  · refine AW.iload (n := 17) (dat D_X12_rankOf 8 rfl) rfl rfl ?_
    refine AW.iload_n (n := 18) (dat D_X12_rankOf 9 rfl) rfl rfl ?_
    obtain ⟨s8, h, hq8⟩ := ob_some h
    obtain ⟨y7, e8⟩ : ∃ z, z = s8 := ⟨_, rfl⟩
    subst e8
    have hJ8 : AW Γ mX12_rankOf 4 (0, r) (85, σ) 0 0 81 [some (vR 57), some (vI a0), some (vI a1), some (vI a2), some (vI y7), some (vI z2), none, none] [] (85, σ) := by
      have h : X12_rankOf_j81 n z2 y7 = some _ := hq8
      unfold X12_rankOf_j81 at h
      refine AW.iincH h (n := 84) (dat D_X12_rankOf 42 rfl) rfl rfl (le45 rfl) rfl (fun x9 h => ?_)
      refine AW.lq (ls' := [some (vR 57), some (vI a0), some (vI a1), some (vI a2), some (vI y7), some (vI x9), none, none]) rfl ?_
      refine AW.goto (t := 6) (dat D_X12_rankOf 43 rfl) rfl ?_
      cases h
      exact AW.to (hk3 _ rfl) (lle_s rfl (lle_s rfl (lle_s rfl (lle_s rfl (lle_s rfl (lle_s rfl (lle_n (lle_n (lle_z)))))))))
    refine AW.icmp_neH (t := 24) (n := 21) h (dat D_X12_rankOf 10 rfl) rfl rfl rfl rfl (fun h => ?_) (fun h => ?_)
    · refine AW.goto (t := 81) (dat D_X12_rankOf 11 rfl) rfl ?_
      cases h
      exact AW.to hJ8 (lle_s rfl (lle_s rfl (lle_s rfl (lle_s rfl (lle_s rfl (lle_s rfl (lle_n (lle_n (lle_z)))))))))
    · refine AW.aload_n (n := 25) (dat D_X12_rankOf 12 rfl) rfl rfl ?_
      refine AW.iload (n := 27) (dat D_X12_rankOf 13 rfl) rfl rfl ?_
      obtain ⟨v11, hc10, h⟩ := ob_some h
      refine AW.cV (n := 30) (as := [vI z2]) (st := []) (st' := [vI v11]) (uc' := 0) (us' := 0) (A_X12_totalOf hΓ hc10) cf_X12_totalOf ly_57 (le45 rfl) vc_12 (le45 rfl) wM_X12_429 (le45 rfl) (le45 rfl) (dat D_X12_rankOf 14 rfl) rfl rfl (le45 rfl) (le45 rfl) rfl (fun _ => ?_) nlt0
      refine AW.iload_n (n := 31) (dat D_X12_rankOf 15 rfl) rfl rfl ?_
      refine AW.isub (n := 32) (dat D_X12_rankOf 16 rfl) rfl ?_
      refine AW.ltI h (fun x12 h => ?_)
      refine AW.istore (n := 34) (ls' := [some (vR 57), some (vI a0), some (vI a1), some (vI a2), some (vI z1), some (vI z2), some (vI x12), none]) (dat D_X12_rankOf 17 rfl) rfl (le45 rfl) (le45 rfl) rfl rfl ?_
      refine AW.aload_n (n := 35) (dat D_X12_rankOf 18 rfl) rfl rfl ?_
      refine AW.iload (n := 37) (dat D_X12_rankOf 19 rfl) rfl rfl ?_
      refine AW.iconst (n := 38) (dat D_X12_rankOf 20 rfl) rfl ?_
      obtain ⟨v14, hc13, h⟩ := ob_some h
      refine AW.cV (n := 41) (as := [vI z2, vI 0]) (st := []) (st' := [vI v14]) (uc' := 0) (us' := 0) (A_X12_bestOf hΓ hc13) cf_X12_bestOf ly_57 (le45 rfl) vc_12 (le45 rfl) wM_X12_343 (le45 rfl) (le45 rfl) (dat D_X12_rankOf 21 rfl) rfl rfl (le45 rfl) (le45 rfl) rfl (fun _ => ?_) nlt0
      refine AW.iload_n (n := 42) (dat D_X12_rankOf 22 rfl) rfl rfl ?_
      refine AW.isub (n := 43) (dat D_X12_rankOf 23 rfl) rfl ?_
      refine AW.ltI h (fun x15 h => ?_)
      refine AW.istore (n := 45) (ls' := [some (vR 57), some (vI a0), some (vI a1), some (vI a2), some (vI z1), some (vI z2), some (vI x12), some (vI x15)]) (dat D_X12_rankOf 24 rfl) rfl (le45 rfl) (le45 rfl) rfl rfl ?_
      refine AW.iload (n := 47) (dat D_X12_rankOf 25 rfl) rfl rfl ?_
      refine AW.iload (n := 49) (dat D_X12_rankOf 26 rfl) rfl rfl ?_
      obtain ⟨s17, h, hq17⟩ := ob_some h
      obtain ⟨y16, e17⟩ : ∃ z, z = s17 := ⟨_, rfl⟩
      subst e17
      have hJ17 : AW Γ mX12_rankOf 4 (0, r) (85, σ) 0 0 78 [some (vR 57), some (vI a0), some (vI a1), some (vI a2), none, some (vI z2), none, none] [vI y16, vI z1] (85, σ) := by
        have h : X12_rankOf_j78 n z1 y16 = some _ := hq17
        unfold X12_rankOf_j78 at h
        refine AW.iadd (n := 79) (dat D_X12_rankOf 40 rfl) rfl ?_
        refine AW.ltI h (fun x18 h => ?_)
        refine AW.istore (n := 81) (ls' := [some (vR 57), some (vI a0), some (vI a1), some (vI a2), some (vI x18), some (vI z2), none, none]) (dat D_X12_rankOf 41 rfl) rfl (le45 rfl) (le45 rfl) rfl rfl ?_
        cases h
        exact AW.to hJ8 (lle_s rfl (lle_s rfl (lle_s rfl (lle_s rfl (lle_s rfl (lle_s rfl (lle_n (lle_n (lle_z)))))))))
      refine AW.if_gtH (t := 73) (n := 52) h (dat D_X12_rankOf 27 rfl) rfl rfl (fun h => ?_) (fun h => ?_)
      · refine AW.iconst (n := 74) (dat D_X12_rankOf 37 rfl) rfl ?_
        refine AW.goto (t := 78) (dat D_X12_rankOf 38 rfl) rfl ?_
        cases h
        exact AW.to hJ17 (lle_s rfl (lle_s rfl (lle_s rfl (lle_s rfl (lle_n (lle_s rfl (lle_n (lle_n (lle_z)))))))))
      · refine AW.iload (n := 54) (dat D_X12_rankOf 28 rfl) rfl rfl ?_
        refine AW.if_neH (t := 77) (n := 57) h (dat D_X12_rankOf 29 rfl) rfl rfl (fun h => ?_) (fun h => ?_)
        · refine AW.iload (n := 59) (dat D_X12_rankOf 30 rfl) rfl rfl ?_
          refine AW.if_gtH (t := 73) (n := 62) h (dat D_X12_rankOf 31 rfl) rfl rfl (fun h => ?_) (fun h => ?_)
          · refine AW.iconst (n := 74) (dat D_X12_rankOf 37 rfl) rfl ?_
            refine AW.goto (t := 78) (dat D_X12_rankOf 38 rfl) rfl ?_
            cases h
            exact AW.to hJ17 (lle_s rfl (lle_s rfl (lle_s rfl (lle_s rfl (lle_n (lle_s rfl (lle_n (lle_n (lle_z)))))))))
          · refine AW.iload (n := 64) (dat D_X12_rankOf 32 rfl) rfl rfl ?_
            refine AW.if_neH (t := 77) (n := 67) h (dat D_X12_rankOf 33 rfl) rfl rfl (fun h => ?_) (fun h => ?_)
            · refine AW.iload (n := 69) (dat D_X12_rankOf 34 rfl) rfl rfl ?_
              refine AW.iload_n (n := 70) (dat D_X12_rankOf 35 rfl) rfl rfl ?_
              refine AW.icmp_geH (t := 77) (n := 73) h (dat D_X12_rankOf 36 rfl) rfl rfl rfl rfl (fun h => ?_) (fun h => ?_)
              · refine AW.iconst (n := 78) (dat D_X12_rankOf 39 rfl) rfl ?_
                cases h
                exact AW.to hJ17 (lle_s rfl (lle_s rfl (lle_s rfl (lle_s rfl (lle_n (lle_s rfl (lle_n (lle_n (lle_z)))))))))
              · refine AW.iconst (n := 74) (dat D_X12_rankOf 37 rfl) rfl ?_
                refine AW.goto (t := 78) (dat D_X12_rankOf 38 rfl) rfl ?_
                cases h
                exact AW.to hJ17 (lle_s rfl (lle_s rfl (lle_s rfl (lle_s rfl (lle_n (lle_s rfl (lle_n (lle_n (lle_z)))))))))
            · refine AW.iconst (n := 78) (dat D_X12_rankOf 39 rfl) rfl ?_
              cases h
              exact AW.to hJ17 (lle_s rfl (lle_s rfl (lle_s rfl (lle_s rfl (lle_n (lle_s rfl (lle_n (lle_n (lle_z)))))))))
        · refine AW.iconst (n := 78) (dat D_X12_rankOf 39 rfl) rfl ?_
          cases h
          exact AW.to hJ17 (lle_s rfl (lle_s rfl (lle_s rfl (lle_s rfl (lle_n (lle_s rfl (lle_n (lle_n (lle_z)))))))))
def L_X12_rankNow : List (Nat × Instr × Nat) := [(0, .aload_n 0, 1), (1, .iload_n 1, 1), (2, .aload_n 0, 1), (3, .iload_n 1, 1), (4, .invokevirtual 429, 3), (7, .aload_n 0, 1), (8, .iload_n 1, 1), (9, .iconst 0, 1), (10, .invokevirtual 343, 3), (13, .invokevirtual 432, 3), (16, .ireturn, 1)]
theorem D_X12_rankNow : dOK cX12_rankNow L_X12_rankNow = true := by decide +kernel
theorem cf_X12_rankNow : CFV mX12_rankNow 1 := ⟨wI_X12_rankNow, wS_X12_rankNow, wN_WaveRightModel, wC_X12_rankNow, rfl, ⟨by decide +kernel, by decide +kernel, by decide +kernel⟩, le45 rfl⟩
def X12_rankNow (n : Nat) (a0 : Int) (σ : SG) : Option (Int) :=
  (X12_totalOf n a0 σ).bind fun v2 =>
  (X12_bestOf n a0 0 σ).bind fun v4 =>
  (X12_rankOf n a0 v2 v4 σ).bind fun v6 =>
  some (v6)
set_option maxHeartbeats 4000000 in
set_option maxRecDepth 100000 in
theorem A_X12_rankNow {Γ : GA} (hΓ : (gl Γ).stackTraces = false) {n : Nat} {a0 : Int} {σ : SG} {r : Int}  (h : X12_rankNow n a0 σ = some r) : AM Γ mX12_rankNow 5 0 0 [vR 57, vI a0] (85, σ) (0, r) (85, σ) := by
  refine AM.of pl_X12 rfl wC_X12_rankNow (le45 rfl) hΓ ?_
  refine AW.to (ls'' := [some (vR 57), some (vI a0)]) ?_ (lle_s rfl (lle_s rfl (lle_z)))
  unfold X12_rankNow at h
  refine AW.aload_n (n := 1) (dat D_X12_rankNow 0 rfl) rfl rfl ?_
  refine AW.iload_n (n := 2) (dat D_X12_rankNow 1 rfl) rfl rfl ?_
  refine AW.aload_n (n := 3) (dat D_X12_rankNow 2 rfl) rfl rfl ?_
  refine AW.iload_n (n := 4) (dat D_X12_rankNow 3 rfl) rfl rfl ?_
  obtain ⟨v2, hc1, h⟩ := ob_some h
  refine AW.cV (n := 7) (as := [vI a0]) (st := [vI a0, vR 57]) (st' := [vI v2, vI a0, vR 57]) (uc' := 0) (us' := 0) (A_X12_totalOf hΓ hc1) cf_X12_totalOf ly_57 (le45 rfl) vc_12 (le45 rfl) wM_X12_429 (le45 rfl) (le45 rfl) (dat D_X12_rankNow 4 rfl) rfl rfl (le45 rfl) (le45 rfl) rfl (fun _ => ?_) nlt0
  refine AW.aload_n (n := 8) (dat D_X12_rankNow 5 rfl) rfl rfl ?_
  refine AW.iload_n (n := 9) (dat D_X12_rankNow 6 rfl) rfl rfl ?_
  refine AW.iconst (n := 10) (dat D_X12_rankNow 7 rfl) rfl ?_
  obtain ⟨v4, hc3, h⟩ := ob_some h
  refine AW.cV (n := 13) (as := [vI a0, vI 0]) (st := [vI v2, vI a0, vR 57]) (st' := [vI v4, vI v2, vI a0, vR 57]) (uc' := 0) (us' := 0) (A_X12_bestOf hΓ hc3) cf_X12_bestOf ly_57 (le45 rfl) vc_12 (le45 rfl) wM_X12_343 (le45 rfl) (le45 rfl) (dat D_X12_rankNow 8 rfl) rfl rfl (le45 rfl) (le45 rfl) rfl (fun _ => ?_) nlt0
  obtain ⟨v6, hc5, h⟩ := ob_some h
  refine AW.cV (n := 16) (as := [vI a0, vI v2, vI v4]) (st := []) (st' := [vI v6]) (uc' := 0) (us' := 0) (A_X12_rankOf hΓ hc5) cf_X12_rankOf ly_57 (le45 rfl) vc_12 (le45 rfl) wM_X12_432 (le45 rfl) (le45 rfl) (dat D_X12_rankNow 9 rfl) rfl rfl (le45 rfl) (le45 rfl) rfl (fun _ => ?_) nlt0
  cases h
  exact AW.iret rfl rfl rfl (dat D_X12_rankNow 10 rfl)
def L_X12_surfer : List (Nat × Instr × Nat) := [(0, .aload_n 0, 1), (1, .iconst 0, 1), (2, .putfield 105, 3), (5, .aload_n 0, 1), (6, .iload_n 1, 1), (7, .invokevirtual 435, 3), (10, .ifCond .ne 26, 3), (13, .aload_n 0, 1), (14, .iload_n 2, 1), (15, .iconst 0, 1), (16, .bipush 10, 2), (18, .invokestatic 164, 3), (21, .ifCond .ne 7, 3), (24, .iconst 1, 1), (25, .goto 4, 3), (28, .iconst 0, 1), (29, .iconst 2, 1), (30, .invokevirtual 230, 3), (33, .ifCond .eq 5, 3), (36, .iconst 0, 1), (37, .ireturn, 1), (38, .iload_n 2, 1), (39, .tableswitch 121 0 8 #[49, 56, 66, 81, 88, 95, 102, 109, 115], 49), (88, .aload_n 0, 1), (89, .getfield 56, 3), (92, .iload_n 1, 1), (93, .iaload, 1), (94, .ireturn, 1), (95, .aload_n 0, 1), (96, .getfield 21, 3), (99, .bipush 39, 2), (101, .iload_n 1, 1), (102, .iadd, 1), (103, .iaload, 1), (104, .ireturn, 1), (105, .aload_n 0, 1), (106, .getfield 86, 3), (109, .iload_n 1, 1), (110, .baload, 1), (111, .ifCond .eq 7, 3), (114, .iconst 1, 1), (115, .goto 4, 3), (118, .iconst 0, 1), (119, .ireturn, 1), (120, .aload_n 0, 1), (121, .getfield 59, 3), (124, .iload_n 1, 1), (125, .iaload, 1), (126, .ireturn, 1), (127, .aload_n 0, 1), (128, .getfield 62, 3), (131, .iload_n 1, 1), (132, .iaload, 1), (133, .ireturn, 1), (134, .aload_n 0, 1), (135, .getfield 65, 3), (138, .iload_n 1, 1), (139, .iaload, 1), (140, .ireturn, 1), (141, .aload_n 0, 1), (142, .getfield 68, 3), (145, .iload_n 1, 1), (146, .iaload, 1), (147, .ireturn, 1), (148, .aload_n 0, 1), (149, .iload_n 1, 1), (150, .invokevirtual 429, 3), (153, .ireturn, 1), (154, .aload_n 0, 1), (155, .iload_n 1, 1), (156, .invokevirtual 438, 3), (159, .ireturn, 1), (160, .aload_n 0, 1), (161, .iload_n 1, 1), (162, .iload_n 2, 1), (163, .bipush 9, 2), (165, .isub, 1), (166, .invokevirtual 343, 3), (169, .ireturn, 1)]
theorem D_X12_surfer : dOK cX12_surfer L_X12_surfer = true := by decide +kernel
theorem cf_X12_surfer : CFV mX12_surfer 2 := ⟨wI_X12_surfer, wS_X12_surfer, wN_WaveRightModel, wC_X12_surfer, rfl, ⟨by decide +kernel, by decide +kernel, by decide +kernel⟩, le45 rfl⟩
def X12_surfer_j29 (n : Nat) (σ4 : SG) (a1 : Int) (a0 : Int) (y7 : Int) : Option (Int × SG) :=
  bnd2 (X12_throwsIf n y7 2 σ4) fun v10 σ11 =>
  if w32 v10 = 0 then
    if w32 a1 = 0 then
      rdA 5 a0 fun j12 =>
      some (((σ11 68 j12), σ11))
    else if w32 a1 = 1 then
      rdA 144 (39 + a0) fun j14 =>
      some (((σ11 60 j14), σ11))
    else if w32 a1 = 2 then
      rdA 5 a0 fun j16 =>
      if w32 (σ11 78 j16) = 0 then
        some ((0, σ11))
      else
        some ((1, σ11))
    else if w32 a1 = 3 then
      rdA 5 a0 fun j18 =>
      some (((σ11 69 j18), σ11))
    else if w32 a1 = 4 then
      rdA 5 a0 fun j20 =>
      some (((σ11 70 j20), σ11))
    else if w32 a1 = 5 then
      rdA 5 a0 fun j22 =>
      some (((σ11 71 j22), σ11))
    else if w32 a1 = 6 then
      rdA 5 a0 fun j24 =>
      some (((σ11 72 j24), σ11))
    else if w32 a1 = 7 then
      (X12_totalOf n a0 σ11).bind fun v27 =>
      some ((v27, σ11))
    else if w32 a1 = 8 then
      (X12_rankNow n a0 σ11).bind fun v30 =>
      some ((v30, σ11))
    else 
      (X12_bestOf n a0 (a1 - 9) σ11).bind fun v33 =>
      some ((v33, σ11))
  else
    some ((0, σ11))
def X12_surfer (n : Nat) (a0 : Int) (a1 : Int) (σ : SG) : Option (Int × SG) :=
  lt (up σ 57 0 0) fun σ1 =>
  bnd2 (X12_noSurfer n a0 σ1) fun v3 σ4 =>
  if w32 v3 = 0 then
    (X12_in n a1 0 10 σ4).bind fun v6 =>
    ((if w32 v6 = 0 then
      some (1)
    else
      some (0)) : Option (Int)).bind (fun s => X12_surfer_j29 n σ4 a1 a0 s)
  else
    some ((0, σ4))
set_option maxHeartbeats 4000000 in
set_option maxRecDepth 100000 in
theorem A_X12_surfer {Γ : GA} (hΓ : (gl Γ).stackTraces = false) {n : Nat} {a0 : Int} {a1 : Int} {σ : SG} {r : Int} {τ : SG}  (h : X12_surfer n a0 a1 σ = some (r, τ)) : AM Γ mX12_surfer 6 0 0 [vR 57, vI a0, vI a1] (85, σ) (0, r) (85, τ) := by
  refine AM.of pl_X12 rfl wC_X12_surfer (le45 rfl) hΓ ?_
  refine AW.to (ls'' := [some (vR 57), some (vI a0), some (vI a1)]) ?_ (lle_s rfl (lle_s rfl (lle_s rfl (lle_z))))
  unfold X12_surfer at h
  refine AW.aload_n (n := 1) (dat D_X12_surfer 0 rfl) rfl rfl ?_
  refine AW.iconst (n := 2) (dat D_X12_surfer 1 rfl) rfl ?_
  refine AW.putI (n := 5) fX12_0 wF_X12_105 ly_57 (le45 rfl) rfl rfl rfl (dat D_X12_surfer 2 rfl) rfl ?_
  refine AW.ltS h (fun σ1 h => ?_)
  refine AW.aload_n (n := 6) (dat D_X12_surfer 3 rfl) rfl rfl ?_
  refine AW.iload_n (n := 7) (dat D_X12_surfer 4 rfl) rfl rfl ?_
  obtain ⟨v3, σ4, hc2, h⟩ := bnd2_some h
  refine AW.cV (n := 10) (as := [vI a0]) (st := []) (st' := [vI v3]) (uc' := 0) (us' := 0) (A_X12_noSurfer hΓ hc2) cf_X12_noSurfer ly_57 (le45 rfl) vc_12 (le45 rfl) wM_X12_435 (le45 rfl) (le45 rfl) (dat D_X12_surfer 5 rfl) rfl rfl (le45 rfl) (le45 rfl) rfl (fun _ => ?_) nlt0
  refine AW.if_neH (t := 36) (n := 13) h (dat D_X12_surfer 6 rfl) rfl rfl (fun h => ?_) (fun h => ?_)
  · refine AW.aload_n (n := 14) (dat D_X12_surfer 7 rfl) rfl rfl ?_
    refine AW.iload_n (n := 15) (dat D_X12_surfer 8 rfl) rfl rfl ?_
    refine AW.iconst (n := 16) (dat D_X12_surfer 9 rfl) rfl ?_
    refine AW.bipush (n := 18) (dat D_X12_surfer 10 rfl) rfl (by decide) ?_
    obtain ⟨v6, hc5, h⟩ := ob_some h
    refine AW.cS (n := 21) (as := [vI a1, vI 0, vI 10]) (st := [vR 57]) (st' := [vI v6, vR 57]) (uc' := 0) (us' := 0) (A_X12_in hΓ hc5) cf_X12_in rfl wM_X12_164 (le45 rfl) (le45 rfl) (dat D_X12_surfer 11 rfl) rfl rfl (le45 rfl) (le45 rfl) rfl (fun _ => ?_) nlt0
    obtain ⟨s8, h, hq8⟩ := ob_some h
    obtain ⟨y7, e8⟩ : ∃ z, z = s8 := ⟨_, rfl⟩
    subst e8
    have hJ8 : AW Γ mX12_surfer 6 (0, r) (85, τ) 0 0 29 [some (vR 57), some (vI a0), some (vI a1)] [vI y7, vR 57] (85, σ4) := by
      have h : X12_surfer_j29 n σ4 a1 a0 y7 = some _ := hq8
      unfold X12_surfer_j29 at h
      refine AW.iconst (n := 30) (dat D_X12_surfer 16 rfl) rfl ?_
      obtain ⟨v10, σ11, hc9, h⟩ := bnd2_some h
      refine AW.cV (n := 33) (as := [vI y7, vI 2]) (st := []) (st' := [vI v10]) (uc' := 0) (us' := 0) (A_X12_throwsIf hΓ hc9) cf_X12_throwsIf ly_57 (le45 rfl) vc_12 (le45 rfl) wM_X12_230 (le45 rfl) (le45 rfl) (dat D_X12_surfer 17 rfl) rfl rfl (le45 rfl) (le45 rfl) rfl (fun _ => ?_) nlt0
      refine AW.if_eqH (t := 38) (n := 36) h (dat D_X12_surfer 18 rfl) rfl rfl (fun h => ?_) (fun h => ?_)
      · refine AW.iload_n (n := 39) (dat D_X12_surfer 21 rfl) rfl rfl ?_
        by_cases q13 : w32 a1 = 0
        · have h := ite_t h q13
          refine AW.tIn (dat D_X12_surfer 22 rfl) q13 (by decide) (by decide) (t := 88) rfl rfl ?_
          refine AW.aload_n (n := 89) (dat D_X12_surfer 23 rfl) rfl rfl ?_
          refine AW.getR (n := 92) (t := 68) fX12_38 wF_X12_56 ly_57 (le45 rfl) rfl (dat D_X12_surfer 24 rfl) rfl ?_
          refine AW.iload_n (n := 93) (dat D_X12_surfer 25 rfl) rfl rfl ?_
          refine AW.ialdH h (n := 94) rfl ly_68 (le45 rfl) (dat D_X12_surfer 26 rfl) rfl (fun j12 h => ?_)
          cases h
          exact AW.iret rfl rfl rfl (dat D_X12_surfer 27 rfl)
        have h := ite_f h q13
        by_cases q15 : w32 a1 = 1
        · have h := ite_t h q15
          refine AW.tIn (dat D_X12_surfer 22 rfl) q15 (by decide) (by decide) (t := 95) rfl rfl ?_
          refine AW.aload_n (n := 96) (dat D_X12_surfer 28 rfl) rfl rfl ?_
          refine AW.getR (n := 99) (t := 60) fX12_9 wF_X12_21 ly_57 (le45 rfl) rfl (dat D_X12_surfer 29 rfl) rfl ?_
          refine AW.bipush (n := 101) (dat D_X12_surfer 30 rfl) rfl (by decide) ?_
          refine AW.iload_n (n := 102) (dat D_X12_surfer 31 rfl) rfl rfl ?_
          refine AW.iadd (n := 103) (dat D_X12_surfer 32 rfl) rfl ?_
          refine AW.ialdH h (n := 104) rfl ly_60 (le45 rfl) (dat D_X12_surfer 33 rfl) rfl (fun j14 h => ?_)
          cases h
          exact AW.iret rfl rfl rfl (dat D_X12_surfer 34 rfl)
        have h := ite_f h q15
        by_cases q17 : w32 a1 = 2
        · have h := ite_t h q17
          refine AW.tIn (dat D_X12_surfer 22 rfl) q17 (by decide) (by decide) (t := 105) rfl rfl ?_
          refine AW.aload_n (n := 106) (dat D_X12_surfer 35 rfl) rfl rfl ?_
          refine AW.getR (n := 109) (t := 78) fX12_48 wF_X12_86 ly_57 (le45 rfl) rfl (dat D_X12_surfer 36 rfl) rfl ?_
          refine AW.iload_n (n := 110) (dat D_X12_surfer 37 rfl) rfl rfl ?_
          refine AW.zaldH h (n := 111) rfl ly_78 (le45 rfl) (dat D_X12_surfer 38 rfl) rfl (fun j16 h => ?_)
          refine AW.if_eqH (t := 118) (n := 114) h (dat D_X12_surfer 39 rfl) rfl rfl (fun h => ?_) (fun h => ?_)
          · refine AW.iconst (n := 119) (dat D_X12_surfer 42 rfl) rfl ?_
            cases h
            exact AW.iret rfl rfl rfl (dat D_X12_surfer 43 rfl)
          · refine AW.iconst (n := 115) (dat D_X12_surfer 40 rfl) rfl ?_
            refine AW.goto (t := 119) (dat D_X12_surfer 41 rfl) rfl ?_
            cases h
            exact AW.iret rfl rfl rfl (dat D_X12_surfer 43 rfl)
        have h := ite_f h q17
        by_cases q19 : w32 a1 = 3
        · have h := ite_t h q19
          refine AW.tIn (dat D_X12_surfer 22 rfl) q19 (by decide) (by decide) (t := 120) rfl rfl ?_
          refine AW.aload_n (n := 121) (dat D_X12_surfer 44 rfl) rfl rfl ?_
          refine AW.getR (n := 124) (t := 69) fX12_39 wF_X12_59 ly_57 (le45 rfl) rfl (dat D_X12_surfer 45 rfl) rfl ?_
          refine AW.iload_n (n := 125) (dat D_X12_surfer 46 rfl) rfl rfl ?_
          refine AW.ialdH h (n := 126) rfl ly_69 (le45 rfl) (dat D_X12_surfer 47 rfl) rfl (fun j18 h => ?_)
          cases h
          exact AW.iret rfl rfl rfl (dat D_X12_surfer 48 rfl)
        have h := ite_f h q19
        by_cases q21 : w32 a1 = 4
        · have h := ite_t h q21
          refine AW.tIn (dat D_X12_surfer 22 rfl) q21 (by decide) (by decide) (t := 127) rfl rfl ?_
          refine AW.aload_n (n := 128) (dat D_X12_surfer 49 rfl) rfl rfl ?_
          refine AW.getR (n := 131) (t := 70) fX12_40 wF_X12_62 ly_57 (le45 rfl) rfl (dat D_X12_surfer 50 rfl) rfl ?_
          refine AW.iload_n (n := 132) (dat D_X12_surfer 51 rfl) rfl rfl ?_
          refine AW.ialdH h (n := 133) rfl ly_70 (le45 rfl) (dat D_X12_surfer 52 rfl) rfl (fun j20 h => ?_)
          cases h
          exact AW.iret rfl rfl rfl (dat D_X12_surfer 53 rfl)
        have h := ite_f h q21
        by_cases q23 : w32 a1 = 5
        · have h := ite_t h q23
          refine AW.tIn (dat D_X12_surfer 22 rfl) q23 (by decide) (by decide) (t := 134) rfl rfl ?_
          refine AW.aload_n (n := 135) (dat D_X12_surfer 54 rfl) rfl rfl ?_
          refine AW.getR (n := 138) (t := 71) fX12_41 wF_X12_65 ly_57 (le45 rfl) rfl (dat D_X12_surfer 55 rfl) rfl ?_
          refine AW.iload_n (n := 139) (dat D_X12_surfer 56 rfl) rfl rfl ?_
          refine AW.ialdH h (n := 140) rfl ly_71 (le45 rfl) (dat D_X12_surfer 57 rfl) rfl (fun j22 h => ?_)
          cases h
          exact AW.iret rfl rfl rfl (dat D_X12_surfer 58 rfl)
        have h := ite_f h q23
        by_cases q25 : w32 a1 = 6
        · have h := ite_t h q25
          refine AW.tIn (dat D_X12_surfer 22 rfl) q25 (by decide) (by decide) (t := 141) rfl rfl ?_
          refine AW.aload_n (n := 142) (dat D_X12_surfer 59 rfl) rfl rfl ?_
          refine AW.getR (n := 145) (t := 72) fX12_42 wF_X12_68 ly_57 (le45 rfl) rfl (dat D_X12_surfer 60 rfl) rfl ?_
          refine AW.iload_n (n := 146) (dat D_X12_surfer 61 rfl) rfl rfl ?_
          refine AW.ialdH h (n := 147) rfl ly_72 (le45 rfl) (dat D_X12_surfer 62 rfl) rfl (fun j24 h => ?_)
          cases h
          exact AW.iret rfl rfl rfl (dat D_X12_surfer 63 rfl)
        have h := ite_f h q25
        by_cases q28 : w32 a1 = 7
        · have h := ite_t h q28
          refine AW.tIn (dat D_X12_surfer 22 rfl) q28 (by decide) (by decide) (t := 148) rfl rfl ?_
          refine AW.aload_n (n := 149) (dat D_X12_surfer 64 rfl) rfl rfl ?_
          refine AW.iload_n (n := 150) (dat D_X12_surfer 65 rfl) rfl rfl ?_
          obtain ⟨v27, hc26, h⟩ := ob_some h
          refine AW.cV (n := 153) (as := [vI a0]) (st := []) (st' := [vI v27]) (uc' := 0) (us' := 0) (A_X12_totalOf hΓ hc26) cf_X12_totalOf ly_57 (le45 rfl) vc_12 (le45 rfl) wM_X12_429 (le45 rfl) (le45 rfl) (dat D_X12_surfer 66 rfl) rfl rfl (le45 rfl) (le45 rfl) rfl (fun _ => ?_) nlt0
          cases h
          exact AW.iret rfl rfl rfl (dat D_X12_surfer 67 rfl)
        have h := ite_f h q28
        by_cases q31 : w32 a1 = 8
        · have h := ite_t h q31
          refine AW.tIn (dat D_X12_surfer 22 rfl) q31 (by decide) (by decide) (t := 154) rfl rfl ?_
          refine AW.aload_n (n := 155) (dat D_X12_surfer 68 rfl) rfl rfl ?_
          refine AW.iload_n (n := 156) (dat D_X12_surfer 69 rfl) rfl rfl ?_
          obtain ⟨v30, hc29, h⟩ := ob_some h
          refine AW.cV (n := 159) (as := [vI a0]) (st := []) (st' := [vI v30]) (uc' := 0) (us' := 0) (A_X12_rankNow hΓ hc29) cf_X12_rankNow ly_57 (le45 rfl) vc_12 (le45 rfl) wM_X12_438 (le45 rfl) (le45 rfl) (dat D_X12_surfer 70 rfl) rfl rfl (le45 rfl) (le45 rfl) rfl (fun _ => ?_) nlt0
          cases h
          exact AW.iret rfl rfl rfl (dat D_X12_surfer 71 rfl)
        have h := ite_f h q31
        refine AW.tOut (dat D_X12_surfer 22 rfl) (by omega) (t := 160) rfl ?_
        refine AW.aload_n (n := 161) (dat D_X12_surfer 72 rfl) rfl rfl ?_
        refine AW.iload_n (n := 162) (dat D_X12_surfer 73 rfl) rfl rfl ?_
        refine AW.iload_n (n := 163) (dat D_X12_surfer 74 rfl) rfl rfl ?_
        refine AW.bipush (n := 165) (dat D_X12_surfer 75 rfl) rfl (by decide) ?_
        refine AW.isub (n := 166) (dat D_X12_surfer 76 rfl) rfl ?_
        obtain ⟨v33, hc32, h⟩ := ob_some h
        refine AW.cV (n := 169) (as := [vI a0, vI (a1 - 9)]) (st := []) (st' := [vI v33]) (uc' := 0) (us' := 0) (A_X12_bestOf hΓ hc32) cf_X12_bestOf ly_57 (le45 rfl) vc_12 (le45 rfl) wM_X12_343 (le45 rfl) (le45 rfl) (dat D_X12_surfer 77 rfl) rfl rfl (le45 rfl) (le45 rfl) rfl (fun _ => ?_) nlt0
        cases h
        exact AW.iret rfl rfl rfl (dat D_X12_surfer 78 rfl)
      · refine AW.iconst (n := 37) (dat D_X12_surfer 19 rfl) rfl ?_
        cases h
        exact AW.iret rfl rfl rfl (dat D_X12_surfer 20 rfl)
    refine AW.if_neH (t := 28) (n := 24) h (dat D_X12_surfer 12 rfl) rfl rfl (fun h => ?_) (fun h => ?_)
    · refine AW.iconst (n := 25) (dat D_X12_surfer 13 rfl) rfl ?_
      refine AW.goto (t := 29) (dat D_X12_surfer 14 rfl) rfl ?_
      cases h
      exact AW.to hJ8 (lle_s rfl (lle_s rfl (lle_s rfl (lle_z))))
    · refine AW.iconst (n := 29) (dat D_X12_surfer 15 rfl) rfl ?_
      cases h
      exact AW.to hJ8 (lle_s rfl (lle_s rfl (lle_s rfl (lle_z))))
  · refine AW.iconst (n := 37) (dat D_X12_surfer 19 rfl) rfl ?_
    cases h
    exact AW.iret rfl rfl rfl (dat D_X12_surfer 20 rfl)
def L_X12_name : List (Nat × Instr × Nat) := [(0, .aload_n 0, 1), (1, .iconst 0, 1), (2, .putfield 105, 3), (5, .aload_n 0, 1), (6, .iload_n 1, 1), (7, .invokevirtual 435, 3), (10, .ifCond .eq 5, 3), (13, .iconst 0, 1), (14, .ireturn, 1), (15, .iload_n 2, 1), (16, .iconst 0, 1), (17, .iconst 5, 1), (18, .invokestatic 164, 3), (21, .ifCond .eq 19, 3), (24, .aload_n 0, 1), (25, .getfield 21, 3), (28, .iconst 4, 1), (29, .bipush 6, 2), (31, .iload_n 1, 1), (32, .imul, 1), (33, .iadd, 1), (34, .iload_n 2, 1), (35, .iadd, 1), (36, .iaload, 1), (37, .goto 4, 3), (40, .iconst 0, 1), (41, .istore_n 3, 1), (42, .iload_n 3, 1), (43, .ifCond .ne 7, 3), (46, .iconst (-1), 1), (47, .goto 4, 3), (50, .iload_n 3, 1), (51, .ireturn, 1)]
theorem D_X12_name : dOK cX12_name L_X12_name = true := by decide +kernel
theorem cf_X12_name : CFV mX12_name 2 := ⟨wI_X12_name, wS_X12_name, wN_WaveRightModel, wC_X12_name, rfl, ⟨by decide +kernel, by decide +kernel, by decide +kernel⟩, le45 rfl⟩
def X12_name_j41 (n : Nat) (σ4 : SG) (y7 : Int) : Option (Int × SG) :=
  if w32 y7 = 0 then
    some (((-1), σ4))
  else
    some ((y7, σ4))
def X12_name (n : Nat) (a0 : Int) (a1 : Int) (σ : SG) : Option (Int × SG) :=
  lt (up σ 57 0 0) fun σ1 =>
  bnd2 (X12_noSurfer n a0 σ1) fun v3 σ4 =>
  if w32 v3 = 0 then
    (X12_in n a1 0 5 σ4).bind fun v6 =>
    ((if w32 v6 = 0 then
      some (0)
    else
      rdA 144 ((4 + (6 * a0)) + a1) fun j9 =>
      some ((σ4 60 j9))) : Option (Int)).bind (fun s => X12_name_j41 n σ4 s)
  else
    some ((0, σ4))
set_option maxHeartbeats 4000000 in
set_option maxRecDepth 100000 in
theorem A_X12_name {Γ : GA} (hΓ : (gl Γ).stackTraces = false) {n : Nat} {a0 : Int} {a1 : Int} {σ : SG} {r : Int} {τ : SG}  (h : X12_name n a0 a1 σ = some (r, τ)) : AM Γ mX12_name 3 0 0 [vR 57, vI a0, vI a1] (85, σ) (0, r) (85, τ) := by
  refine AM.of pl_X12 rfl wC_X12_name (le45 rfl) hΓ ?_
  refine AW.to (ls'' := [some (vR 57), some (vI a0), some (vI a1), none]) ?_ (lle_s rfl (lle_s rfl (lle_s rfl (lle_e (lle_z)))))
  unfold X12_name at h
  refine AW.aload_n (n := 1) (dat D_X12_name 0 rfl) rfl rfl ?_
  refine AW.iconst (n := 2) (dat D_X12_name 1 rfl) rfl ?_
  refine AW.putI (n := 5) fX12_0 wF_X12_105 ly_57 (le45 rfl) rfl rfl rfl (dat D_X12_name 2 rfl) rfl ?_
  refine AW.ltS h (fun σ1 h => ?_)
  refine AW.aload_n (n := 6) (dat D_X12_name 3 rfl) rfl rfl ?_
  refine AW.iload_n (n := 7) (dat D_X12_name 4 rfl) rfl rfl ?_
  obtain ⟨v3, σ4, hc2, h⟩ := bnd2_some h
  refine AW.cV (n := 10) (as := [vI a0]) (st := []) (st' := [vI v3]) (uc' := 0) (us' := 0) (A_X12_noSurfer hΓ hc2) cf_X12_noSurfer ly_57 (le45 rfl) vc_12 (le45 rfl) wM_X12_435 (le45 rfl) (le45 rfl) (dat D_X12_name 5 rfl) rfl rfl (le45 rfl) (le45 rfl) rfl (fun _ => ?_) nlt0
  refine AW.if_eqH (t := 15) (n := 13) h (dat D_X12_name 6 rfl) rfl rfl (fun h => ?_) (fun h => ?_)
  · refine AW.iload_n (n := 16) (dat D_X12_name 9 rfl) rfl rfl ?_
    refine AW.iconst (n := 17) (dat D_X12_name 10 rfl) rfl ?_
    refine AW.iconst (n := 18) (dat D_X12_name 11 rfl) rfl ?_
    obtain ⟨v6, hc5, h⟩ := ob_some h
    refine AW.cS (n := 21) (as := [vI a1, vI 0, vI 5]) (st := []) (st' := [vI v6]) (uc' := 0) (us' := 0) (A_X12_in hΓ hc5) cf_X12_in rfl wM_X12_164 (le45 rfl) (le45 rfl) (dat D_X12_name 12 rfl) rfl rfl (le45 rfl) (le45 rfl) rfl (fun _ => ?_) nlt0
    obtain ⟨s8, h, hq8⟩ := ob_some h
    obtain ⟨y7, e8⟩ : ∃ z, z = s8 := ⟨_, rfl⟩
    subst e8
    have hJ8 : AW Γ mX12_name 3 (0, r) (85, τ) 0 0 41 [none, none, none, none] [vI y7] (85, σ4) := by
      have h : X12_name_j41 n σ4 y7 = some _ := hq8
      unfold X12_name_j41 at h
      refine AW.istore_n (n := 42) (ls' := [none, none, none, some (vI y7)]) (dat D_X12_name 26 rfl) rfl (le45 rfl) (le45 rfl) rfl rfl ?_
      refine AW.iload_n (n := 43) (dat D_X12_name 27 rfl) rfl rfl ?_
      refine AW.if_neH (t := 50) (n := 46) h (dat D_X12_name 28 rfl) rfl rfl (fun h => ?_) (fun h => ?_)
      · refine AW.iconst (n := 47) (dat D_X12_name 29 rfl) rfl ?_
        refine AW.goto (t := 51) (dat D_X12_name 30 rfl) rfl ?_
        cases h
        exact AW.iret rfl rfl rfl (dat D_X12_name 32 rfl)
      · refine AW.iload_n (n := 51) (dat D_X12_name 31 rfl) rfl rfl ?_
        cases h
        exact AW.iret rfl rfl rfl (dat D_X12_name 32 rfl)
    refine AW.if_eqH (t := 40) (n := 24) h (dat D_X12_name 13 rfl) rfl rfl (fun h => ?_) (fun h => ?_)
    · refine AW.iconst (n := 41) (dat D_X12_name 25 rfl) rfl ?_
      cases h
      exact AW.to hJ8 (lle_n (lle_n (lle_n (lle_n (lle_z)))))
    · refine AW.aload_n (n := 25) (dat D_X12_name 14 rfl) rfl rfl ?_
      refine AW.getR (n := 28) (t := 60) fX12_9 wF_X12_21 ly_57 (le45 rfl) rfl (dat D_X12_name 15 rfl) rfl ?_
      refine AW.iconst (n := 29) (dat D_X12_name 16 rfl) rfl ?_
      refine AW.bipush (n := 31) (dat D_X12_name 17 rfl) rfl (by decide) ?_
      refine AW.iload_n (n := 32) (dat D_X12_name 18 rfl) rfl rfl ?_
      refine AW.imul (n := 33) (dat D_X12_name 19 rfl) rfl ?_
      refine AW.iadd (n := 34) (dat D_X12_name 20 rfl) rfl ?_
      refine AW.iload_n (n := 35) (dat D_X12_name 21 rfl) rfl rfl ?_
      refine AW.iadd (n := 36) (dat D_X12_name 22 rfl) rfl ?_
      refine AW.ialdH h (n := 37) rfl ly_60 (le45 rfl) (dat D_X12_name 23 rfl) rfl (fun j9 h => ?_)
      refine AW.goto (t := 41) (dat D_X12_name 24 rfl) rfl ?_
      cases h
      exact AW.to hJ8 (lle_n (lle_n (lle_n (lle_n (lle_z)))))
  · refine AW.iconst (n := 14) (dat D_X12_name 7 rfl) rfl ?_
    cases h
    exact AW.iret rfl rfl rfl (dat D_X12_name 8 rfl)
def L_X12_goal : List (Nat × Instr × Nat) := [(0, .aload_n 0, 1), (1, .iconst 0, 1), (2, .putfield 105, 3), (5, .aload_n 0, 1), (6, .iload_n 1, 1), (7, .invokevirtual 435, 3), (10, .ifCond .ne 48, 3), (13, .aload_n 0, 1), (14, .iload_n 2, 1), (15, .iconst 0, 1), (16, .bipush 40, 2), (18, .invokestatic 164, 3), (21, .ifCond .ne 7, 3), (24, .iconst 1, 1), (25, .goto 4, 3), (28, .iconst 0, 1), (29, .iconst 2, 1), (30, .invokevirtual 230, 3), (33, .ifCond .ne 25, 3), (36, .aload_n 0, 1), (37, .aload_n 0, 1), (38, .getfield 86, 3), (41, .iload_n 1, 1), (42, .baload, 1), (43, .ifCond .ne 7, 3), (46, .iconst 1, 1), (47, .goto 4, 3), (50, .iconst 0, 1), (51, .iconst 3, 1), (52, .invokevirtual 230, 3), (55, .ifCond .eq 5, 3), (58, .iconst 0, 1), (59, .ireturn, 1), (60, .aload_n 0, 1), (61, .getfield 59, 3), (64, .iload_n 1, 1), (65, .iaload, 1), (66, .istore_n 3, 1), (67, .aload_n 0, 1), (68, .getfield 59, 3), (71, .iload_n 1, 1), (72, .iload_n 2, 1), (73, .iastore, 1), (74, .iload_n 3, 1), (75, .ireturn, 1)]
theorem D_X12_goal : dOK cX12_goal L_X12_goal = true := by decide +kernel
theorem cf_X12_goal : CFV mX12_goal 2 := ⟨wI_X12_goal, wS_X12_goal, wN_WaveRightModel, wC_X12_goal, rfl, ⟨by decide +kernel, by decide +kernel, by decide +kernel⟩, le45 rfl⟩
def X12_goal_j51 (n : Nat) (σ11 : SG) (a0 : Int) (a1 : Int) (y13 : Int) : Option (Int × SG) :=
  bnd2 (X12_throwsIf n y13 3 σ11) fun v16 σ17 =>
  if w32 v16 = 0 then
    rdA 5 a0 fun j18 =>
    lt (σ17 69 j18) fun x19 =>
    rdA 5 a0 fun j20 => lt (up σ17 69 j20 a1) fun σ21 =>
    some ((x19, σ21))
  else
    some ((0, σ17))
def X12_goal_j29 (n : Nat) (σ4 : SG) (a0 : Int) (a1 : Int) (y7 : Int) : Option (Int × SG) :=
  bnd2 (X12_throwsIf n y7 2 σ4) fun v10 σ11 =>
  if w32 v10 = 0 then
    rdA 5 a0 fun j12 =>
    ((if w32 (σ11 78 j12) = 0 then
      some (1)
    else
      some (0)) : Option (Int)).bind (fun s => X12_goal_j51 n σ11 a0 a1 s)
  else
    some ((0, σ11))
def X12_goal (n : Nat) (a0 : Int) (a1 : Int) (σ : SG) : Option (Int × SG) :=
  lt (up σ 57 0 0) fun σ1 =>
  bnd2 (X12_noSurfer n a0 σ1) fun v3 σ4 =>
  if w32 v3 = 0 then
    (X12_in n a1 0 40 σ4).bind fun v6 =>
    ((if w32 v6 = 0 then
      some (1)
    else
      some (0)) : Option (Int)).bind (fun s => X12_goal_j29 n σ4 a0 a1 s)
  else
    some ((0, σ4))
set_option maxHeartbeats 4000000 in
set_option maxRecDepth 100000 in
theorem A_X12_goal {Γ : GA} (hΓ : (gl Γ).stackTraces = false) {n : Nat} {a0 : Int} {a1 : Int} {σ : SG} {r : Int} {τ : SG}  (h : X12_goal n a0 a1 σ = some (r, τ)) : AM Γ mX12_goal 3 0 0 [vR 57, vI a0, vI a1] (85, σ) (0, r) (85, τ) := by
  refine AM.of pl_X12 rfl wC_X12_goal (le45 rfl) hΓ ?_
  refine AW.to (ls'' := [some (vR 57), some (vI a0), some (vI a1), none]) ?_ (lle_s rfl (lle_s rfl (lle_s rfl (lle_e (lle_z)))))
  unfold X12_goal at h
  refine AW.aload_n (n := 1) (dat D_X12_goal 0 rfl) rfl rfl ?_
  refine AW.iconst (n := 2) (dat D_X12_goal 1 rfl) rfl ?_
  refine AW.putI (n := 5) fX12_0 wF_X12_105 ly_57 (le45 rfl) rfl rfl rfl (dat D_X12_goal 2 rfl) rfl ?_
  refine AW.ltS h (fun σ1 h => ?_)
  refine AW.aload_n (n := 6) (dat D_X12_goal 3 rfl) rfl rfl ?_
  refine AW.iload_n (n := 7) (dat D_X12_goal 4 rfl) rfl rfl ?_
  obtain ⟨v3, σ4, hc2, h⟩ := bnd2_some h
  refine AW.cV (n := 10) (as := [vI a0]) (st := []) (st' := [vI v3]) (uc' := 0) (us' := 0) (A_X12_noSurfer hΓ hc2) cf_X12_noSurfer ly_57 (le45 rfl) vc_12 (le45 rfl) wM_X12_435 (le45 rfl) (le45 rfl) (dat D_X12_goal 5 rfl) rfl rfl (le45 rfl) (le45 rfl) rfl (fun _ => ?_) nlt0
  refine AW.if_neH (t := 58) (n := 13) h (dat D_X12_goal 6 rfl) rfl rfl (fun h => ?_) (fun h => ?_)
  · refine AW.aload_n (n := 14) (dat D_X12_goal 7 rfl) rfl rfl ?_
    refine AW.iload_n (n := 15) (dat D_X12_goal 8 rfl) rfl rfl ?_
    refine AW.iconst (n := 16) (dat D_X12_goal 9 rfl) rfl ?_
    refine AW.bipush (n := 18) (dat D_X12_goal 10 rfl) rfl (by decide) ?_
    obtain ⟨v6, hc5, h⟩ := ob_some h
    refine AW.cS (n := 21) (as := [vI a1, vI 0, vI 40]) (st := [vR 57]) (st' := [vI v6, vR 57]) (uc' := 0) (us' := 0) (A_X12_in hΓ hc5) cf_X12_in rfl wM_X12_164 (le45 rfl) (le45 rfl) (dat D_X12_goal 11 rfl) rfl rfl (le45 rfl) (le45 rfl) rfl (fun _ => ?_) nlt0
    obtain ⟨s8, h, hq8⟩ := ob_some h
    obtain ⟨y7, e8⟩ : ∃ z, z = s8 := ⟨_, rfl⟩
    subst e8
    have hJ8 : AW Γ mX12_goal 3 (0, r) (85, τ) 0 0 29 [some (vR 57), some (vI a0), some (vI a1), none] [vI y7, vR 57] (85, σ4) := by
      have h : X12_goal_j29 n σ4 a0 a1 y7 = some _ := hq8
      unfold X12_goal_j29 at h
      refine AW.iconst (n := 30) (dat D_X12_goal 16 rfl) rfl ?_
      obtain ⟨v10, σ11, hc9, h⟩ := bnd2_some h
      refine AW.cV (n := 33) (as := [vI y7, vI 2]) (st := []) (st' := [vI v10]) (uc' := 0) (us' := 0) (A_X12_throwsIf hΓ hc9) cf_X12_throwsIf ly_57 (le45 rfl) vc_12 (le45 rfl) wM_X12_230 (le45 rfl) (le45 rfl) (dat D_X12_goal 17 rfl) rfl rfl (le45 rfl) (le45 rfl) rfl (fun _ => ?_) nlt0
      refine AW.if_neH (t := 58) (n := 36) h (dat D_X12_goal 18 rfl) rfl rfl (fun h => ?_) (fun h => ?_)
      · refine AW.aload_n (n := 37) (dat D_X12_goal 19 rfl) rfl rfl ?_
        refine AW.aload_n (n := 38) (dat D_X12_goal 20 rfl) rfl rfl ?_
        refine AW.getR (n := 41) (t := 78) fX12_48 wF_X12_86 ly_57 (le45 rfl) rfl (dat D_X12_goal 21 rfl) rfl ?_
        refine AW.iload_n (n := 42) (dat D_X12_goal 22 rfl) rfl rfl ?_
        refine AW.zaldH h (n := 43) rfl ly_78 (le45 rfl) (dat D_X12_goal 23 rfl) rfl (fun j12 h => ?_)
        obtain ⟨s14, h, hq14⟩ := ob_some h
        obtain ⟨y13, e14⟩ : ∃ z, z = s14 := ⟨_, rfl⟩
        subst e14
        have hJ14 : AW Γ mX12_goal 3 (0, r) (85, τ) 0 0 51 [some (vR 57), some (vI a0), some (vI a1), none] [vI y13, vR 57] (85, σ11) := by
          have h : X12_goal_j51 n σ11 a0 a1 y13 = some _ := hq14
          unfold X12_goal_j51 at h
          refine AW.iconst (n := 52) (dat D_X12_goal 28 rfl) rfl ?_
          obtain ⟨v16, σ17, hc15, h⟩ := bnd2_some h
          refine AW.cV (n := 55) (as := [vI y13, vI 3]) (st := []) (st' := [vI v16]) (uc' := 0) (us' := 0) (A_X12_throwsIf hΓ hc15) cf_X12_throwsIf ly_57 (le45 rfl) vc_12 (le45 rfl) wM_X12_230 (le45 rfl) (le45 rfl) (dat D_X12_goal 29 rfl) rfl rfl (le45 rfl) (le45 rfl) rfl (fun _ => ?_) nlt0
          refine AW.if_eqH (t := 60) (n := 58) h (dat D_X12_goal 30 rfl) rfl rfl (fun h => ?_) (fun h => ?_)
          · refine AW.aload_n (n := 61) (dat D_X12_goal 33 rfl) rfl rfl ?_
            refine AW.getR (n := 64) (t := 69) fX12_39 wF_X12_59 ly_57 (le45 rfl) rfl (dat D_X12_goal 34 rfl) rfl ?_
            refine AW.iload_n (n := 65) (dat D_X12_goal 35 rfl) rfl rfl ?_
            refine AW.ialdH h (n := 66) rfl ly_69 (le45 rfl) (dat D_X12_goal 36 rfl) rfl (fun j18 h => ?_)
            refine AW.ltI h (fun x19 h => ?_)
            refine AW.istore_n (n := 67) (ls' := [some (vR 57), some (vI a0), some (vI a1), some (vI x19)]) (dat D_X12_goal 37 rfl) rfl (le45 rfl) (le45 rfl) rfl rfl ?_
            refine AW.aload_n (n := 68) (dat D_X12_goal 38 rfl) rfl rfl ?_
            refine AW.getR (n := 71) (t := 69) fX12_39 wF_X12_59 ly_57 (le45 rfl) rfl (dat D_X12_goal 39 rfl) rfl ?_
            refine AW.iload_n (n := 72) (dat D_X12_goal 40 rfl) rfl rfl ?_
            refine AW.iload_n (n := 73) (dat D_X12_goal 41 rfl) rfl rfl ?_
            refine AW.iastH h (n := 74) rfl ly_69 (le45 rfl) (dat D_X12_goal 42 rfl) rfl (fun j20 h => ?_)
            refine AW.ltS h (fun σ21 h => ?_)
            refine AW.iload_n (n := 75) (dat D_X12_goal 43 rfl) rfl rfl ?_
            cases h
            exact AW.iret rfl rfl rfl (dat D_X12_goal 44 rfl)
          · refine AW.iconst (n := 59) (dat D_X12_goal 31 rfl) rfl ?_
            cases h
            exact AW.iret rfl rfl rfl (dat D_X12_goal 32 rfl)
        refine AW.if_neH (t := 50) (n := 46) h (dat D_X12_goal 24 rfl) rfl rfl (fun h => ?_) (fun h => ?_)
        · refine AW.iconst (n := 47) (dat D_X12_goal 25 rfl) rfl ?_
          refine AW.goto (t := 51) (dat D_X12_goal 26 rfl) rfl ?_
          cases h
          exact AW.to hJ14 (lle_s rfl (lle_s rfl (lle_s rfl (lle_n (lle_z)))))
        · refine AW.iconst (n := 51) (dat D_X12_goal 27 rfl) rfl ?_
          cases h
          exact AW.to hJ14 (lle_s rfl (lle_s rfl (lle_s rfl (lle_n (lle_z)))))
      · refine AW.iconst (n := 59) (dat D_X12_goal 31 rfl) rfl ?_
        cases h
        exact AW.iret rfl rfl rfl (dat D_X12_goal 32 rfl)
    refine AW.if_neH (t := 28) (n := 24) h (dat D_X12_goal 12 rfl) rfl rfl (fun h => ?_) (fun h => ?_)
    · refine AW.iconst (n := 25) (dat D_X12_goal 13 rfl) rfl ?_
      refine AW.goto (t := 29) (dat D_X12_goal 14 rfl) rfl ?_
      cases h
      exact AW.to hJ8 (lle_s rfl (lle_s rfl (lle_s rfl (lle_n (lle_z)))))
    · refine AW.iconst (n := 29) (dat D_X12_goal 15 rfl) rfl ?_
      cases h
      exact AW.to hJ8 (lle_s rfl (lle_s rfl (lle_s rfl (lle_n (lle_z)))))
  · refine AW.iconst (n := 59) (dat D_X12_goal 31 rfl) rfl ?_
    cases h
    exact AW.iret rfl rfl rfl (dat D_X12_goal 32 rfl)
def L_X12_row : List (Nat × Instr × Nat) := [(0, .aload_n 0, 1), (1, .iconst 0, 1), (2, .putfield 105, 3), (5, .aload_n 0, 1), (6, .getfield 372, 3), (9, .ifCond .eq 26, 3), (12, .iload_n 1, 1), (13, .iconst 0, 1), (14, .aload_n 0, 1), (15, .getfield 369, 3), (18, .iconst 1, 1), (19, .isub, 1), (20, .invokestatic 164, 3), (23, .ifCond .eq 12, 3), (26, .aload_n 0, 1), (27, .getfield 80, 3), (30, .iload_n 1, 1), (31, .iaload, 1), (32, .goto 4, 3), (35, .iconst (-1), 1), (36, .ireturn, 1)]
theorem D_X12_row : dOK cX12_row L_X12_row = true := by decide +kernel
theorem cf_X12_row : CFV mX12_row 1 := ⟨wI_X12_row, wS_X12_row, wN_WaveRightModel, wC_X12_row, rfl, ⟨by decide +kernel, by decide +kernel, by decide +kernel⟩, le45 rfl⟩
def X12_row (n : Nat) (a0 : Int) (σ : SG) : Option (Int × SG) :=
  lt (up σ 57 0 0) fun σ1 =>
  if w32 (σ1 57 36) = 0 then
    some (((-1), σ1))
  else
    (X12_in n a0 0 ((σ1 57 34) - 1) σ1).bind fun v3 =>
    if w32 v3 = 0 then
      some (((-1), σ1))
    else
      rdA 5 a0 fun j4 =>
      some (((σ1 76 j4), σ1))
set_option maxHeartbeats 4000000 in
set_option maxRecDepth 100000 in
theorem A_X12_row {Γ : GA} (hΓ : (gl Γ).stackTraces = false) {n : Nat} {a0 : Int} {σ : SG} {r : Int} {τ : SG}  (h : X12_row n a0 σ = some (r, τ)) : AM Γ mX12_row 2 0 0 [vR 57, vI a0] (85, σ) (0, r) (85, τ) := by
  refine AM.of pl_X12 rfl wC_X12_row (le45 rfl) hΓ ?_
  refine AW.to (ls'' := [some (vR 57), some (vI a0)]) ?_ (lle_s rfl (lle_s rfl (lle_z)))
  unfold X12_row at h
  refine AW.aload_n (n := 1) (dat D_X12_row 0 rfl) rfl rfl ?_
  refine AW.iconst (n := 2) (dat D_X12_row 1 rfl) rfl ?_
  refine AW.putI (n := 5) fX12_0 wF_X12_105 ly_57 (le45 rfl) rfl rfl rfl (dat D_X12_row 2 rfl) rfl ?_
  refine AW.ltS h (fun σ1 h => ?_)
  refine AW.aload_n (n := 6) (dat D_X12_row 3 rfl) rfl rfl ?_
  refine AW.getI (n := 9) fX12_36 wF_X12_372 ly_57 (le45 rfl) rfl rfl (dat D_X12_row 4 rfl) rfl ?_
  refine AW.if_eqH (t := 35) (n := 12) h (dat D_X12_row 5 rfl) rfl rfl (fun h => ?_) (fun h => ?_)
  · refine AW.iconst (n := 36) (dat D_X12_row 19 rfl) rfl ?_
    cases h
    exact AW.iret rfl rfl rfl (dat D_X12_row 20 rfl)
  · refine AW.iload_n (n := 13) (dat D_X12_row 6 rfl) rfl rfl ?_
    refine AW.iconst (n := 14) (dat D_X12_row 7 rfl) rfl ?_
    refine AW.aload_n (n := 15) (dat D_X12_row 8 rfl) rfl rfl ?_
    refine AW.getI (n := 18) fX12_34 wF_X12_369 ly_57 (le45 rfl) rfl rfl (dat D_X12_row 9 rfl) rfl ?_
    refine AW.iconst (n := 19) (dat D_X12_row 10 rfl) rfl ?_
    refine AW.isub (n := 20) (dat D_X12_row 11 rfl) rfl ?_
    obtain ⟨v3, hc2, h⟩ := ob_some h
    refine AW.cS (n := 23) (as := [vI a0, vI 0, vI ((σ1 57 34) - 1)]) (st := []) (st' := [vI v3]) (uc' := 0) (us' := 0) (A_X12_in hΓ hc2) cf_X12_in rfl wM_X12_164 (le45 rfl) (le45 rfl) (dat D_X12_row 12 rfl) rfl rfl (le45 rfl) (le45 rfl) rfl (fun _ => ?_) nlt0
    refine AW.if_eqH (t := 35) (n := 26) h (dat D_X12_row 13 rfl) rfl rfl (fun h => ?_) (fun h => ?_)
    · refine AW.iconst (n := 36) (dat D_X12_row 19 rfl) rfl ?_
      cases h
      exact AW.iret rfl rfl rfl (dat D_X12_row 20 rfl)
    · refine AW.aload_n (n := 27) (dat D_X12_row 14 rfl) rfl rfl ?_
      refine AW.getR (n := 30) (t := 76) fX12_46 wF_X12_80 ly_57 (le45 rfl) rfl (dat D_X12_row 15 rfl) rfl ?_
      refine AW.iload_n (n := 31) (dat D_X12_row 16 rfl) rfl rfl ?_
      refine AW.ialdH h (n := 32) rfl ly_76 (le45 rfl) (dat D_X12_row 17 rfl) rfl (fun j4 h => ?_)
      refine AW.goto (t := 36) (dat D_X12_row 18 rfl) rfl ?_
      cases h
      exact AW.iret rfl rfl rfl (dat D_X12_row 20 rfl)
def L_X12_canRide : List (Nat × Instr × Nat) := [(0, .aload_n 0, 1), (1, .iload_n 1, 1), (2, .iconst 1, 1), (3, .invokevirtual 333, 3), (6, .istore 5, 2), (8, .iload_n 3, 1), (9, .ifCond .ne 17, 3), (12, .iload_n 2, 1), (13, .iload 5, 2), (15, .if_icmp .gt 7, 3), (18, .iconst 1, 1), (19, .goto 18, 3), (22, .iconst 0, 1), (23, .goto 14, 3), (26, .iload_n 2, 1), (27, .iload 5, 2), (29, .if_icmp .lt 7, 3), (32, .iconst 1, 1), (33, .goto 4, 3), (36, .iconst 0, 1), (37, .istore 6, 2), (39, .iload_n 3, 1), (40, .ifCond .ne 10, 3), (43, .iload_n 2, 1), (44, .iload 4, 2), (46, .isub, 1), (47, .goto 7, 3), (50, .iload_n 2, 1), (51, .iload 4, 2), (53, .iadd, 1), (54, .istore 7, 2), (56, .aload_n 0, 1), (57, .iload_n 1, 1), (58, .iconst 2, 1), (59, .invokevirtual 333, 3), (62, .iload_n 3, 1), (63, .ishr, 1), (64, .iconst 1, 1), (65, .iand, 1), (66, .iconst 1, 1), (67, .if_icmp .ne 29, 3), (70, .iload 6, 2), (72, .ifCond .eq 24, 3), (75, .iload 7, 2), (77, .iload 5, 2), (79, .isub, 1), (80, .invokestatic 336, 3), (83, .aload_n 0, 1), (84, .iload_n 1, 1), (85, .iconst 4, 1), (86, .invokevirtual 333, 3), (89, .if_icmp .gt 7, 3), (92, .iconst 1, 1), (93, .goto 4, 3), (96, .iconst 0, 1), (97, .ireturn, 1)]
theorem D_X12_canRide : dOK cX12_canRide L_X12_canRide = true := by decide +kernel
theorem cf_X12_canRide : CFV mX12_canRide 4 := ⟨wI_X12_canRide, wS_X12_canRide, wN_WaveRightModel, wC_X12_canRide, rfl, ⟨by decide +kernel, by decide +kernel, by decide +kernel⟩, le45 rfl⟩
def X12_canRide_j54 (n : Nat) (a0 : Int) (σ : SG) (a2 : Int) (y3 : Int) (v2 : Int) (y5 : Int) : Option (Int) :=
  (X12_ofWave n a0 2 σ).bind fun v8 =>
  if w32 (bAnd (bShr v8 a2) 1) = 1 then
    if w32 y3 = 0 then
      some (0)
    else
      (X12_ofWave n a0 4 σ).bind fun v10 =>
      if w32 v10 < w32 (ab32 (y5 - v2)) then
        some (0)
      else
        some (1)
  else
    some (0)
def X12_canRide_j37 (n : Nat) (a2 : Int) (a1 : Int) (a3 : Int) (a0 : Int) (σ : SG) (v2 : Int) (y3 : Int) : Option (Int) :=
  ((if w32 a2 = 0 then
    some ((a1 - a3))
  else
    some ((a1 + a3))) : Option (Int)).bind (fun s => X12_canRide_j54 n a0 σ a2 y3 v2 s)
def X12_canRide (n : Nat) (a0 : Int) (a1 : Int) (a2 : Int) (a3 : Int) (σ : SG) : Option (Int) :=
  (X12_ofWave n a0 1 σ).bind fun v2 =>
  ((if w32 a2 = 0 then
    if w32 v2 < w32 a1 then
      some (0)
    else
      some (1)
  else
    if w32 a1 < w32 v2 then
      some (0)
    else
      some (1)) : Option (Int)).bind (fun s => X12_canRide_j37 n a2 a1 a3 a0 σ v2 s)
set_option maxHeartbeats 4000000 in
set_option maxRecDepth 100000 in
theorem A_X12_canRide {Γ : GA} (hΓ : (gl Γ).stackTraces = false) {n : Nat} {a0 : Int} {a1 : Int} {a2 : Int} {a3 : Int} {σ : SG} {r : Int}  (h : X12_canRide n a0 a1 a2 a3 σ = some r) : AM Γ mX12_canRide 2 0 0 [vR 57, vI a0, vI a1, vI a2, vI a3] (85, σ) (0, r) (85, σ) := by
  refine AM.of pl_X12 rfl wC_X12_canRide (le45 rfl) hΓ ?_
  refine AW.to (ls'' := [some (vR 57), some (vI a0), some (vI a1), some (vI a2), some (vI a3), none, none, none]) ?_ (lle_s rfl (lle_s rfl (lle_s rfl (lle_s rfl (lle_s rfl (lle_e (lle_e (lle_e (lle_z)))))))))
  unfold X12_canRide at h
  refine AW.aload_n (n := 1) (dat D_X12_canRide 0 rfl) rfl rfl ?_
  refine AW.iload_n (n := 2) (dat D_X12_canRide 1 rfl) rfl rfl ?_
  refine AW.iconst (n := 3) (dat D_X12_canRide 2 rfl) rfl ?_
  obtain ⟨v2, hc1, h⟩ := ob_some h
  refine AW.cV (n := 6) (as := [vI a0, vI 1]) (st := []) (st' := [vI v2]) (uc' := 0) (us' := 0) (A_X12_ofWave hΓ hc1) cf_X12_ofWave ly_57 (le45 rfl) vc_12 (le45 rfl) wM_X12_333 (le45 rfl) (le45 rfl) (dat D_X12_canRide 3 rfl) rfl rfl (le45 rfl) (le45 rfl) rfl (fun _ => ?_) nlt0
  refine AW.istore (n := 8) (ls' := [some (vR 57), some (vI a0), some (vI a1), some (vI a2), some (vI a3), some (vI v2), none, none]) (dat D_X12_canRide 4 rfl) rfl (le45 rfl) (le45 rfl) rfl rfl ?_
  refine AW.iload_n (n := 9) (dat D_X12_canRide 5 rfl) rfl rfl ?_
  obtain ⟨s4, h, hq4⟩ := ob_some h
  obtain ⟨y3, e4⟩ : ∃ z, z = s4 := ⟨_, rfl⟩
  subst e4
  have hJ4 : AW Γ mX12_canRide 2 (0, r) (85, σ) 0 0 37 [some (vR 57), some (vI a0), some (vI a1), some (vI a2), some (vI a3), some (vI v2), none, none] [vI y3] (85, σ) := by
    have h : X12_canRide_j37 n a2 a1 a3 a0 σ v2 y3 = some _ := hq4
    unfold X12_canRide_j37 at h
    refine AW.istore (n := 39) (ls' := [some (vR 57), some (vI a0), some (vI a1), some (vI a2), some (vI a3), some (vI v2), some (vI y3), none]) (dat D_X12_canRide 20 rfl) rfl (le45 rfl) (le45 rfl) rfl rfl ?_
    refine AW.iload_n (n := 40) (dat D_X12_canRide 21 rfl) rfl rfl ?_
    obtain ⟨s6, h, hq6⟩ := ob_some h
    obtain ⟨y5, e6⟩ : ∃ z, z = s6 := ⟨_, rfl⟩
    subst e6
    have hJ6 : AW Γ mX12_canRide 2 (0, r) (85, σ) 0 0 54 [some (vR 57), some (vI a0), none, some (vI a2), none, some (vI v2), some (vI y3), none] [vI y5] (85, σ) := by
      have h : X12_canRide_j54 n a0 σ a2 y3 v2 y5 = some _ := hq6
      unfold X12_canRide_j54 at h
      refine AW.istore (n := 56) (ls' := [some (vR 57), some (vI a0), none, some (vI a2), none, some (vI v2), some (vI y3), some (vI y5)]) (dat D_X12_canRide 30 rfl) rfl (le45 rfl) (le45 rfl) rfl rfl ?_
      refine AW.aload_n (n := 57) (dat D_X12_canRide 31 rfl) rfl rfl ?_
      refine AW.iload_n (n := 58) (dat D_X12_canRide 32 rfl) rfl rfl ?_
      refine AW.iconst (n := 59) (dat D_X12_canRide 33 rfl) rfl ?_
      obtain ⟨v8, hc7, h⟩ := ob_some h
      refine AW.cV (n := 62) (as := [vI a0, vI 2]) (st := []) (st' := [vI v8]) (uc' := 0) (us' := 0) (A_X12_ofWave hΓ hc7) cf_X12_ofWave ly_57 (le45 rfl) vc_12 (le45 rfl) wM_X12_333 (le45 rfl) (le45 rfl) (dat D_X12_canRide 34 rfl) rfl rfl (le45 rfl) (le45 rfl) rfl (fun _ => ?_) nlt0
      refine AW.iload_n (n := 63) (dat D_X12_canRide 35 rfl) rfl rfl ?_
      refine AW.ishr (n := 64) (dat D_X12_canRide 36 rfl) rfl ?_
      refine AW.iconst (n := 65) (dat D_X12_canRide 37 rfl) rfl ?_
      refine AW.iand (n := 66) (dat D_X12_canRide 38 rfl) rfl ?_
      refine AW.iconst (n := 67) (dat D_X12_canRide 39 rfl) rfl ?_
      refine AW.icmp_neH (t := 96) (n := 70) h (dat D_X12_canRide 40 rfl) rfl rfl rfl (by decide) (fun h => ?_) (fun h => ?_)
      · refine AW.iload (n := 72) (dat D_X12_canRide 41 rfl) rfl rfl ?_
        refine AW.if_eqH (t := 96) (n := 75) h (dat D_X12_canRide 42 rfl) rfl rfl (fun h => ?_) (fun h => ?_)
        · refine AW.iconst (n := 97) (dat D_X12_canRide 54 rfl) rfl ?_
          cases h
          exact AW.zret rfl (by decide) rfl rfl (dat D_X12_canRide 55 rfl)
        · refine AW.iload (n := 77) (dat D_X12_canRide 43 rfl) rfl rfl ?_
          refine AW.iload (n := 79) (dat D_X12_canRide 44 rfl) rfl rfl ?_
          refine AW.isub (n := 80) (dat D_X12_canRide 45 rfl) rfl ?_
          refine AW.mabs (n := 83) wM_X12_336 (le45 rfl) (le45 rfl) (dat D_X12_canRide 46 rfl) rfl ?_
          refine AW.aload_n (n := 84) (dat D_X12_canRide 47 rfl) rfl rfl ?_
          refine AW.iload_n (n := 85) (dat D_X12_canRide 48 rfl) rfl rfl ?_
          refine AW.iconst (n := 86) (dat D_X12_canRide 49 rfl) rfl ?_
          obtain ⟨v10, hc9, h⟩ := ob_some h
          refine AW.cV (n := 89) (as := [vI a0, vI 4]) (st := [vI (ab32 (y5 - v2))]) (st' := [vI v10, vI (ab32 (y5 - v2))]) (uc' := 0) (us' := 0) (A_X12_ofWave hΓ hc9) cf_X12_ofWave ly_57 (le45 rfl) vc_12 (le45 rfl) wM_X12_333 (le45 rfl) (le45 rfl) (dat D_X12_canRide 50 rfl) rfl rfl (le45 rfl) (le45 rfl) rfl (fun _ => ?_) nlt0
          refine AW.icmp_gtH (t := 96) (n := 92) h (dat D_X12_canRide 51 rfl) rfl rfl rfl rfl (fun h => ?_) (fun h => ?_)
          · refine AW.iconst (n := 97) (dat D_X12_canRide 54 rfl) rfl ?_
            cases h
            exact AW.zret rfl (by decide) rfl rfl (dat D_X12_canRide 55 rfl)
          · refine AW.iconst (n := 93) (dat D_X12_canRide 52 rfl) rfl ?_
            refine AW.goto (t := 97) (dat D_X12_canRide 53 rfl) rfl ?_
            cases h
            exact AW.zret rfl (by decide) rfl rfl (dat D_X12_canRide 55 rfl)
      · refine AW.iconst (n := 97) (dat D_X12_canRide 54 rfl) rfl ?_
        cases h
        exact AW.zret rfl (by decide) rfl rfl (dat D_X12_canRide 55 rfl)
    refine AW.if_neH (t := 50) (n := 43) h (dat D_X12_canRide 22 rfl) rfl rfl (fun h => ?_) (fun h => ?_)
    · refine AW.iload_n (n := 44) (dat D_X12_canRide 23 rfl) rfl rfl ?_
      refine AW.iload (n := 46) (dat D_X12_canRide 24 rfl) rfl rfl ?_
      refine AW.isub (n := 47) (dat D_X12_canRide 25 rfl) rfl ?_
      refine AW.goto (t := 54) (dat D_X12_canRide 26 rfl) rfl ?_
      cases h
      exact AW.to hJ6 (lle_s rfl (lle_s rfl (lle_n (lle_s rfl (lle_n (lle_s rfl (lle_s rfl (lle_n (lle_z)))))))))
    · refine AW.iload_n (n := 51) (dat D_X12_canRide 27 rfl) rfl rfl ?_
      refine AW.iload (n := 53) (dat D_X12_canRide 28 rfl) rfl rfl ?_
      refine AW.iadd (n := 54) (dat D_X12_canRide 29 rfl) rfl ?_
      cases h
      exact AW.to hJ6 (lle_s rfl (lle_s rfl (lle_n (lle_s rfl (lle_n (lle_s rfl (lle_s rfl (lle_n (lle_z)))))))))
  refine AW.if_neH (t := 26) (n := 12) h (dat D_X12_canRide 6 rfl) rfl rfl (fun h => ?_) (fun h => ?_)
  · refine AW.iload_n (n := 13) (dat D_X12_canRide 7 rfl) rfl rfl ?_
    refine AW.iload (n := 15) (dat D_X12_canRide 8 rfl) rfl rfl ?_
    refine AW.icmp_gtH (t := 22) (n := 18) h (dat D_X12_canRide 9 rfl) rfl rfl rfl rfl (fun h => ?_) (fun h => ?_)
    · refine AW.iconst (n := 23) (dat D_X12_canRide 12 rfl) rfl ?_
      refine AW.goto (t := 37) (dat D_X12_canRide 13 rfl) rfl ?_
      cases h
      exact AW.to hJ4 (lle_s rfl (lle_s rfl (lle_s rfl (lle_s rfl (lle_s rfl (lle_s rfl (lle_n (lle_n (lle_z)))))))))
    · refine AW.iconst (n := 19) (dat D_X12_canRide 10 rfl) rfl ?_
      refine AW.goto (t := 37) (dat D_X12_canRide 11 rfl) rfl ?_
      cases h
      exact AW.to hJ4 (lle_s rfl (lle_s rfl (lle_s rfl (lle_s rfl (lle_s rfl (lle_s rfl (lle_n (lle_n (lle_z)))))))))
  · refine AW.iload_n (n := 27) (dat D_X12_canRide 14 rfl) rfl rfl ?_
    refine AW.iload (n := 29) (dat D_X12_canRide 15 rfl) rfl rfl ?_
    refine AW.icmp_ltH (t := 36) (n := 32) h (dat D_X12_canRide 16 rfl) rfl rfl rfl rfl (fun h => ?_) (fun h => ?_)
    · refine AW.iconst (n := 37) (dat D_X12_canRide 19 rfl) rfl ?_
      cases h
      exact AW.to hJ4 (lle_s rfl (lle_s rfl (lle_s rfl (lle_s rfl (lle_s rfl (lle_s rfl (lle_n (lle_n (lle_z)))))))))
    · refine AW.iconst (n := 33) (dat D_X12_canRide 17 rfl) rfl ?_
      refine AW.goto (t := 37) (dat D_X12_canRide 18 rfl) rfl ?_
      cases h
      exact AW.to hJ4 (lle_s rfl (lle_s rfl (lle_s rfl (lle_s rfl (lle_s rfl (lle_s rfl (lle_n (lle_n (lle_z)))))))))
def L_X12_take : List (Nat × Instr × Nat) := [(0, .aload_n 0, 1), (1, .iconst 0, 1), (2, .putfield 105, 3), (5, .aload_n 0, 1), (6, .iload_n 1, 1), (7, .invokevirtual 435, 3), (10, .ifCond .ne 46, 3), (13, .aload_n 0, 1), (14, .iload_n 2, 1), (15, .iconst 0, 1), (16, .iconst 1, 1), (17, .invokestatic 164, 3), (20, .ifCond .eq 24, 3), (23, .iload_n 3, 1), (24, .iconst 1, 1), (25, .bipush 20, 2), (27, .invokestatic 164, 3), (30, .ifCond .eq 14, 3), (33, .iload 4, 2), (35, .iconst 0, 1), (36, .bipush 9, 2), (38, .invokestatic 164, 3), (41, .ifCond .ne 7, 3), (44, .iconst 1, 1), (45, .goto 4, 3), (48, .iconst 0, 1), (49, .iconst 2, 1), (50, .invokevirtual 230, 3), (53, .ifCond .eq 5, 3), (56, .iconst 0, 1), (57, .ireturn, 1), (58, .aload_n 0, 1), (59, .aload_n 0, 1), (60, .getfield 49, 3), (63, .iconst (-1), 1), (64, .if_icmp .eq 31, 3), (67, .aload_n 0, 1), (68, .getfield 86, 3), (71, .iload_n 1, 1), (72, .baload, 1), (73, .ifCond .eq 22, 3), (76, .aload_n 0, 1), (77, .aload_n 0, 1), (78, .getfield 49, 3), (81, .aload_n 0, 1), (82, .getfield 56, 3), (85, .iload_n 1, 1), (86, .iaload, 1), (87, .iload_n 2, 1), (88, .iload_n 3, 1), (89, .invokevirtual 441, 3), (92, .ifCond .ne 7, 3), (95, .iconst 1, 1), (96, .goto 4, 3), (99, .iconst 0, 1), (100, .iconst 3, 1), (101, .invokevirtual 230, 3), (104, .ifCond .eq 5, 3), (107, .iconst 0, 1), (108, .ireturn, 1), (109, .aload_n 0, 1), (110, .getfield 86, 3), (113, .iload_n 1, 1), (114, .iconst 0, 1), (115, .bastore, 1), (116, .aload_n 0, 1), (117, .dup, 1), (118, .getfield 349, 3), (121, .iconst 1, 1), (122, .iload_n 1, 1), (123, .ishl, 1), (124, .ior, 1), (125, .putfield 349, 3), (128, .aload_n 0, 1), (129, .iconst 1, 1), (130, .putfield 375, 3), (133, .aload_n 0, 1), (134, .getfield 71, 3), (137, .iload_n 1, 1), (138, .iload_n 2, 1), (139, .iastore, 1), (140, .aload_n 0, 1), (141, .getfield 74, 3), (144, .iload_n 1, 1), (145, .iload_n 3, 1), (146, .iastore, 1), (147, .aload_n 0, 1), (148, .getfield 77, 3), (151, .iload_n 1, 1), (152, .iload 4, 2), (154, .iastore, 1), (155, .iload_n 2, 1), (156, .ifCond .ne 14, 3), (159, .aload_n 0, 1), (160, .getfield 56, 3), (163, .iload_n 1, 1), (164, .iaload, 1), (165, .iload_n 3, 1), (166, .isub, 1), (167, .goto 11, 3), (170, .aload_n 0, 1), (171, .getfield 56, 3), (174, .iload_n 1, 1), (175, .iaload, 1), (176, .iload_n 3, 1), (177, .iadd, 1), (178, .ireturn, 1)]
theorem D_X12_take : dOK cX12_take L_X12_take = true := by decide +kernel
theorem cf_X12_take : CFV mX12_take 4 := ⟨wI_X12_take, wS_X12_take, wN_WaveRightModel, wC_X12_take, rfl, ⟨by decide +kernel, by decide +kernel, by decide +kernel⟩, le45 rfl⟩
def X12_take_j100 (n : Nat) (σ11 : SG) (a0 : Int) (a1 : Int) (a2 : Int) (a3 : Int) (y12 : Int) : Option (Int × SG) :=
  bnd2 (X12_throwsIf n y12 3 σ11) fun v15 σ16 =>
  if w32 v15 = 0 then
    rdA 5 a0 fun j17 => lt (up σ16 78 j17 (wZ 0)) fun σ18 =>
    lt (up σ18 57 30 (bOr (σ18 57 30) (bShl 1 a0))) fun σ19 =>
    lt (up σ19 57 37 1) fun σ20 =>
    rdA 5 a0 fun j21 => lt (up σ20 73 j21 a1) fun σ22 =>
    rdA 5 a0 fun j23 => lt (up σ22 74 j23 a2) fun σ24 =>
    rdA 5 a0 fun j25 => lt (up σ24 75 j25 a3) fun σ26 =>
    if w32 a1 = 0 then
      rdA 5 a0 fun j28 =>
      some ((((σ26 68 j28) - a2), σ26))
    else
      rdA 5 a0 fun j27 =>
      some ((((σ26 68 j27) + a2), σ26))
  else
    some ((0, σ16))
def X12_take_j49 (n : Nat) (σ4 : SG) (a0 : Int) (a1 : Int) (a2 : Int) (a3 : Int) (y7 : Int) : Option (Int × SG) :=
  bnd2 (X12_throwsIf n y7 2 σ4) fun v10 σ11 =>
  if w32 v10 = 0 then
    ((if w32 (σ11 57 27) = (-1) then
      some (1)
    else
      rdA 5 a0 fun j29 =>
      if w32 (σ11 78 j29) = 0 then
        some (1)
      else
        rdA 5 a0 fun j30 =>
        (X12_canRide n (σ11 57 27) (σ11 68 j30) a1 a2 σ11).bind fun v32 =>
        if w32 v32 = 0 then
          some (1)
        else
          some (0)) : Option (Int)).bind (fun s => X12_take_j100 n σ11 a0 a1 a2 a3 s)
  else
    some ((0, σ11))
def X12_take (n : Nat) (a0 : Int) (a1 : Int) (a2 : Int) (a3 : Int) (σ : SG) : Option (Int × SG) :=
  lt (up σ 57 0 0) fun σ1 =>
  bnd2 (X12_noSurfer n a0 σ1) fun v3 σ4 =>
  if w32 v3 = 0 then
    (X12_in n a1 0 1 σ4).bind fun v6 =>
    ((if w32 v6 = 0 then
      some (1)
    else
      (X12_in n a2 1 20 σ4).bind fun v34 =>
      if w32 v34 = 0 then
        some (1)
      else
        (X12_in n a3 0 9 σ4).bind fun v36 =>
        if w32 v36 = 0 then
          some (1)
        else
          some (0)) : Option (Int)).bind (fun s => X12_take_j49 n σ4 a0 a1 a2 a3 s)
  else
    some ((0, σ4))
set_option maxHeartbeats 4000000 in
set_option maxRecDepth 100000 in
theorem A_X12_take {Γ : GA} (hΓ : (gl Γ).stackTraces = false) {n : Nat} {a0 : Int} {a1 : Int} {a2 : Int} {a3 : Int} {σ : SG} {r : Int} {τ : SG}  (h : X12_take n a0 a1 a2 a3 σ = some (r, τ)) : AM Γ mX12_take 3 0 0 [vR 57, vI a0, vI a1, vI a2, vI a3] (85, σ) (0, r) (85, τ) := by
  refine AM.of pl_X12 rfl wC_X12_take (le45 rfl) hΓ ?_
  refine AW.to (ls'' := [some (vR 57), some (vI a0), some (vI a1), some (vI a2), some (vI a3)]) ?_ (lle_s rfl (lle_s rfl (lle_s rfl (lle_s rfl (lle_s rfl (lle_z))))))
  unfold X12_take at h
  refine AW.aload_n (n := 1) (dat D_X12_take 0 rfl) rfl rfl ?_
  refine AW.iconst (n := 2) (dat D_X12_take 1 rfl) rfl ?_
  refine AW.putI (n := 5) fX12_0 wF_X12_105 ly_57 (le45 rfl) rfl rfl rfl (dat D_X12_take 2 rfl) rfl ?_
  refine AW.ltS h (fun σ1 h => ?_)
  refine AW.aload_n (n := 6) (dat D_X12_take 3 rfl) rfl rfl ?_
  refine AW.iload_n (n := 7) (dat D_X12_take 4 rfl) rfl rfl ?_
  obtain ⟨v3, σ4, hc2, h⟩ := bnd2_some h
  refine AW.cV (n := 10) (as := [vI a0]) (st := []) (st' := [vI v3]) (uc' := 0) (us' := 0) (A_X12_noSurfer hΓ hc2) cf_X12_noSurfer ly_57 (le45 rfl) vc_12 (le45 rfl) wM_X12_435 (le45 rfl) (le45 rfl) (dat D_X12_take 5 rfl) rfl rfl (le45 rfl) (le45 rfl) rfl (fun _ => ?_) nlt0
  refine AW.if_neH (t := 56) (n := 13) h (dat D_X12_take 6 rfl) rfl rfl (fun h => ?_) (fun h => ?_)
  · refine AW.aload_n (n := 14) (dat D_X12_take 7 rfl) rfl rfl ?_
    refine AW.iload_n (n := 15) (dat D_X12_take 8 rfl) rfl rfl ?_
    refine AW.iconst (n := 16) (dat D_X12_take 9 rfl) rfl ?_
    refine AW.iconst (n := 17) (dat D_X12_take 10 rfl) rfl ?_
    obtain ⟨v6, hc5, h⟩ := ob_some h
    refine AW.cS (n := 20) (as := [vI a1, vI 0, vI 1]) (st := [vR 57]) (st' := [vI v6, vR 57]) (uc' := 0) (us' := 0) (A_X12_in hΓ hc5) cf_X12_in rfl wM_X12_164 (le45 rfl) (le45 rfl) (dat D_X12_take 11 rfl) rfl rfl (le45 rfl) (le45 rfl) rfl (fun _ => ?_) nlt0
    obtain ⟨s8, h, hq8⟩ := ob_some h
    obtain ⟨y7, e8⟩ : ∃ z, z = s8 := ⟨_, rfl⟩
    subst e8
    have hJ8 : AW Γ mX12_take 3 (0, r) (85, τ) 0 0 49 [some (vR 57), some (vI a0), some (vI a1), some (vI a2), some (vI a3)] [vI y7, vR 57] (85, σ4) := by
      have h : X12_take_j49 n σ4 a0 a1 a2 a3 y7 = some _ := hq8
      unfold X12_take_j49 at h
      refine AW.iconst (n := 50) (dat D_X12_take 26 rfl) rfl ?_
      obtain ⟨v10, σ11, hc9, h⟩ := bnd2_some h
      refine AW.cV (n := 53) (as := [vI y7, vI 2]) (st := []) (st' := [vI v10]) (uc' := 0) (us' := 0) (A_X12_throwsIf hΓ hc9) cf_X12_throwsIf ly_57 (le45 rfl) vc_12 (le45 rfl) wM_X12_230 (le45 rfl) (le45 rfl) (dat D_X12_take 27 rfl) rfl rfl (le45 rfl) (le45 rfl) rfl (fun _ => ?_) nlt0
      refine AW.if_eqH (t := 58) (n := 56) h (dat D_X12_take 28 rfl) rfl rfl (fun h => ?_) (fun h => ?_)
      · refine AW.aload_n (n := 59) (dat D_X12_take 31 rfl) rfl rfl ?_
        refine AW.aload_n (n := 60) (dat D_X12_take 32 rfl) rfl rfl ?_
        refine AW.getI (n := 63) fX12_27 wF_X12_49 ly_57 (le45 rfl) rfl rfl (dat D_X12_take 33 rfl) rfl ?_
        refine AW.iconst (n := 64) (dat D_X12_take 34 rfl) rfl ?_
        obtain ⟨s13, h, hq13⟩ := ob_some h
        obtain ⟨y12, e13⟩ : ∃ z, z = s13 := ⟨_, rfl⟩
        subst e13
        have hJ13 : AW Γ mX12_take 3 (0, r) (85, τ) 0 0 100 [some (vR 57), some (vI a0), some (vI a1), some (vI a2), some (vI a3)] [vI y12, vR 57] (85, σ11) := by
          have h : X12_take_j100 n σ11 a0 a1 a2 a3 y12 = some _ := hq13
          unfold X12_take_j100 at h
          refine AW.iconst (n := 101) (dat D_X12_take 55 rfl) rfl ?_
          obtain ⟨v15, σ16, hc14, h⟩ := bnd2_some h
          refine AW.cV (n := 104) (as := [vI y12, vI 3]) (st := []) (st' := [vI v15]) (uc' := 0) (us' := 0) (A_X12_throwsIf hΓ hc14) cf_X12_throwsIf ly_57 (le45 rfl) vc_12 (le45 rfl) wM_X12_230 (le45 rfl) (le45 rfl) (dat D_X12_take 56 rfl) rfl rfl (le45 rfl) (le45 rfl) rfl (fun _ => ?_) nlt0
          refine AW.if_eqH (t := 109) (n := 107) h (dat D_X12_take 57 rfl) rfl rfl (fun h => ?_) (fun h => ?_)
          · refine AW.aload_n (n := 110) (dat D_X12_take 60 rfl) rfl rfl ?_
            refine AW.getR (n := 113) (t := 78) fX12_48 wF_X12_86 ly_57 (le45 rfl) rfl (dat D_X12_take 61 rfl) rfl ?_
            refine AW.iload_n (n := 114) (dat D_X12_take 62 rfl) rfl rfl ?_
            refine AW.iconst (n := 115) (dat D_X12_take 63 rfl) rfl ?_
            refine AW.zastH h (n := 116) rfl ly_78 (le45 rfl) (dat D_X12_take 64 rfl) rfl (fun j17 h => ?_)
            refine AW.ltS h (fun σ18 h => ?_)
            refine AW.aload_n (n := 117) (dat D_X12_take 65 rfl) rfl rfl ?_
            refine AW.dup (n := 118) (dat D_X12_take 66 rfl) rfl (cR _) ?_
            refine AW.getI (n := 121) fX12_30 wF_X12_349 ly_57 (le45 rfl) rfl rfl (dat D_X12_take 67 rfl) rfl ?_
            refine AW.iconst (n := 122) (dat D_X12_take 68 rfl) rfl ?_
            refine AW.iload_n (n := 123) (dat D_X12_take 69 rfl) rfl rfl ?_
            refine AW.ishl (n := 124) (dat D_X12_take 70 rfl) rfl ?_
            refine AW.ior (n := 125) (dat D_X12_take 71 rfl) rfl ?_
            refine AW.putI (n := 128) fX12_30 wF_X12_349 ly_57 (le45 rfl) rfl rfl rfl (dat D_X12_take 72 rfl) rfl ?_
            refine AW.ltS h (fun σ19 h => ?_)
            refine AW.aload_n (n := 129) (dat D_X12_take 73 rfl) rfl rfl ?_
            refine AW.iconst (n := 130) (dat D_X12_take 74 rfl) rfl ?_
            refine AW.putZ (n := 133) (Or.inr rfl) fX12_37 wF_X12_375 ly_57 (le45 rfl) rfl rfl rfl (dat D_X12_take 75 rfl) rfl ?_
            refine AW.ltS h (fun σ20 h => ?_)
            refine AW.aload_n (n := 134) (dat D_X12_take 76 rfl) rfl rfl ?_
            refine AW.getR (n := 137) (t := 73) fX12_43 wF_X12_71 ly_57 (le45 rfl) rfl (dat D_X12_take 77 rfl) rfl ?_
            refine AW.iload_n (n := 138) (dat D_X12_take 78 rfl) rfl rfl ?_
            refine AW.iload_n (n := 139) (dat D_X12_take 79 rfl) rfl rfl ?_
            refine AW.iastH h (n := 140) rfl ly_73 (le45 rfl) (dat D_X12_take 80 rfl) rfl (fun j21 h => ?_)
            refine AW.ltS h (fun σ22 h => ?_)
            refine AW.aload_n (n := 141) (dat D_X12_take 81 rfl) rfl rfl ?_
            refine AW.getR (n := 144) (t := 74) fX12_44 wF_X12_74 ly_57 (le45 rfl) rfl (dat D_X12_take 82 rfl) rfl ?_
            refine AW.iload_n (n := 145) (dat D_X12_take 83 rfl) rfl rfl ?_
            refine AW.iload_n (n := 146) (dat D_X12_take 84 rfl) rfl rfl ?_
            refine AW.iastH h (n := 147) rfl ly_74 (le45 rfl) (dat D_X12_take 85 rfl) rfl (fun j23 h => ?_)
            refine AW.ltS h (fun σ24 h => ?_)
            refine AW.aload_n (n := 148) (dat D_X12_take 86 rfl) rfl rfl ?_
            refine AW.getR (n := 151) (t := 75) fX12_45 wF_X12_77 ly_57 (le45 rfl) rfl (dat D_X12_take 87 rfl) rfl ?_
            refine AW.iload_n (n := 152) (dat D_X12_take 88 rfl) rfl rfl ?_
            refine AW.iload (n := 154) (dat D_X12_take 89 rfl) rfl rfl ?_
            refine AW.iastH h (n := 155) rfl ly_75 (le45 rfl) (dat D_X12_take 90 rfl) rfl (fun j25 h => ?_)
            refine AW.ltS h (fun σ26 h => ?_)
            refine AW.iload_n (n := 156) (dat D_X12_take 91 rfl) rfl rfl ?_
            refine AW.if_neH (t := 170) (n := 159) h (dat D_X12_take 92 rfl) rfl rfl (fun h => ?_) (fun h => ?_)
            · refine AW.aload_n (n := 160) (dat D_X12_take 93 rfl) rfl rfl ?_
              refine AW.getR (n := 163) (t := 68) fX12_38 wF_X12_56 ly_57 (le45 rfl) rfl (dat D_X12_take 94 rfl) rfl ?_
              refine AW.iload_n (n := 164) (dat D_X12_take 95 rfl) rfl rfl ?_
              refine AW.ialdH h (n := 165) rfl ly_68 (le45 rfl) (dat D_X12_take 96 rfl) rfl (fun j28 h => ?_)
              refine AW.iload_n (n := 166) (dat D_X12_take 97 rfl) rfl rfl ?_
              refine AW.isub (n := 167) (dat D_X12_take 98 rfl) rfl ?_
              refine AW.goto (t := 178) (dat D_X12_take 99 rfl) rfl ?_
              cases h
              exact AW.iret rfl rfl rfl (dat D_X12_take 106 rfl)
            · refine AW.aload_n (n := 171) (dat D_X12_take 100 rfl) rfl rfl ?_
              refine AW.getR (n := 174) (t := 68) fX12_38 wF_X12_56 ly_57 (le45 rfl) rfl (dat D_X12_take 101 rfl) rfl ?_
              refine AW.iload_n (n := 175) (dat D_X12_take 102 rfl) rfl rfl ?_
              refine AW.ialdH h (n := 176) rfl ly_68 (le45 rfl) (dat D_X12_take 103 rfl) rfl (fun j27 h => ?_)
              refine AW.iload_n (n := 177) (dat D_X12_take 104 rfl) rfl rfl ?_
              refine AW.iadd (n := 178) (dat D_X12_take 105 rfl) rfl ?_
              cases h
              exact AW.iret rfl rfl rfl (dat D_X12_take 106 rfl)
          · refine AW.iconst (n := 108) (dat D_X12_take 58 rfl) rfl ?_
            cases h
            exact AW.iret rfl rfl rfl (dat D_X12_take 59 rfl)
        refine AW.icmp_eqH (t := 95) (n := 67) h (dat D_X12_take 35 rfl) rfl rfl rfl (by decide) (fun h => ?_) (fun h => ?_)
        · refine AW.iconst (n := 96) (dat D_X12_take 52 rfl) rfl ?_
          refine AW.goto (t := 100) (dat D_X12_take 53 rfl) rfl ?_
          cases h
          exact AW.to hJ13 (lle_s rfl (lle_s rfl (lle_s rfl (lle_s rfl (lle_s rfl (lle_z))))))
        · refine AW.aload_n (n := 68) (dat D_X12_take 36 rfl) rfl rfl ?_
          refine AW.getR (n := 71) (t := 78) fX12_48 wF_X12_86 ly_57 (le45 rfl) rfl (dat D_X12_take 37 rfl) rfl ?_
          refine AW.iload_n (n := 72) (dat D_X12_take 38 rfl) rfl rfl ?_
          refine AW.zaldH h (n := 73) rfl ly_78 (le45 rfl) (dat D_X12_take 39 rfl) rfl (fun j29 h => ?_)
          refine AW.if_eqH (t := 95) (n := 76) h (dat D_X12_take 40 rfl) rfl rfl (fun h => ?_) (fun h => ?_)
          · refine AW.iconst (n := 96) (dat D_X12_take 52 rfl) rfl ?_
            refine AW.goto (t := 100) (dat D_X12_take 53 rfl) rfl ?_
            cases h
            exact AW.to hJ13 (lle_s rfl (lle_s rfl (lle_s rfl (lle_s rfl (lle_s rfl (lle_z))))))
          · refine AW.aload_n (n := 77) (dat D_X12_take 41 rfl) rfl rfl ?_
            refine AW.aload_n (n := 78) (dat D_X12_take 42 rfl) rfl rfl ?_
            refine AW.getI (n := 81) fX12_27 wF_X12_49 ly_57 (le45 rfl) rfl rfl (dat D_X12_take 43 rfl) rfl ?_
            refine AW.aload_n (n := 82) (dat D_X12_take 44 rfl) rfl rfl ?_
            refine AW.getR (n := 85) (t := 68) fX12_38 wF_X12_56 ly_57 (le45 rfl) rfl (dat D_X12_take 45 rfl) rfl ?_
            refine AW.iload_n (n := 86) (dat D_X12_take 46 rfl) rfl rfl ?_
            refine AW.ialdH h (n := 87) rfl ly_68 (le45 rfl) (dat D_X12_take 47 rfl) rfl (fun j30 h => ?_)
            refine AW.iload_n (n := 88) (dat D_X12_take 48 rfl) rfl rfl ?_
            refine AW.iload_n (n := 89) (dat D_X12_take 49 rfl) rfl rfl ?_
            obtain ⟨v32, hc31, h⟩ := ob_some h
            refine AW.cV (n := 92) (as := [vI (σ11 57 27), vI (σ11 68 j30), vI a1, vI a2]) (st := [vR 57]) (st' := [vI v32, vR 57]) (uc' := 0) (us' := 0) (A_X12_canRide hΓ hc31) cf_X12_canRide ly_57 (le45 rfl) vc_12 (le45 rfl) wM_X12_441 (le45 rfl) (le45 rfl) (dat D_X12_take 50 rfl) rfl rfl (le45 rfl) (le45 rfl) rfl (fun _ => ?_) nlt0
            refine AW.if_neH (t := 99) (n := 95) h (dat D_X12_take 51 rfl) rfl rfl (fun h => ?_) (fun h => ?_)
            · refine AW.iconst (n := 96) (dat D_X12_take 52 rfl) rfl ?_
              refine AW.goto (t := 100) (dat D_X12_take 53 rfl) rfl ?_
              cases h
              exact AW.to hJ13 (lle_s rfl (lle_s rfl (lle_s rfl (lle_s rfl (lle_s rfl (lle_z))))))
            · refine AW.iconst (n := 100) (dat D_X12_take 54 rfl) rfl ?_
              cases h
              exact AW.to hJ13 (lle_s rfl (lle_s rfl (lle_s rfl (lle_s rfl (lle_s rfl (lle_z))))))
      · refine AW.iconst (n := 57) (dat D_X12_take 29 rfl) rfl ?_
        cases h
        exact AW.iret rfl rfl rfl (dat D_X12_take 30 rfl)
    refine AW.if_eqH (t := 44) (n := 23) h (dat D_X12_take 12 rfl) rfl rfl (fun h => ?_) (fun h => ?_)
    · refine AW.iconst (n := 45) (dat D_X12_take 23 rfl) rfl ?_
      refine AW.goto (t := 49) (dat D_X12_take 24 rfl) rfl ?_
      cases h
      exact AW.to hJ8 (lle_s rfl (lle_s rfl (lle_s rfl (lle_s rfl (lle_s rfl (lle_z))))))
    · refine AW.iload_n (n := 24) (dat D_X12_take 13 rfl) rfl rfl ?_
      refine AW.iconst (n := 25) (dat D_X12_take 14 rfl) rfl ?_
      refine AW.bipush (n := 27) (dat D_X12_take 15 rfl) rfl (by decide) ?_
      obtain ⟨v34, hc33, h⟩ := ob_some h
      refine AW.cS (n := 30) (as := [vI a2, vI 1, vI 20]) (st := [vR 57]) (st' := [vI v34, vR 57]) (uc' := 0) (us' := 0) (A_X12_in hΓ hc33) cf_X12_in rfl wM_X12_164 (le45 rfl) (le45 rfl) (dat D_X12_take 16 rfl) rfl rfl (le45 rfl) (le45 rfl) rfl (fun _ => ?_) nlt0
      refine AW.if_eqH (t := 44) (n := 33) h (dat D_X12_take 17 rfl) rfl rfl (fun h => ?_) (fun h => ?_)
      · refine AW.iconst (n := 45) (dat D_X12_take 23 rfl) rfl ?_
        refine AW.goto (t := 49) (dat D_X12_take 24 rfl) rfl ?_
        cases h
        exact AW.to hJ8 (lle_s rfl (lle_s rfl (lle_s rfl (lle_s rfl (lle_s rfl (lle_z))))))
      · refine AW.iload (n := 35) (dat D_X12_take 18 rfl) rfl rfl ?_
        refine AW.iconst (n := 36) (dat D_X12_take 19 rfl) rfl ?_
        refine AW.bipush (n := 38) (dat D_X12_take 20 rfl) rfl (by decide) ?_
        obtain ⟨v36, hc35, h⟩ := ob_some h
        refine AW.cS (n := 41) (as := [vI a3, vI 0, vI 9]) (st := [vR 57]) (st' := [vI v36, vR 57]) (uc' := 0) (us' := 0) (A_X12_in hΓ hc35) cf_X12_in rfl wM_X12_164 (le45 rfl) (le45 rfl) (dat D_X12_take 21 rfl) rfl rfl (le45 rfl) (le45 rfl) rfl (fun _ => ?_) nlt0
        refine AW.if_neH (t := 48) (n := 44) h (dat D_X12_take 22 rfl) rfl rfl (fun h => ?_) (fun h => ?_)
        · refine AW.iconst (n := 45) (dat D_X12_take 23 rfl) rfl ?_
          refine AW.goto (t := 49) (dat D_X12_take 24 rfl) rfl ?_
          cases h
          exact AW.to hJ8 (lle_s rfl (lle_s rfl (lle_s rfl (lle_s rfl (lle_s rfl (lle_z))))))
        · refine AW.iconst (n := 49) (dat D_X12_take 25 rfl) rfl ?_
          cases h
          exact AW.to hJ8 (lle_s rfl (lle_s rfl (lle_s rfl (lle_s rfl (lle_s rfl (lle_z))))))
  · refine AW.iconst (n := 57) (dat D_X12_take 29 rfl) rfl ?_
    cases h
    exact AW.iret rfl rfl rfl (dat D_X12_take 30 rfl)
def L_X12_right : List (Nat × Instr × Nat) := [(0, .aload_n 0, 1), (1, .iconst 0, 1), (2, .putfield 105, 3), (5, .aload_n 0, 1), (6, .iload_n 1, 1), (7, .invokevirtual 435, 3), (10, .ifCond .ne 50, 3), (13, .aload_n 0, 1), (14, .iload_n 2, 1), (15, .invokevirtual 435, 3), (18, .ifCond .ne 42, 3), (21, .aload_n 0, 1), (22, .iload_n 1, 1), (23, .iload_n 2, 1), (24, .if_icmp .ne 7, 3), (27, .iconst 1, 1), (28, .goto 4, 3), (31, .iconst 0, 1), (32, .iconst 2, 1), (33, .invokevirtual 230, 3), (36, .ifCond .ne 24, 3), (39, .aload_n 0, 1), (40, .aload_n 0, 1), (41, .getfield 49, 3), (44, .iconst (-1), 1), (45, .if_icmp .ne 7, 3), (48, .iconst 1, 1), (49, .goto 4, 3), (52, .iconst 0, 1), (53, .iconst 3, 1), (54, .invokevirtual 230, 3), (57, .ifCond .eq 5, 3), (60, .iconst 0, 1), (61, .ireturn, 1), (62, .aload_n 0, 1), (63, .iload_n 1, 1), (64, .iload_n 2, 1), (65, .invokevirtual 394, 3), (68, .ireturn, 1)]
theorem D_X12_right : dOK cX12_right L_X12_right = true := by decide +kernel
theorem cf_X12_right : CFV mX12_right 2 := ⟨wI_X12_right, wS_X12_right, wN_WaveRightModel, wC_X12_right, rfl, ⟨by decide +kernel, by decide +kernel, by decide +kernel⟩, le45 rfl⟩
def X12_right_j53 (n : Nat) (σ12 : SG) (a0 : Int) (a1 : Int) (y13 : Int) : Option (Int × SG) :=
  bnd2 (X12_throwsIf n y13 3 σ12) fun v16 σ17 =>
  if w32 v16 = 0 then
    (X12_rightOf n a0 a1 σ17).bind fun v19 =>
    some ((v19, σ17))
  else
    some ((0, σ17))
def X12_right_j32 (n : Nat) (σ7 : SG) (a0 : Int) (a1 : Int) (y8 : Int) : Option (Int × SG) :=
  bnd2 (X12_throwsIf n y8 2 σ7) fun v11 σ12 =>
  if w32 v11 = 0 then
    ((if w32 (σ12 57 27) = (-1) then
      some (1)
    else
      some (0)) : Option (Int)).bind (fun s => X12_right_j53 n σ12 a0 a1 s)
  else
    some ((0, σ12))
def X12_right (n : Nat) (a0 : Int) (a1 : Int) (σ : SG) : Option (Int × SG) :=
  lt (up σ 57 0 0) fun σ1 =>
  bnd2 (X12_noSurfer n a0 σ1) fun v3 σ4 =>
  if w32 v3 = 0 then
    bnd2 (X12_noSurfer n a1 σ4) fun v6 σ7 =>
    if w32 v6 = 0 then
      ((if w32 a0 = w32 a1 then
        some (1)
      else
        some (0)) : Option (Int)).bind (fun s => X12_right_j32 n σ7 a0 a1 s)
    else
      some ((0, σ7))
  else
    some ((0, σ4))
set_option maxHeartbeats 4000000 in
set_option maxRecDepth 100000 in
theorem A_X12_right {Γ : GA} (hΓ : (gl Γ).stackTraces = false) {n : Nat} {a0 : Int} {a1 : Int} {σ : SG} {r : Int} {τ : SG}  (h : X12_right n a0 a1 σ = some (r, τ)) : AM Γ mX12_right 4 0 0 [vR 57, vI a0, vI a1] (85, σ) (0, r) (85, τ) := by
  refine AM.of pl_X12 rfl wC_X12_right (le45 rfl) hΓ ?_
  refine AW.to (ls'' := [some (vR 57), some (vI a0), some (vI a1)]) ?_ (lle_s rfl (lle_s rfl (lle_s rfl (lle_z))))
  unfold X12_right at h
  refine AW.aload_n (n := 1) (dat D_X12_right 0 rfl) rfl rfl ?_
  refine AW.iconst (n := 2) (dat D_X12_right 1 rfl) rfl ?_
  refine AW.putI (n := 5) fX12_0 wF_X12_105 ly_57 (le45 rfl) rfl rfl rfl (dat D_X12_right 2 rfl) rfl ?_
  refine AW.ltS h (fun σ1 h => ?_)
  refine AW.aload_n (n := 6) (dat D_X12_right 3 rfl) rfl rfl ?_
  refine AW.iload_n (n := 7) (dat D_X12_right 4 rfl) rfl rfl ?_
  obtain ⟨v3, σ4, hc2, h⟩ := bnd2_some h
  refine AW.cV (n := 10) (as := [vI a0]) (st := []) (st' := [vI v3]) (uc' := 0) (us' := 0) (A_X12_noSurfer hΓ hc2) cf_X12_noSurfer ly_57 (le45 rfl) vc_12 (le45 rfl) wM_X12_435 (le45 rfl) (le45 rfl) (dat D_X12_right 5 rfl) rfl rfl (le45 rfl) (le45 rfl) rfl (fun _ => ?_) nlt0
  refine AW.if_neH (t := 60) (n := 13) h (dat D_X12_right 6 rfl) rfl rfl (fun h => ?_) (fun h => ?_)
  · refine AW.aload_n (n := 14) (dat D_X12_right 7 rfl) rfl rfl ?_
    refine AW.iload_n (n := 15) (dat D_X12_right 8 rfl) rfl rfl ?_
    obtain ⟨v6, σ7, hc5, h⟩ := bnd2_some h
    refine AW.cV (n := 18) (as := [vI a1]) (st := []) (st' := [vI v6]) (uc' := 0) (us' := 0) (A_X12_noSurfer hΓ hc5) cf_X12_noSurfer ly_57 (le45 rfl) vc_12 (le45 rfl) wM_X12_435 (le45 rfl) (le45 rfl) (dat D_X12_right 9 rfl) rfl rfl (le45 rfl) (le45 rfl) rfl (fun _ => ?_) nlt0
    refine AW.if_neH (t := 60) (n := 21) h (dat D_X12_right 10 rfl) rfl rfl (fun h => ?_) (fun h => ?_)
    · refine AW.aload_n (n := 22) (dat D_X12_right 11 rfl) rfl rfl ?_
      refine AW.iload_n (n := 23) (dat D_X12_right 12 rfl) rfl rfl ?_
      refine AW.iload_n (n := 24) (dat D_X12_right 13 rfl) rfl rfl ?_
      obtain ⟨s9, h, hq9⟩ := ob_some h
      obtain ⟨y8, e9⟩ : ∃ z, z = s9 := ⟨_, rfl⟩
      subst e9
      have hJ9 : AW Γ mX12_right 4 (0, r) (85, τ) 0 0 32 [some (vR 57), some (vI a0), some (vI a1)] [vI y8, vR 57] (85, σ7) := by
        have h : X12_right_j32 n σ7 a0 a1 y8 = some _ := hq9
        unfold X12_right_j32 at h
        refine AW.iconst (n := 33) (dat D_X12_right 18 rfl) rfl ?_
        obtain ⟨v11, σ12, hc10, h⟩ := bnd2_some h
        refine AW.cV (n := 36) (as := [vI y8, vI 2]) (st := []) (st' := [vI v11]) (uc' := 0) (us' := 0) (A_X12_throwsIf hΓ hc10) cf_X12_throwsIf ly_57 (le45 rfl) vc_12 (le45 rfl) wM_X12_230 (le45 rfl) (le45 rfl) (dat D_X12_right 19 rfl) rfl rfl (le45 rfl) (le45 rfl) rfl (fun _ => ?_) nlt0
        refine AW.if_neH (t := 60) (n := 39) h (dat D_X12_right 20 rfl) rfl rfl (fun h => ?_) (fun h => ?_)
        · refine AW.aload_n (n := 40) (dat D_X12_right 21 rfl) rfl rfl ?_
          refine AW.aload_n (n := 41) (dat D_X12_right 22 rfl) rfl rfl ?_
          refine AW.getI (n := 44) fX12_27 wF_X12_49 ly_57 (le45 rfl) rfl rfl (dat D_X12_right 23 rfl) rfl ?_
          refine AW.iconst (n := 45) (dat D_X12_right 24 rfl) rfl ?_
          obtain ⟨s14, h, hq14⟩ := ob_some h
          obtain ⟨y13, e14⟩ : ∃ z, z = s14 := ⟨_, rfl⟩
          subst e14
          have hJ14 : AW Γ mX12_right 4 (0, r) (85, τ) 0 0 53 [some (vR 57), some (vI a0), some (vI a1)] [vI y13, vR 57] (85, σ12) := by
            have h : X12_right_j53 n σ12 a0 a1 y13 = some _ := hq14
            unfold X12_right_j53 at h
            refine AW.iconst (n := 54) (dat D_X12_right 29 rfl) rfl ?_
            obtain ⟨v16, σ17, hc15, h⟩ := bnd2_some h
            refine AW.cV (n := 57) (as := [vI y13, vI 3]) (st := []) (st' := [vI v16]) (uc' := 0) (us' := 0) (A_X12_throwsIf hΓ hc15) cf_X12_throwsIf ly_57 (le45 rfl) vc_12 (le45 rfl) wM_X12_230 (le45 rfl) (le45 rfl) (dat D_X12_right 30 rfl) rfl rfl (le45 rfl) (le45 rfl) rfl (fun _ => ?_) nlt0
            refine AW.if_eqH (t := 62) (n := 60) h (dat D_X12_right 31 rfl) rfl rfl (fun h => ?_) (fun h => ?_)
            · refine AW.aload_n (n := 63) (dat D_X12_right 34 rfl) rfl rfl ?_
              refine AW.iload_n (n := 64) (dat D_X12_right 35 rfl) rfl rfl ?_
              refine AW.iload_n (n := 65) (dat D_X12_right 36 rfl) rfl rfl ?_
              obtain ⟨v19, hc18, h⟩ := ob_some h
              refine AW.cV (n := 68) (as := [vI a0, vI a1]) (st := []) (st' := [vI v19]) (uc' := 0) (us' := 0) (A_X12_rightOf hΓ hc18) cf_X12_rightOf ly_57 (le45 rfl) vc_12 (le45 rfl) wM_X12_394 (le45 rfl) (le45 rfl) (dat D_X12_right 37 rfl) rfl rfl (le45 rfl) (le45 rfl) rfl (fun _ => ?_) nlt0
              cases h
              exact AW.iret rfl rfl rfl (dat D_X12_right 38 rfl)
            · refine AW.iconst (n := 61) (dat D_X12_right 32 rfl) rfl ?_
              cases h
              exact AW.iret rfl rfl rfl (dat D_X12_right 33 rfl)
          refine AW.icmp_neH (t := 52) (n := 48) h (dat D_X12_right 25 rfl) rfl rfl rfl (by decide) (fun h => ?_) (fun h => ?_)
          · refine AW.iconst (n := 49) (dat D_X12_right 26 rfl) rfl ?_
            refine AW.goto (t := 53) (dat D_X12_right 27 rfl) rfl ?_
            cases h
            exact AW.to hJ14 (lle_s rfl (lle_s rfl (lle_s rfl (lle_z))))
          · refine AW.iconst (n := 53) (dat D_X12_right 28 rfl) rfl ?_
            cases h
            exact AW.to hJ14 (lle_s rfl (lle_s rfl (lle_s rfl (lle_z))))
        · refine AW.iconst (n := 61) (dat D_X12_right 32 rfl) rfl ?_
          cases h
          exact AW.iret rfl rfl rfl (dat D_X12_right 33 rfl)
      refine AW.icmp_neH (t := 31) (n := 27) h (dat D_X12_right 14 rfl) rfl rfl rfl rfl (fun h => ?_) (fun h => ?_)
      · refine AW.iconst (n := 28) (dat D_X12_right 15 rfl) rfl ?_
        refine AW.goto (t := 32) (dat D_X12_right 16 rfl) rfl ?_
        cases h
        exact AW.to hJ9 (lle_s rfl (lle_s rfl (lle_s rfl (lle_z))))
      · refine AW.iconst (n := 32) (dat D_X12_right 17 rfl) rfl ?_
        cases h
        exact AW.to hJ9 (lle_s rfl (lle_s rfl (lle_s rfl (lle_z))))
    · refine AW.iconst (n := 61) (dat D_X12_right 32 rfl) rfl ?_
      cases h
      exact AW.iret rfl rfl rfl (dat D_X12_right 33 rfl)
  · refine AW.iconst (n := 61) (dat D_X12_right 32 rfl) rfl ?_
    cases h
    exact AW.iret rfl rfl rfl (dat D_X12_right 33 rfl)
def L_X12_hinders : List (Nat × Instr × Nat) := [(0, .aload_n 0, 1), (1, .iconst 0, 1), (2, .putfield 105, 3), (5, .aload_n 0, 1), (6, .iload_n 1, 1), (7, .invokevirtual 435, 3), (10, .ifCond .eq 7, 3), (13, .iconst 0, 1), (14, .goto 8, 3), (17, .aload_n 0, 1), (18, .iload_n 1, 1), (19, .invokevirtual 400, 3), (22, .ireturn, 1)]
theorem D_X12_hinders : dOK cX12_hinders L_X12_hinders = true := by decide +kernel
theorem cf_X12_hinders : CFV mX12_hinders 1 := ⟨wI_X12_hinders, wS_X12_hinders, wN_WaveRightModel, wC_X12_hinders, rfl, ⟨by decide +kernel, by decide +kernel, by decide +kernel⟩, le45 rfl⟩
def X12_hinders (n : Nat) (a0 : Int) (σ : SG) : Option (Int × SG) :=
  lt (up σ 57 0 0) fun σ1 =>
  bnd2 (X12_noSurfer n a0 σ1) fun v3 σ4 =>
  if w32 v3 = 0 then
    (X12_hindersNow n a0 σ4).bind fun v6 =>
    some ((v6, σ4))
  else
    some ((0, σ4))
set_option maxHeartbeats 4000000 in
set_option maxRecDepth 100000 in
theorem A_X12_hinders {Γ : GA} (hΓ : (gl Γ).stackTraces = false) {n : Nat} {a0 : Int} {σ : SG} {r : Int} {τ : SG}  (h : X12_hinders n a0 σ = some (r, τ)) : AM Γ mX12_hinders 6 0 0 [vR 57, vI a0] (85, σ) (0, r) (85, τ) := by
  refine AM.of pl_X12 rfl wC_X12_hinders (le45 rfl) hΓ ?_
  refine AW.to (ls'' := [some (vR 57), some (vI a0)]) ?_ (lle_s rfl (lle_s rfl (lle_z)))
  unfold X12_hinders at h
  refine AW.aload_n (n := 1) (dat D_X12_hinders 0 rfl) rfl rfl ?_
  refine AW.iconst (n := 2) (dat D_X12_hinders 1 rfl) rfl ?_
  refine AW.putI (n := 5) fX12_0 wF_X12_105 ly_57 (le45 rfl) rfl rfl rfl (dat D_X12_hinders 2 rfl) rfl ?_
  refine AW.ltS h (fun σ1 h => ?_)
  refine AW.aload_n (n := 6) (dat D_X12_hinders 3 rfl) rfl rfl ?_
  refine AW.iload_n (n := 7) (dat D_X12_hinders 4 rfl) rfl rfl ?_
  obtain ⟨v3, σ4, hc2, h⟩ := bnd2_some h
  refine AW.cV (n := 10) (as := [vI a0]) (st := []) (st' := [vI v3]) (uc' := 0) (us' := 0) (A_X12_noSurfer hΓ hc2) cf_X12_noSurfer ly_57 (le45 rfl) vc_12 (le45 rfl) wM_X12_435 (le45 rfl) (le45 rfl) (dat D_X12_hinders 5 rfl) rfl rfl (le45 rfl) (le45 rfl) rfl (fun _ => ?_) nlt0
  refine AW.if_eqH (t := 17) (n := 13) h (dat D_X12_hinders 6 rfl) rfl rfl (fun h => ?_) (fun h => ?_)
  · refine AW.aload_n (n := 18) (dat D_X12_hinders 9 rfl) rfl rfl ?_
    refine AW.iload_n (n := 19) (dat D_X12_hinders 10 rfl) rfl rfl ?_
    obtain ⟨v6, hc5, h⟩ := ob_some h
    refine AW.cV (n := 22) (as := [vI a0]) (st := []) (st' := [vI v6]) (uc' := 0) (us' := 0) (A_X12_hindersNow hΓ hc5) cf_X12_hindersNow ly_57 (le45 rfl) vc_12 (le45 rfl) wM_X12_400 (le45 rfl) (le45 rfl) (dat D_X12_hinders 11 rfl) rfl rfl (le45 rfl) (le45 rfl) rfl (fun _ => ?_) nlt0
    cases h
    exact AW.iret rfl rfl rfl (dat D_X12_hinders 12 rfl)
  · refine AW.iconst (n := 14) (dat D_X12_hinders 7 rfl) rfl ?_
    refine AW.goto (t := 22) (dat D_X12_hinders 8 rfl) rfl ?_
    cases h
    exact AW.iret rfl rfl rfl (dat D_X12_hinders 12 rfl)
