/-! ===== methods as functions, and their bytecode beside them (printed by wip/whole/gen/emit.py) ===== -/
def L_X12_beginsHeat : List (Nat × Instr × Nat) := [(0, .aload_n 0, 1), (1, .iconst 0, 1), (2, .putfield 352, 3), (5, .aload_n 0, 1), (6, .iconst 0, 1), (7, .putfield 340, 3), (10, .aload_n 0, 1), (11, .iconst (-1), 1), (12, .putfield 49, 3), (15, .aload_n 0, 1), (16, .iconst 0, 1), (17, .putfield 354, 3), (20, .aload_n 0, 1), (21, .iconst 0, 1), (22, .putfield 357, 3), (25, .aload_n 0, 1), (26, .iconst 0, 1), (27, .putfield 349, 3), (30, .aload_n 0, 1), (31, .iconst 0, 1), (32, .putfield 360, 3), (35, .aload_n 0, 1), (36, .iconst 0, 1), (37, .putfield 363, 3), (40, .aload_n 0, 1), (41, .iconst 0, 1), (42, .putfield 366, 3), (45, .aload_n 0, 1), (46, .iconst 0, 1), (47, .putfield 369, 3), (50, .aload_n 0, 1), (51, .iconst 0, 1), (52, .putfield 52, 3), (55, .aload_n 0, 1), (56, .iconst 0, 1), (57, .putfield 372, 3), (60, .aload_n 0, 1), (61, .iconst 0, 1), (62, .putfield 375, 3), (65, .iconst 0, 1), (66, .istore_n 1, 1), (67, .iload_n 1, 1), (68, .aload_n 0, 1), (69, .invokevirtual 378, 3), (72, .if_icmp .ge 64, 3), (75, .aload_n 0, 1), (76, .getfield 56, 3), (79, .iload_n 1, 1), (80, .aload_n 0, 1), (81, .getfield 21, 3), (84, .bipush 34, 2), (86, .iload_n 1, 1), (87, .iadd, 1), (88, .iaload, 1), (89, .iastore, 1), (90, .aload_n 0, 1), (91, .getfield 59, 3), (94, .iload_n 1, 1), (95, .aload_n 0, 1), (96, .getfield 56, 3), (99, .iload_n 1, 1), (100, .iaload, 1), (101, .iastore, 1), (102, .aload_n 0, 1), (103, .getfield 62, 3), (106, .iload_n 1, 1), (107, .iconst (-1), 1), (108, .iastore, 1), (109, .aload_n 0, 1), (110, .getfield 65, 3), (113, .iload_n 1, 1), (114, .iconst 0, 1), (115, .iastore, 1), (116, .aload_n 0, 1), (117, .getfield 68, 3), (120, .iload_n 1, 1), (121, .iconst 0, 1), (122, .iastore, 1), (123, .aload_n 0, 1), (124, .getfield 86, 3), (127, .iload_n 1, 1), (128, .iconst 1, 1), (129, .bastore, 1), (130, .iinc 1 1, 3), (133, .goto (-66), 3), (136, .return_, 1)]
theorem D_X12_beginsHeat : dOK cX12_beginsHeat L_X12_beginsHeat = true := by decide +kernel
theorem cf_X12_beginsHeat : CFV mX12_beginsHeat 0 := ⟨wI_X12_beginsHeat, wS_X12_beginsHeat, wN_WaveRightModel, wC_X12_beginsHeat, rfl, ⟨by decide +kernel, by decide +kernel, by decide +kernel⟩, le45 rfl⟩
def X12_beginsHeat_e67 (n : Nat) (σ17 : SG) : Option (SG) :=
  some (σ17)
def X12_beginsHeat_l67 (n : Nat) (z14 : Int) (σ15 : SG) : Option ((Int × SG) ⊕ (SG)) :=
  (X12_surfers n σ15).bind fun v19 =>
  if w32 v19 ≤ w32 z14 then
    some (.inr σ15)
  else
    rdA 144 (34 + z14) fun j20 =>
    rdA 5 z14 fun j21 => lt (up σ15 68 j21 (σ15 60 j20)) fun σ22 =>
    rdA 5 z14 fun j23 =>
    rdA 5 z14 fun j24 => lt (up σ22 69 j24 (σ22 68 j23)) fun σ25 =>
    rdA 5 z14 fun j26 => lt (up σ25 70 j26 (-1)) fun σ27 =>
    rdA 5 z14 fun j28 => lt (up σ27 71 j28 0) fun σ29 =>
    rdA 5 z14 fun j30 => lt (up σ29 72 j30 0) fun σ31 =>
    rdA 5 z14 fun j32 => lt (up σ31 78 j32 (wZ 1)) fun σ33 =>
    lt (z14 + 1) fun x34 =>
    some (.inl (x34, σ33))
def X12_beginsHeat (n : Nat) (σ : SG) : Option (SG) :=
  lt (up σ 57 25 0) fun σ1 =>
  lt (up σ1 57 26 0) fun σ2 =>
  lt (up σ2 57 27 (-1)) fun σ3 =>
  lt (up σ3 57 28 0) fun σ4 =>
  lt (up σ4 57 29 0) fun σ5 =>
  lt (up σ5 57 30 0) fun σ6 =>
  lt (up σ6 57 31 0) fun σ7 =>
  lt (up σ7 57 32 0) fun σ8 =>
  lt (up σ8 57 33 0) fun σ9 =>
  lt (up σ9 57 34 0) fun σ10 =>
  lt (up σ10 57 35 0) fun σ11 =>
  lt (up σ11 57 36 0) fun σ12 =>
  lt (up σ12 57 37 0) fun σ13 =>
  ((iter n (fun s : Int × SG => X12_beginsHeat_l67 n s.1 s.2) (0, σ13)) : Option (SG)).bind (fun s => X12_beginsHeat_e67 n s)
set_option maxHeartbeats 4000000 in
set_option maxRecDepth 100000 in
theorem A_X12_beginsHeat {Γ : GA} (hΓ : (gl Γ).stackTraces = false) {n : Nat} {σ : SG} {τ : SG}  (h : X12_beginsHeat n σ = some τ) : AM Γ mX12_beginsHeat 2 0 0 [vR 57] (85, σ) (0, 0) (85, τ) := by
  refine AM.of pl_X12 rfl wC_X12_beginsHeat (le45 rfl) hΓ ?_
  refine AW.to (ls'' := [some (vR 57), none]) ?_ (lle_s rfl (lle_e (lle_z)))
  unfold X12_beginsHeat at h
  refine AW.aload_n (n := 1) (dat D_X12_beginsHeat 0 rfl) rfl rfl ?_
  refine AW.iconst (n := 2) (dat D_X12_beginsHeat 1 rfl) rfl ?_
  refine AW.putI (n := 5) fX12_25 wF_X12_352 ly_57 (le45 rfl) rfl rfl rfl (dat D_X12_beginsHeat 2 rfl) rfl ?_
  refine AW.ltS h (fun σ1 h => ?_)
  refine AW.aload_n (n := 6) (dat D_X12_beginsHeat 3 rfl) rfl rfl ?_
  refine AW.iconst (n := 7) (dat D_X12_beginsHeat 4 rfl) rfl ?_
  refine AW.putI (n := 10) fX12_26 wF_X12_340 ly_57 (le45 rfl) rfl rfl rfl (dat D_X12_beginsHeat 5 rfl) rfl ?_
  refine AW.ltS h (fun σ2 h => ?_)
  refine AW.aload_n (n := 11) (dat D_X12_beginsHeat 6 rfl) rfl rfl ?_
  refine AW.iconst (n := 12) (dat D_X12_beginsHeat 7 rfl) rfl ?_
  refine AW.putI (n := 15) fX12_27 wF_X12_49 ly_57 (le45 rfl) rfl rfl rfl (dat D_X12_beginsHeat 8 rfl) rfl ?_
  refine AW.ltS h (fun σ3 h => ?_)
  refine AW.aload_n (n := 16) (dat D_X12_beginsHeat 9 rfl) rfl rfl ?_
  refine AW.iconst (n := 17) (dat D_X12_beginsHeat 10 rfl) rfl ?_
  refine AW.putI (n := 20) fX12_28 wF_X12_354 ly_57 (le45 rfl) rfl rfl rfl (dat D_X12_beginsHeat 11 rfl) rfl ?_
  refine AW.ltS h (fun σ4 h => ?_)
  refine AW.aload_n (n := 21) (dat D_X12_beginsHeat 12 rfl) rfl rfl ?_
  refine AW.iconst (n := 22) (dat D_X12_beginsHeat 13 rfl) rfl ?_
  refine AW.putI (n := 25) fX12_29 wF_X12_357 ly_57 (le45 rfl) rfl rfl rfl (dat D_X12_beginsHeat 14 rfl) rfl ?_
  refine AW.ltS h (fun σ5 h => ?_)
  refine AW.aload_n (n := 26) (dat D_X12_beginsHeat 15 rfl) rfl rfl ?_
  refine AW.iconst (n := 27) (dat D_X12_beginsHeat 16 rfl) rfl ?_
  refine AW.putI (n := 30) fX12_30 wF_X12_349 ly_57 (le45 rfl) rfl rfl rfl (dat D_X12_beginsHeat 17 rfl) rfl ?_
  refine AW.ltS h (fun σ6 h => ?_)
  refine AW.aload_n (n := 31) (dat D_X12_beginsHeat 18 rfl) rfl rfl ?_
  refine AW.iconst (n := 32) (dat D_X12_beginsHeat 19 rfl) rfl ?_
  refine AW.putI (n := 35) fX12_31 wF_X12_360 ly_57 (le45 rfl) rfl rfl rfl (dat D_X12_beginsHeat 20 rfl) rfl ?_
  refine AW.ltS h (fun σ7 h => ?_)
  refine AW.aload_n (n := 36) (dat D_X12_beginsHeat 21 rfl) rfl rfl ?_
  refine AW.iconst (n := 37) (dat D_X12_beginsHeat 22 rfl) rfl ?_
  refine AW.putI (n := 40) fX12_32 wF_X12_363 ly_57 (le45 rfl) rfl rfl rfl (dat D_X12_beginsHeat 23 rfl) rfl ?_
  refine AW.ltS h (fun σ8 h => ?_)
  refine AW.aload_n (n := 41) (dat D_X12_beginsHeat 24 rfl) rfl rfl ?_
  refine AW.iconst (n := 42) (dat D_X12_beginsHeat 25 rfl) rfl ?_
  refine AW.putI (n := 45) fX12_33 wF_X12_366 ly_57 (le45 rfl) rfl rfl rfl (dat D_X12_beginsHeat 26 rfl) rfl ?_
  refine AW.ltS h (fun σ9 h => ?_)
  refine AW.aload_n (n := 46) (dat D_X12_beginsHeat 27 rfl) rfl rfl ?_
  refine AW.iconst (n := 47) (dat D_X12_beginsHeat 28 rfl) rfl ?_
  refine AW.putI (n := 50) fX12_34 wF_X12_369 ly_57 (le45 rfl) rfl rfl rfl (dat D_X12_beginsHeat 29 rfl) rfl ?_
  refine AW.ltS h (fun σ10 h => ?_)
  refine AW.aload_n (n := 51) (dat D_X12_beginsHeat 30 rfl) rfl rfl ?_
  refine AW.iconst (n := 52) (dat D_X12_beginsHeat 31 rfl) rfl ?_
  refine AW.putZ (n := 55) (Or.inl rfl) fX12_35 wF_X12_52 ly_57 (le45 rfl) rfl rfl rfl (dat D_X12_beginsHeat 32 rfl) rfl ?_
  refine AW.ltS h (fun σ11 h => ?_)
  refine AW.aload_n (n := 56) (dat D_X12_beginsHeat 33 rfl) rfl rfl ?_
  refine AW.iconst (n := 57) (dat D_X12_beginsHeat 34 rfl) rfl ?_
  refine AW.putZ (n := 60) (Or.inl rfl) fX12_36 wF_X12_372 ly_57 (le45 rfl) rfl rfl rfl (dat D_X12_beginsHeat 35 rfl) rfl ?_
  refine AW.ltS h (fun σ12 h => ?_)
  refine AW.aload_n (n := 61) (dat D_X12_beginsHeat 36 rfl) rfl rfl ?_
  refine AW.iconst (n := 62) (dat D_X12_beginsHeat 37 rfl) rfl ?_
  refine AW.putZ (n := 65) (Or.inl rfl) fX12_37 wF_X12_375 ly_57 (le45 rfl) rfl rfl rfl (dat D_X12_beginsHeat 38 rfl) rfl ?_
  refine AW.ltS h (fun σ13 h => ?_)
  refine AW.iconst (n := 66) (dat D_X12_beginsHeat 39 rfl) rfl ?_
  refine AW.istore_n (n := 67) (ls' := [some (vR 57), some (vI 0)]) (dat D_X12_beginsHeat 40 rfl) rfl (le45 rfl) (le45 rfl) rfl rfl ?_
  obtain ⟨b16, hi16, hq16⟩ := ob_some h
  obtain ⟨σ17, e16⟩ : ∃ z, z = b16 := ⟨_, rfl⟩
  subst e16
  have hR16 : AW Γ mX12_beginsHeat 2 (0, 0) (85, τ) 0 0 136 [none, none] [] (85, σ17) := by
    have h : X12_beginsHeat_e67 n σ17 = some _ := hq16
    unfold X12_beginsHeat_e67 at h
    cases h
    exact AW.vret rfl rfl rfl (dat D_X12_beginsHeat 85 rfl)
  refine AW.to (ls'' := [some (vR 57), some (vI 0)]) ?_ (lle_s rfl (lle_s rfl (lle_z)))
  refine aw_iter (fun s : Int × SG => AW Γ mX12_beginsHeat 2 (0, 0) (85, τ) 0 0 67 [some (vR 57), some (vI (s.1))] [] (85, s.2)) (fun s y h hk16 hb16 => ?_) _ _ hi16
  obtain ⟨z14, σ15⟩ := s
  show AW Γ mX12_beginsHeat 2 (0, 0) (85, τ) 0 0 67 [some (vR 57), some (vI z14)] [] (85, σ15)
  have h : X12_beginsHeat_l67 n z14 σ15 = some y := h
  unfold X12_beginsHeat_l67 at h
  refine AW.iload_n (n := 68) (dat D_X12_beginsHeat 41 rfl) rfl rfl ?_
  refine AW.aload_n (n := 69) (dat D_X12_beginsHeat 42 rfl) rfl rfl ?_
  obtain ⟨v19, hc18, h⟩ := ob_some h
  refine AW.cV (n := 72) (as := []) (st := [vI z14]) (st' := [vI v19, vI z14]) (uc' := 0) (us' := 0) (A_X12_surfers hΓ hc18) cf_X12_surfers ly_57 (le45 rfl) vc_12 (le45 rfl) wM_X12_378 (le45 rfl) (le45 rfl) (dat D_X12_beginsHeat 43 rfl) rfl rfl (le45 rfl) (le45 rfl) rfl (fun _ => ?_) nlt0
  refine AW.icmp_geH (t := 136) (n := 75) h (dat D_X12_beginsHeat 44 rfl) rfl rfl rfl rfl (fun h => ?_) (fun h => ?_)
  · cases h
    have hb := hb16 _ rfl
    cases hb
    exact AW.to hR16 (lle_n (lle_n (lle_z)))
  · refine AW.aload_n (n := 76) (dat D_X12_beginsHeat 45 rfl) rfl rfl ?_
    refine AW.getR (n := 79) (t := 68) fX12_38 wF_X12_56 ly_57 (le45 rfl) rfl (dat D_X12_beginsHeat 46 rfl) rfl ?_
    refine AW.iload_n (n := 80) (dat D_X12_beginsHeat 47 rfl) rfl rfl ?_
    refine AW.aload_n (n := 81) (dat D_X12_beginsHeat 48 rfl) rfl rfl ?_
    refine AW.getR (n := 84) (t := 60) fX12_9 wF_X12_21 ly_57 (le45 rfl) rfl (dat D_X12_beginsHeat 49 rfl) rfl ?_
    refine AW.bipush (n := 86) (dat D_X12_beginsHeat 50 rfl) rfl (by decide) ?_
    refine AW.iload_n (n := 87) (dat D_X12_beginsHeat 51 rfl) rfl rfl ?_
    refine AW.iadd (n := 88) (dat D_X12_beginsHeat 52 rfl) rfl ?_
    refine AW.ialdH h (n := 89) rfl ly_60 (le45 rfl) (dat D_X12_beginsHeat 53 rfl) rfl (fun j20 h => ?_)
    refine AW.iastH h (n := 90) rfl ly_68 (le45 rfl) (dat D_X12_beginsHeat 54 rfl) rfl (fun j21 h => ?_)
    refine AW.ltS h (fun σ22 h => ?_)
    refine AW.aload_n (n := 91) (dat D_X12_beginsHeat 55 rfl) rfl rfl ?_
    refine AW.getR (n := 94) (t := 69) fX12_39 wF_X12_59 ly_57 (le45 rfl) rfl (dat D_X12_beginsHeat 56 rfl) rfl ?_
    refine AW.iload_n (n := 95) (dat D_X12_beginsHeat 57 rfl) rfl rfl ?_
    refine AW.aload_n (n := 96) (dat D_X12_beginsHeat 58 rfl) rfl rfl ?_
    refine AW.getR (n := 99) (t := 68) fX12_38 wF_X12_56 ly_57 (le45 rfl) rfl (dat D_X12_beginsHeat 59 rfl) rfl ?_
    refine AW.iload_n (n := 100) (dat D_X12_beginsHeat 60 rfl) rfl rfl ?_
    refine AW.ialdH h (n := 101) rfl ly_68 (le45 rfl) (dat D_X12_beginsHeat 61 rfl) rfl (fun j23 h => ?_)
    refine AW.iastH h (n := 102) rfl ly_69 (le45 rfl) (dat D_X12_beginsHeat 62 rfl) rfl (fun j24 h => ?_)
    refine AW.ltS h (fun σ25 h => ?_)
    refine AW.aload_n (n := 103) (dat D_X12_beginsHeat 63 rfl) rfl rfl ?_
    refine AW.getR (n := 106) (t := 70) fX12_40 wF_X12_62 ly_57 (le45 rfl) rfl (dat D_X12_beginsHeat 64 rfl) rfl ?_
    refine AW.iload_n (n := 107) (dat D_X12_beginsHeat 65 rfl) rfl rfl ?_
    refine AW.iconst (n := 108) (dat D_X12_beginsHeat 66 rfl) rfl ?_
    refine AW.iastH h (n := 109) rfl ly_70 (le45 rfl) (dat D_X12_beginsHeat 67 rfl) rfl (fun j26 h => ?_)
    refine AW.ltS h (fun σ27 h => ?_)
    refine AW.aload_n (n := 110) (dat D_X12_beginsHeat 68 rfl) rfl rfl ?_
    refine AW.getR (n := 113) (t := 71) fX12_41 wF_X12_65 ly_57 (le45 rfl) rfl (dat D_X12_beginsHeat 69 rfl) rfl ?_
    refine AW.iload_n (n := 114) (dat D_X12_beginsHeat 70 rfl) rfl rfl ?_
    refine AW.iconst (n := 115) (dat D_X12_beginsHeat 71 rfl) rfl ?_
    refine AW.iastH h (n := 116) rfl ly_71 (le45 rfl) (dat D_X12_beginsHeat 72 rfl) rfl (fun j28 h => ?_)
    refine AW.ltS h (fun σ29 h => ?_)
    refine AW.aload_n (n := 117) (dat D_X12_beginsHeat 73 rfl) rfl rfl ?_
    refine AW.getR (n := 120) (t := 72) fX12_42 wF_X12_68 ly_57 (le45 rfl) rfl (dat D_X12_beginsHeat 74 rfl) rfl ?_
    refine AW.iload_n (n := 121) (dat D_X12_beginsHeat 75 rfl) rfl rfl ?_
    refine AW.iconst (n := 122) (dat D_X12_beginsHeat 76 rfl) rfl ?_
    refine AW.iastH h (n := 123) rfl ly_72 (le45 rfl) (dat D_X12_beginsHeat 77 rfl) rfl (fun j30 h => ?_)
    refine AW.ltS h (fun σ31 h => ?_)
    refine AW.aload_n (n := 124) (dat D_X12_beginsHeat 78 rfl) rfl rfl ?_
    refine AW.getR (n := 127) (t := 78) fX12_48 wF_X12_86 ly_57 (le45 rfl) rfl (dat D_X12_beginsHeat 79 rfl) rfl ?_
    refine AW.iload_n (n := 128) (dat D_X12_beginsHeat 80 rfl) rfl rfl ?_
    refine AW.iconst (n := 129) (dat D_X12_beginsHeat 81 rfl) rfl ?_
    refine AW.zastH h (n := 130) rfl ly_78 (le45 rfl) (dat D_X12_beginsHeat 82 rfl) rfl (fun j32 h => ?_)
    refine AW.ltS h (fun σ33 h => ?_)
    refine AW.iincH h (n := 133) (dat D_X12_beginsHeat 83 rfl) rfl rfl (le45 rfl) rfl (fun x34 h => ?_)
    refine AW.lq (ls' := [some (vR 57), some (vI x34)]) rfl ?_
    refine AW.goto (t := 67) (dat D_X12_beginsHeat 84 rfl) rfl ?_
    cases h
    exact AW.to (hk16 _ rfl) (lle_s rfl (lle_s rfl (lle_z)))
def L_X12_sea : List (Nat × Instr × Nat) := [(0, .aload_n 0, 1), (1, .iconst 0, 1), (2, .putfield 105, 3), (5, .aload_n 0, 1), (6, .invokevirtual 224, 3), (9, .iconst 0, 1), (10, .istore_n 1, 1), (11, .iload_n 1, 1), (12, .sipush 144, 3), (15, .if_icmp .ge 16, 3), (18, .aload_n 0, 1), (19, .getfield 24, 3), (22, .iload_n 1, 1), (23, .iconst 0, 1), (24, .iastore, 1), (25, .iinc 1 1, 3), (28, .goto (-17), 3), (31, .aload_n 0, 1), (32, .getfield 24, 3), (35, .iconst 2, 1), (36, .bipush 30, 2), (38, .iastore, 1), (39, .aload_n 0, 1), (40, .iconst 0, 1), (41, .putfield 214, 3), (44, .aload_n 0, 1), (45, .iconst 0, 1), (46, .putfield 217, 3), (49, .aload_n 0, 1), (50, .invokevirtual 127, 3), (53, .aload_n 0, 1), (54, .invokevirtual 130, 3), (57, .ifCond .ne 25, 3), (60, .aload_n 0, 1), (61, .getfield 114, 3), (64, .aload_n 0, 1), (65, .getfield 111, 3), (68, .if_icmp .ge 14, 3), (71, .aload_n 0, 1), (72, .invokevirtual 227, 3), (75, .aload_n 0, 1), (76, .invokevirtual 127, 3), (79, .goto (-26), 3), (82, .aload_n 0, 1), (83, .invokevirtual 130, 3), (86, .ifCond .ne 17, 3), (89, .aload_n 0, 1), (90, .getfield 24, 3), (93, .iconst 0, 1), (94, .iaload, 1), (95, .iconst 2, 1), (96, .if_icmp .ge 7, 3), (99, .aload_n 0, 1), (100, .invokevirtual 141, 3), (103, .aload_n 0, 1), (104, .aload_n 0, 1), (105, .getfield 117, 3), (108, .putfield 17, 3), (111, .aload_n 0, 1), (112, .aload_n 0, 1), (113, .invokevirtual 130, 3), (116, .iconst 1, 1), (117, .invokevirtual 230, 3), (120, .ifCond .eq 5, 3), (123, .iconst 0, 1), (124, .ireturn, 1), (125, .iconst 0, 1), (126, .istore_n 1, 1), (127, .iload_n 1, 1), (128, .sipush 144, 3), (131, .if_icmp .ge 21, 3), (134, .aload_n 0, 1), (135, .getfield 21, 3), (138, .iload_n 1, 1), (139, .aload_n 0, 1), (140, .getfield 24, 3), (143, .iload_n 1, 1), (144, .iaload, 1), (145, .iastore, 1), (146, .iinc 1 1, 3), (149, .goto (-22), 3), (152, .aload_n 0, 1), (153, .iconst 1, 1), (154, .putfield 234, 3), (157, .aload_n 0, 1), (158, .invokevirtual 237, 3), (161, .aload_n 0, 1), (162, .getfield 21, 3), (165, .iconst 1, 1), (166, .iaload, 1), (167, .ireturn, 1)]
theorem D_X12_sea : dOK cX12_sea L_X12_sea = true := by decide +kernel
theorem cf_X12_sea : CFV mX12_sea 0 := ⟨wI_X12_sea, wS_X12_sea, wN_WaveRightModel, wC_X12_sea, rfl, ⟨by decide +kernel, by decide +kernel, by decide +kernel⟩, le45 rfl⟩
def X12_sea_e127 (n : Nat) (σ30 : SG) : Option (Int × SG) :=
  lt (up σ30 57 11 1) fun σ31 =>
  (X12_beginsHeat n σ31).bind fun σ33 =>
  rdA 144 1 fun j34 =>
  some (((σ33 60 j34), σ33))
def X12_sea_l127 (n : Nat) (z27 : Int) (σ28 : SG) : Option ((Int × SG) ⊕ (SG)) :=
  if 144 ≤ w32 z27 then
    some (.inr σ28)
  else
    rdA 144 z27 fun j35 =>
    rdA 144 z27 fun j36 => lt (up σ28 60 j36 (σ28 61 j35)) fun σ37 =>
    lt (z27 + 1) fun x38 =>
    some (.inl (x38, σ37))
def X12_sea_j103 (n : Nat) (σ19 : SG) : Option (Int × SG) :=
  lt (up σ19 57 8 (σ19 57 7)) fun σ21 =>
  (X12_hasFailed n σ21).bind fun v23 =>
  bnd2 (X12_throwsIf n v23 1 σ21) fun v25 σ26 =>
  if w32 v25 = 0 then
    ((iter n (fun s : Int × SG => X12_sea_l127 n s.1 s.2) (0, σ26)) : Option (SG)).bind (fun s => X12_sea_e127 n s)
  else
    some ((0, σ26))
def X12_sea_e53 (n : Nat) (σ16 : SG) : Option (Int × SG) :=
  (X12_hasFailed n σ16).bind fun v18 =>
  ((if w32 v18 = 0 then
    rdA 144 0 fun j39 =>
    if 2 ≤ w32 (σ16 61 j39) then
      some (σ16)
    else
      (X12_fails n σ16).bind fun σ41 =>
      some (σ41)
  else
    some (σ16)) : Option (SG)).bind (fun s => X12_sea_j103 n s)
def X12_sea_l53 (n : Nat) (σ14 : SG) : Option ((SG) ⊕ (SG)) :=
  (X12_hasFailed n σ14).bind fun v43 =>
  if w32 v43 = 0 then
    if w32 (σ14 57 6) ≤ w32 (σ14 57 4) then
      some (.inr σ14)
    else
      (X12_seaLine n σ14).bind fun σ45 =>
      (X12_blanks n σ45).bind fun σ47 =>
      some (.inl σ47)
  else
    some (.inr σ14)
def X12_sea_e11 (n : Nat) (σ7 : SG) : Option (Int × SG) :=
  rdA 144 2 fun j8 => lt (up σ7 61 j8 30) fun σ9 =>
  lt (up σ9 57 12 0) fun σ10 =>
  lt (up σ10 57 13 0) fun σ11 =>
  (X12_blanks n σ11).bind fun σ13 =>
  ((iter n (fun s : SG => X12_sea_l53 n s) σ13) : Option (SG)).bind (fun s => X12_sea_e53 n s)
def X12_sea_l11 (n : Nat) (z4 : Int) (σ5 : SG) : Option ((Int × SG) ⊕ (SG)) :=
  if 144 ≤ w32 z4 then
    some (.inr σ5)
  else
    rdA 144 z4 fun j48 => lt (up σ5 61 j48 0) fun σ49 =>
    lt (z4 + 1) fun x50 =>
    some (.inl (x50, σ49))
def X12_sea (n : Nat) (σ : SG) : Option (Int × SG) :=
  lt (up σ 57 0 0) fun σ1 =>
  (X12_begins n σ1).bind fun σ3 =>
  ((iter n (fun s : Int × SG => X12_sea_l11 n s.1 s.2) (0, σ3)) : Option (SG)).bind (fun s => X12_sea_e11 n s)
set_option maxHeartbeats 4000000 in
set_option maxRecDepth 100000 in
theorem A_X12_sea {Γ : GA} (hΓ : (gl Γ).stackTraces = false) {n : Nat} {σ : SG} {r : Int} {τ : SG}  (h : X12_sea n σ = some (r, τ)) : AM Γ mX12_sea 15 0 0 [vR 57] (85, σ) (0, r) (85, τ) := by
  refine AM.of pl_X12 rfl wC_X12_sea (le45 rfl) hΓ ?_
  refine AW.to (ls'' := [some (vR 57), none]) ?_ (lle_s rfl (lle_e (lle_z)))
  unfold X12_sea at h
  refine AW.aload_n (n := 1) (dat D_X12_sea 0 rfl) rfl rfl ?_
  refine AW.iconst (n := 2) (dat D_X12_sea 1 rfl) rfl ?_
  refine AW.putI (n := 5) fX12_0 wF_X12_105 ly_57 (le45 rfl) rfl rfl rfl (dat D_X12_sea 2 rfl) rfl ?_
  refine AW.ltS h (fun σ1 h => ?_)
  refine AW.aload_n (n := 6) (dat D_X12_sea 3 rfl) rfl rfl ?_
  obtain ⟨σ3, hc2, h⟩ := ob_some h
  refine AW.cV (n := 9) (as := []) (st := []) (st' := []) (uc' := 0) (us' := 0) (A_X12_begins hΓ hc2) cf_X12_begins ly_57 (le45 rfl) vc_12 (le45 rfl) wM_X12_224 (le45 rfl) (le45 rfl) (dat D_X12_sea 4 rfl) rfl rfl (le45 rfl) (le45 rfl) rfl (fun _ => ?_) nlt0
  refine AW.iconst (n := 10) (dat D_X12_sea 5 rfl) rfl ?_
  refine AW.istore_n (n := 11) (ls' := [some (vR 57), some (vI 0)]) (dat D_X12_sea 6 rfl) rfl (le45 rfl) (le45 rfl) rfl rfl ?_
  obtain ⟨b6, hi6, hq6⟩ := ob_some h
  obtain ⟨σ7, e6⟩ : ∃ z, z = b6 := ⟨_, rfl⟩
  subst e6
  have hR6 : AW Γ mX12_sea 15 (0, r) (85, τ) 0 0 31 [some (vR 57), none] [] (85, σ7) := by
    have h : X12_sea_e11 n σ7 = some _ := hq6
    unfold X12_sea_e11 at h
    refine AW.aload_n (n := 32) (dat D_X12_sea 17 rfl) rfl rfl ?_
    refine AW.getR (n := 35) (t := 61) fX12_10 wF_X12_24 ly_57 (le45 rfl) rfl (dat D_X12_sea 18 rfl) rfl ?_
    refine AW.iconst (n := 36) (dat D_X12_sea 19 rfl) rfl ?_
    refine AW.bipush (n := 38) (dat D_X12_sea 20 rfl) rfl (by decide) ?_
    refine AW.iastH h (n := 39) rfl ly_61 (le45 rfl) (dat D_X12_sea 21 rfl) rfl (fun j8 h => ?_)
    refine AW.ltS h (fun σ9 h => ?_)
    refine AW.aload_n (n := 40) (dat D_X12_sea 22 rfl) rfl rfl ?_
    refine AW.iconst (n := 41) (dat D_X12_sea 23 rfl) rfl ?_
    refine AW.putZ (n := 44) (Or.inl rfl) fX12_12 wF_X12_214 ly_57 (le45 rfl) rfl rfl rfl (dat D_X12_sea 24 rfl) rfl ?_
    refine AW.ltS h (fun σ10 h => ?_)
    refine AW.aload_n (n := 45) (dat D_X12_sea 25 rfl) rfl rfl ?_
    refine AW.iconst (n := 46) (dat D_X12_sea 26 rfl) rfl ?_
    refine AW.putZ (n := 49) (Or.inl rfl) fX12_13 wF_X12_217 ly_57 (le45 rfl) rfl rfl rfl (dat D_X12_sea 27 rfl) rfl ?_
    refine AW.ltS h (fun σ11 h => ?_)
    refine AW.aload_n (n := 50) (dat D_X12_sea 28 rfl) rfl rfl ?_
    obtain ⟨σ13, hc12, h⟩ := ob_some h
    refine AW.cV (n := 53) (as := []) (st := []) (st' := []) (uc' := 0) (us' := 0) (A_X12_blanks hΓ hc12) cf_X12_blanks ly_57 (le45 rfl) vc_12 (le45 rfl) wM_X12_127 (le45 rfl) (le45 rfl) (dat D_X12_sea 29 rfl) rfl rfl (le45 rfl) (le45 rfl) rfl (fun _ => ?_) nlt0
    obtain ⟨b15, hi15, hq15⟩ := ob_some h
    obtain ⟨σ16, e15⟩ : ∃ z, z = b15 := ⟨_, rfl⟩
    subst e15
    have hR15 : AW Γ mX12_sea 15 (0, r) (85, τ) 0 0 82 [some (vR 57), none] [] (85, σ16) := by
      have h : X12_sea_e53 n σ16 = some _ := hq15
      unfold X12_sea_e53 at h
      refine AW.aload_n (n := 83) (dat D_X12_sea 43 rfl) rfl rfl ?_
      obtain ⟨v18, hc17, h⟩ := ob_some h
      refine AW.cV (n := 86) (as := []) (st := []) (st' := [vI v18]) (uc' := 0) (us' := 0) (A_X12_hasFailed hΓ hc17) cf_X12_hasFailed ly_57 (le45 rfl) vc_12 (le45 rfl) wM_X12_130 (le45 rfl) (le45 rfl) (dat D_X12_sea 44 rfl) rfl rfl (le45 rfl) (le45 rfl) rfl (fun _ => ?_) nlt0
      obtain ⟨s20, h, hq20⟩ := ob_some h
      obtain ⟨σ19, e20⟩ : ∃ z, z = s20 := ⟨_, rfl⟩
      subst e20
      have hJ20 : AW Γ mX12_sea 15 (0, r) (85, τ) 0 0 103 [some (vR 57), none] [] (85, σ19) := by
        have h : X12_sea_j103 n σ19 = some _ := hq20
        unfold X12_sea_j103 at h
        refine AW.aload_n (n := 104) (dat D_X12_sea 54 rfl) rfl rfl ?_
        refine AW.aload_n (n := 105) (dat D_X12_sea 55 rfl) rfl rfl ?_
        refine AW.getI (n := 108) fX12_7 wF_X12_117 ly_57 (le45 rfl) rfl rfl (dat D_X12_sea 56 rfl) rfl ?_
        refine AW.putI (n := 111) fX12_8 wF_X12_17 ly_57 (le45 rfl) rfl rfl rfl (dat D_X12_sea 57 rfl) rfl ?_
        refine AW.ltS h (fun σ21 h => ?_)
        refine AW.aload_n (n := 112) (dat D_X12_sea 58 rfl) rfl rfl ?_
        refine AW.aload_n (n := 113) (dat D_X12_sea 59 rfl) rfl rfl ?_
        obtain ⟨v23, hc22, h⟩ := ob_some h
        refine AW.cV (n := 116) (as := []) (st := [vR 57]) (st' := [vI v23, vR 57]) (uc' := 0) (us' := 0) (A_X12_hasFailed hΓ hc22) cf_X12_hasFailed ly_57 (le45 rfl) vc_12 (le45 rfl) wM_X12_130 (le45 rfl) (le45 rfl) (dat D_X12_sea 60 rfl) rfl rfl (le45 rfl) (le45 rfl) rfl (fun _ => ?_) nlt0
        refine AW.iconst (n := 117) (dat D_X12_sea 61 rfl) rfl ?_
        obtain ⟨v25, σ26, hc24, h⟩ := bnd2_some h
        refine AW.cV (n := 120) (as := [vI v23, vI 1]) (st := []) (st' := [vI v25]) (uc' := 0) (us' := 0) (A_X12_throwsIf hΓ hc24) cf_X12_throwsIf ly_57 (le45 rfl) vc_12 (le45 rfl) wM_X12_230 (le45 rfl) (le45 rfl) (dat D_X12_sea 62 rfl) rfl rfl (le45 rfl) (le45 rfl) rfl (fun _ => ?_) nlt0
        refine AW.if_eqH (t := 125) (n := 123) h (dat D_X12_sea 63 rfl) rfl rfl (fun h => ?_) (fun h => ?_)
        · refine AW.iconst (n := 126) (dat D_X12_sea 66 rfl) rfl ?_
          refine AW.istore_n (n := 127) (ls' := [some (vR 57), some (vI 0)]) (dat D_X12_sea 67 rfl) rfl (le45 rfl) (le45 rfl) rfl rfl ?_
          obtain ⟨b29, hi29, hq29⟩ := ob_some h
          obtain ⟨σ30, e29⟩ : ∃ z, z = b29 := ⟨_, rfl⟩
          subst e29
          have hR29 : AW Γ mX12_sea 15 (0, r) (85, τ) 0 0 152 [some (vR 57), none] [] (85, σ30) := by
            have h : X12_sea_e127 n σ30 = some _ := hq29
            unfold X12_sea_e127 at h
            refine AW.aload_n (n := 153) (dat D_X12_sea 81 rfl) rfl rfl ?_
            refine AW.iconst (n := 154) (dat D_X12_sea 82 rfl) rfl ?_
            refine AW.putZ (n := 157) (Or.inr rfl) fX12_11 wF_X12_234 ly_57 (le45 rfl) rfl rfl rfl (dat D_X12_sea 83 rfl) rfl ?_
            refine AW.ltS h (fun σ31 h => ?_)
            refine AW.aload_n (n := 158) (dat D_X12_sea 84 rfl) rfl rfl ?_
            obtain ⟨σ33, hc32, h⟩ := ob_some h
            refine AW.cV (n := 161) (as := []) (st := []) (st' := []) (uc' := 0) (us' := 0) (A_X12_beginsHeat hΓ hc32) cf_X12_beginsHeat ly_57 (le45 rfl) vc_12 (le45 rfl) wM_X12_237 (le45 rfl) (le45 rfl) (dat D_X12_sea 85 rfl) rfl rfl (le45 rfl) (le45 rfl) rfl (fun _ => ?_) nlt0
            refine AW.aload_n (n := 162) (dat D_X12_sea 86 rfl) rfl rfl ?_
            refine AW.getR (n := 165) (t := 60) fX12_9 wF_X12_21 ly_57 (le45 rfl) rfl (dat D_X12_sea 87 rfl) rfl ?_
            refine AW.iconst (n := 166) (dat D_X12_sea 88 rfl) rfl ?_
            refine AW.ialdH h (n := 167) rfl ly_60 (le45 rfl) (dat D_X12_sea 89 rfl) rfl (fun j34 h => ?_)
            cases h
            exact AW.iret rfl rfl rfl (dat D_X12_sea 90 rfl)
          refine AW.to (ls'' := [some (vR 57), some (vI 0)]) ?_ (lle_s rfl (lle_s rfl (lle_z)))
          refine aw_iter (fun s : Int × SG => AW Γ mX12_sea 15 (0, r) (85, τ) 0 0 127 [some (vR 57), some (vI (s.1))] [] (85, s.2)) (fun s y h hk29 hb29 => ?_) _ _ hi29
          obtain ⟨z27, σ28⟩ := s
          show AW Γ mX12_sea 15 (0, r) (85, τ) 0 0 127 [some (vR 57), some (vI z27)] [] (85, σ28)
          have h : X12_sea_l127 n z27 σ28 = some y := h
          unfold X12_sea_l127 at h
          refine AW.iload_n (n := 128) (dat D_X12_sea 68 rfl) rfl rfl ?_
          refine AW.sipush (n := 131) (dat D_X12_sea 69 rfl) rfl (by decide) ?_
          refine AW.icmp_geH (t := 152) (n := 134) h (dat D_X12_sea 70 rfl) rfl rfl rfl (by decide) (fun h => ?_) (fun h => ?_)
          · cases h
            have hb := hb29 _ rfl
            cases hb
            exact AW.to hR29 (lle_s rfl (lle_n (lle_z)))
          · refine AW.aload_n (n := 135) (dat D_X12_sea 71 rfl) rfl rfl ?_
            refine AW.getR (n := 138) (t := 60) fX12_9 wF_X12_21 ly_57 (le45 rfl) rfl (dat D_X12_sea 72 rfl) rfl ?_
            refine AW.iload_n (n := 139) (dat D_X12_sea 73 rfl) rfl rfl ?_
            refine AW.aload_n (n := 140) (dat D_X12_sea 74 rfl) rfl rfl ?_
            refine AW.getR (n := 143) (t := 61) fX12_10 wF_X12_24 ly_57 (le45 rfl) rfl (dat D_X12_sea 75 rfl) rfl ?_
            refine AW.iload_n (n := 144) (dat D_X12_sea 76 rfl) rfl rfl ?_
            refine AW.ialdH h (n := 145) rfl ly_61 (le45 rfl) (dat D_X12_sea 77 rfl) rfl (fun j35 h => ?_)
            refine AW.iastH h (n := 146) rfl ly_60 (le45 rfl) (dat D_X12_sea 78 rfl) rfl (fun j36 h => ?_)
            refine AW.ltS h (fun σ37 h => ?_)
            refine AW.iincH h (n := 149) (dat D_X12_sea 79 rfl) rfl rfl (le45 rfl) rfl (fun x38 h => ?_)
            refine AW.lq (ls' := [some (vR 57), some (vI x38)]) rfl ?_
            refine AW.goto (t := 127) (dat D_X12_sea 80 rfl) rfl ?_
            cases h
            exact AW.to (hk29 _ rfl) (lle_s rfl (lle_s rfl (lle_z)))
        · refine AW.iconst (n := 124) (dat D_X12_sea 64 rfl) rfl ?_
          cases h
          exact AW.iret rfl rfl rfl (dat D_X12_sea 65 rfl)
      refine AW.if_neH (t := 103) (n := 89) h (dat D_X12_sea 45 rfl) rfl rfl (fun h => ?_) (fun h => ?_)
      · refine AW.aload_n (n := 90) (dat D_X12_sea 46 rfl) rfl rfl ?_
        refine AW.getR (n := 93) (t := 61) fX12_10 wF_X12_24 ly_57 (le45 rfl) rfl (dat D_X12_sea 47 rfl) rfl ?_
        refine AW.iconst (n := 94) (dat D_X12_sea 48 rfl) rfl ?_
        refine AW.ialdH h (n := 95) rfl ly_61 (le45 rfl) (dat D_X12_sea 49 rfl) rfl (fun j39 h => ?_)
        refine AW.iconst (n := 96) (dat D_X12_sea 50 rfl) rfl ?_
        refine AW.icmp_geH (t := 103) (n := 99) h (dat D_X12_sea 51 rfl) rfl rfl rfl (by decide) (fun h => ?_) (fun h => ?_)
        · cases h
          exact AW.to hJ20 (lle_s rfl (lle_n (lle_z)))
        · refine AW.aload_n (n := 100) (dat D_X12_sea 52 rfl) rfl rfl ?_
          obtain ⟨σ41, hc40, h⟩ := ob_some h
          refine AW.cV (n := 103) (as := []) (st := []) (st' := []) (uc' := 0) (us' := 0) (A_X12_fails hΓ hc40) cf_X12_fails ly_57 (le45 rfl) vc_12 (le45 rfl) wM_X12_141 (le45 rfl) (le45 rfl) (dat D_X12_sea 53 rfl) rfl rfl (le45 rfl) (le45 rfl) rfl (fun _ => ?_) nlt0
          cases h
          exact AW.to hJ20 (lle_s rfl (lle_n (lle_z)))
      · cases h
        exact AW.to hJ20 (lle_s rfl (lle_n (lle_z)))
    refine AW.to (ls'' := [some (vR 57), none]) ?_ (lle_s rfl (lle_n (lle_z)))
    refine aw_iter (fun s : SG => AW Γ mX12_sea 15 (0, r) (85, τ) 0 0 53 [some (vR 57), none] [] (85, s)) (fun s y h hk15 hb15 => ?_) _ _ hi15
    obtain ⟨σ14, e15⟩ : ∃ z, z = s := ⟨_, rfl⟩
    subst e15
    show AW Γ mX12_sea 15 (0, r) (85, τ) 0 0 53 [some (vR 57), none] [] (85, σ14)
    have h : X12_sea_l53 n σ14 = some y := h
    unfold X12_sea_l53 at h
    refine AW.aload_n (n := 54) (dat D_X12_sea 30 rfl) rfl rfl ?_
    obtain ⟨v43, hc42, h⟩ := ob_some h
    refine AW.cV (n := 57) (as := []) (st := []) (st' := [vI v43]) (uc' := 0) (us' := 0) (A_X12_hasFailed hΓ hc42) cf_X12_hasFailed ly_57 (le45 rfl) vc_12 (le45 rfl) wM_X12_130 (le45 rfl) (le45 rfl) (dat D_X12_sea 31 rfl) rfl rfl (le45 rfl) (le45 rfl) rfl (fun _ => ?_) nlt0
    refine AW.if_neH (t := 82) (n := 60) h (dat D_X12_sea 32 rfl) rfl rfl (fun h => ?_) (fun h => ?_)
    · refine AW.aload_n (n := 61) (dat D_X12_sea 33 rfl) rfl rfl ?_
      refine AW.getI (n := 64) fX12_4 wF_X12_114 ly_57 (le45 rfl) rfl rfl (dat D_X12_sea 34 rfl) rfl ?_
      refine AW.aload_n (n := 65) (dat D_X12_sea 35 rfl) rfl rfl ?_
      refine AW.getI (n := 68) fX12_6 wF_X12_111 ly_57 (le45 rfl) rfl rfl (dat D_X12_sea 36 rfl) rfl ?_
      refine AW.icmp_geH (t := 82) (n := 71) h (dat D_X12_sea 37 rfl) rfl rfl rfl rfl (fun h => ?_) (fun h => ?_)
      · cases h
        have hb := hb15 _ rfl
        cases hb
        exact AW.to hR15 (lle_s rfl (lle_n (lle_z)))
      · refine AW.aload_n (n := 72) (dat D_X12_sea 38 rfl) rfl rfl ?_
        obtain ⟨σ45, hc44, h⟩ := ob_some h
        refine AW.cV (n := 75) (as := []) (st := []) (st' := []) (uc' := 0) (us' := 0) (A_X12_seaLine hΓ hc44) cf_X12_seaLine ly_57 (le45 rfl) vc_12 (le45 rfl) wM_X12_227 (le45 rfl) (le45 rfl) (dat D_X12_sea 39 rfl) rfl rfl (le45 rfl) (le45 rfl) rfl (fun _ => ?_) nlt0
        refine AW.aload_n (n := 76) (dat D_X12_sea 40 rfl) rfl rfl ?_
        obtain ⟨σ47, hc46, h⟩ := ob_some h
        refine AW.cV (n := 79) (as := []) (st := []) (st' := []) (uc' := 0) (us' := 0) (A_X12_blanks hΓ hc46) cf_X12_blanks ly_57 (le45 rfl) vc_12 (le45 rfl) wM_X12_127 (le45 rfl) (le45 rfl) (dat D_X12_sea 41 rfl) rfl rfl (le45 rfl) (le45 rfl) rfl (fun _ => ?_) nlt0
        refine AW.goto (t := 53) (dat D_X12_sea 42 rfl) rfl ?_
        cases h
        exact AW.to (hk15 _ rfl) (lle_s rfl (lle_n (lle_z)))
    · cases h
      have hb := hb15 _ rfl
      cases hb
      exact AW.to hR15 (lle_s rfl (lle_n (lle_z)))
  refine AW.to (ls'' := [some (vR 57), some (vI 0)]) ?_ (lle_s rfl (lle_s rfl (lle_z)))
  refine aw_iter (fun s : Int × SG => AW Γ mX12_sea 15 (0, r) (85, τ) 0 0 11 [some (vR 57), some (vI (s.1))] [] (85, s.2)) (fun s y h hk6 hb6 => ?_) _ _ hi6
  obtain ⟨z4, σ5⟩ := s
  show AW Γ mX12_sea 15 (0, r) (85, τ) 0 0 11 [some (vR 57), some (vI z4)] [] (85, σ5)
  have h : X12_sea_l11 n z4 σ5 = some y := h
  unfold X12_sea_l11 at h
  refine AW.iload_n (n := 12) (dat D_X12_sea 7 rfl) rfl rfl ?_
  refine AW.sipush (n := 15) (dat D_X12_sea 8 rfl) rfl (by decide) ?_
  refine AW.icmp_geH (t := 31) (n := 18) h (dat D_X12_sea 9 rfl) rfl rfl rfl (by decide) (fun h => ?_) (fun h => ?_)
  · cases h
    have hb := hb6 _ rfl
    cases hb
    exact AW.to hR6 (lle_s rfl (lle_n (lle_z)))
  · refine AW.aload_n (n := 19) (dat D_X12_sea 10 rfl) rfl rfl ?_
    refine AW.getR (n := 22) (t := 61) fX12_10 wF_X12_24 ly_57 (le45 rfl) rfl (dat D_X12_sea 11 rfl) rfl ?_
    refine AW.iload_n (n := 23) (dat D_X12_sea 12 rfl) rfl rfl ?_
    refine AW.iconst (n := 24) (dat D_X12_sea 13 rfl) rfl ?_
    refine AW.iastH h (n := 25) rfl ly_61 (le45 rfl) (dat D_X12_sea 14 rfl) rfl (fun j48 h => ?_)
    refine AW.ltS h (fun σ49 h => ?_)
    refine AW.iincH h (n := 28) (dat D_X12_sea 15 rfl) rfl rfl (le45 rfl) rfl (fun x50 h => ?_)
    refine AW.lq (ls' := [some (vR 57), some (vI x50)]) rfl ?_
    refine AW.goto (t := 11) (dat D_X12_sea 16 rfl) rfl ?_
    cases h
    exact AW.to (hk6 _ rfl) (lle_s rfl (lle_s rfl (lle_z)))
def L_X12_codes : List (Nat × Instr × Nat) := [(0, .aload_n 0, 1), (1, .getfield 30, 3), (4, .aload_n 0, 1), (5, .getfield 240, 3), (8, .iload_n 1, 1), (9, .iastore, 1), (10, .aload_n 0, 1), (11, .dup, 1), (12, .getfield 240, 3), (15, .iconst 1, 1), (16, .iadd, 1), (17, .putfield 240, 3), (20, .return_, 1)]
theorem D_X12_codes : dOK cX12_codes L_X12_codes = true := by decide +kernel
theorem cf_X12_codes : CFV mX12_codes 1 := ⟨wI_X12_codes, wS_X12_codes, wN_WaveRightModel, wC_X12_codes, rfl, ⟨by decide +kernel, by decide +kernel, by decide +kernel⟩, le45 rfl⟩
def X12_codes (n : Nat) (a0 : Int) (σ : SG) : Option (SG) :=
  rdA 900 (σ 57 20) fun j1 => lt (up σ 63 j1 a0) fun σ2 =>
  lt (up σ2 57 20 ((σ2 57 20) + 1)) fun σ3 =>
  some (σ3)
set_option maxHeartbeats 4000000 in
set_option maxRecDepth 100000 in
theorem A_X12_codes {Γ : GA} (hΓ : (gl Γ).stackTraces = false) {n : Nat} {a0 : Int} {σ : SG} {τ : SG}  (h : X12_codes n a0 σ = some τ) : AM Γ mX12_codes 1 0 0 [vR 57, vI a0] (85, σ) (0, 0) (85, τ) := by
  refine AM.of pl_X12 rfl wC_X12_codes (le45 rfl) hΓ ?_
  refine AW.to (ls'' := [some (vR 57), some (vI a0)]) ?_ (lle_s rfl (lle_s rfl (lle_z)))
  unfold X12_codes at h
  refine AW.aload_n (n := 1) (dat D_X12_codes 0 rfl) rfl rfl ?_
  refine AW.getR (n := 4) (t := 63) fX12_15 wF_X12_30 ly_57 (le45 rfl) rfl (dat D_X12_codes 1 rfl) rfl ?_
  refine AW.aload_n (n := 5) (dat D_X12_codes 2 rfl) rfl rfl ?_
  refine AW.getI (n := 8) fX12_20 wF_X12_240 ly_57 (le45 rfl) rfl rfl (dat D_X12_codes 3 rfl) rfl ?_
  refine AW.iload_n (n := 9) (dat D_X12_codes 4 rfl) rfl rfl ?_
  refine AW.iastH h (n := 10) rfl ly_63 (le45 rfl) (dat D_X12_codes 5 rfl) rfl (fun j1 h => ?_)
  refine AW.ltS h (fun σ2 h => ?_)
  refine AW.aload_n (n := 11) (dat D_X12_codes 6 rfl) rfl rfl ?_
  refine AW.dup (n := 12) (dat D_X12_codes 7 rfl) rfl (cR _) ?_
  refine AW.getI (n := 15) fX12_20 wF_X12_240 ly_57 (le45 rfl) rfl rfl (dat D_X12_codes 8 rfl) rfl ?_
  refine AW.iconst (n := 16) (dat D_X12_codes 9 rfl) rfl ?_
  refine AW.iadd (n := 17) (dat D_X12_codes 10 rfl) rfl ?_
  refine AW.putI (n := 20) fX12_20 wF_X12_240 ly_57 (le45 rfl) rfl rfl rfl (dat D_X12_codes 11 rfl) rfl ?_
  refine AW.ltS h (fun σ3 h => ?_)
  cases h
  exact AW.vret rfl rfl rfl (dat D_X12_codes 12 rfl)
def L_X12_goesIn : List (Nat × Instr × Nat) := [(0, .aload_n 0, 1), (1, .invokevirtual 127, 3), (4, .aload_n 0, 1), (5, .getfield 256, 3), (8, .bipush 6, 2), (10, .if_icmp .ne 10, 3), (13, .aload_n 0, 1), (14, .invokevirtual 141, 3), (17, .goto 13, 3), (20, .aload_n 0, 1), (21, .dup, 1), (22, .getfield 256, 3), (25, .iconst 1, 1), (26, .iadd, 1), (27, .putfield 256, 3), (30, .aload_n 0, 1), (31, .invokevirtual 130, 3), (34, .ifCond .ne 7, 3), (37, .iconst 1, 1), (38, .goto 4, 3), (41, .iconst 0, 1), (42, .ireturn, 1)]
theorem D_X12_goesIn : dOK cX12_goesIn L_X12_goesIn = true := by decide +kernel
theorem cf_X12_goesIn : CFV mX12_goesIn 0 := ⟨wI_X12_goesIn, wS_X12_goesIn, wN_WaveRightModel, wC_X12_goesIn, rfl, ⟨by decide +kernel, by decide +kernel, by decide +kernel⟩, le45 rfl⟩
def X12_goesIn_j30 (n : Nat) (σ3 : SG) : Option (Int × SG) :=
  (X12_hasFailed n σ3).bind fun v6 =>
  if w32 v6 = 0 then
    some ((1, σ3))
  else
    some ((0, σ3))
def X12_goesIn (n : Nat) (σ : SG) : Option (Int × SG) :=
  (X12_blanks n σ).bind fun σ2 =>
  ((if w32 (σ2 57 21) = 6 then
    (X12_fails n σ2).bind fun σ9 =>
    some (σ9)
  else
    lt (up σ2 57 21 ((σ2 57 21) + 1)) fun σ7 =>
    some (σ7)) : Option (SG)).bind (fun s => X12_goesIn_j30 n s)
set_option maxHeartbeats 4000000 in
set_option maxRecDepth 100000 in
theorem A_X12_goesIn {Γ : GA} (hΓ : (gl Γ).stackTraces = false) {n : Nat} {σ : SG} {r : Int} {τ : SG}  (h : X12_goesIn n σ = some (r, τ)) : AM Γ mX12_goesIn 3 0 0 [vR 57] (85, σ) (0, r) (85, τ) := by
  refine AM.of pl_X12 rfl wC_X12_goesIn (le45 rfl) hΓ ?_
  refine AW.to (ls'' := [some (vR 57)]) ?_ (lle_s rfl (lle_z))
  unfold X12_goesIn at h
  refine AW.aload_n (n := 1) (dat D_X12_goesIn 0 rfl) rfl rfl ?_
  obtain ⟨σ2, hc1, h⟩ := ob_some h
  refine AW.cV (n := 4) (as := []) (st := []) (st' := []) (uc' := 0) (us' := 0) (A_X12_blanks hΓ hc1) cf_X12_blanks ly_57 (le45 rfl) vc_12 (le45 rfl) wM_X12_127 (le45 rfl) (le45 rfl) (dat D_X12_goesIn 1 rfl) rfl rfl (le45 rfl) (le45 rfl) rfl (fun _ => ?_) nlt0
  refine AW.aload_n (n := 5) (dat D_X12_goesIn 2 rfl) rfl rfl ?_
  refine AW.getI (n := 8) fX12_21 wF_X12_256 ly_57 (le45 rfl) rfl rfl (dat D_X12_goesIn 3 rfl) rfl ?_
  refine AW.bipush (n := 10) (dat D_X12_goesIn 4 rfl) rfl (by decide) ?_
  obtain ⟨s4, h, hq4⟩ := ob_some h
  obtain ⟨σ3, e4⟩ : ∃ z, z = s4 := ⟨_, rfl⟩
  subst e4
  have hJ4 : AW Γ mX12_goesIn 3 (0, r) (85, τ) 0 0 30 [some (vR 57)] [] (85, σ3) := by
    have h : X12_goesIn_j30 n σ3 = some _ := hq4
    unfold X12_goesIn_j30 at h
    refine AW.aload_n (n := 31) (dat D_X12_goesIn 15 rfl) rfl rfl ?_
    obtain ⟨v6, hc5, h⟩ := ob_some h
    refine AW.cV (n := 34) (as := []) (st := []) (st' := [vI v6]) (uc' := 0) (us' := 0) (A_X12_hasFailed hΓ hc5) cf_X12_hasFailed ly_57 (le45 rfl) vc_12 (le45 rfl) wM_X12_130 (le45 rfl) (le45 rfl) (dat D_X12_goesIn 16 rfl) rfl rfl (le45 rfl) (le45 rfl) rfl (fun _ => ?_) nlt0
    refine AW.if_neH (t := 41) (n := 37) h (dat D_X12_goesIn 17 rfl) rfl rfl (fun h => ?_) (fun h => ?_)
    · refine AW.iconst (n := 38) (dat D_X12_goesIn 18 rfl) rfl ?_
      refine AW.goto (t := 42) (dat D_X12_goesIn 19 rfl) rfl ?_
      cases h
      exact AW.zret rfl (by decide) rfl rfl (dat D_X12_goesIn 21 rfl)
    · refine AW.iconst (n := 42) (dat D_X12_goesIn 20 rfl) rfl ?_
      cases h
      exact AW.zret rfl (by decide) rfl rfl (dat D_X12_goesIn 21 rfl)
  refine AW.icmp_neH (t := 20) (n := 13) h (dat D_X12_goesIn 5 rfl) rfl rfl rfl (by decide) (fun h => ?_) (fun h => ?_)
  · refine AW.aload_n (n := 14) (dat D_X12_goesIn 6 rfl) rfl rfl ?_
    obtain ⟨σ9, hc8, h⟩ := ob_some h
    refine AW.cV (n := 17) (as := []) (st := []) (st' := []) (uc' := 0) (us' := 0) (A_X12_fails hΓ hc8) cf_X12_fails ly_57 (le45 rfl) vc_12 (le45 rfl) wM_X12_141 (le45 rfl) (le45 rfl) (dat D_X12_goesIn 7 rfl) rfl rfl (le45 rfl) (le45 rfl) rfl (fun _ => ?_) nlt0
    refine AW.goto (t := 30) (dat D_X12_goesIn 8 rfl) rfl ?_
    cases h
    exact AW.to hJ4 (lle_s rfl (lle_z))
  · refine AW.aload_n (n := 21) (dat D_X12_goesIn 9 rfl) rfl rfl ?_
    refine AW.dup (n := 22) (dat D_X12_goesIn 10 rfl) rfl (cR _) ?_
    refine AW.getI (n := 25) fX12_21 wF_X12_256 ly_57 (le45 rfl) rfl rfl (dat D_X12_goesIn 11 rfl) rfl ?_
    refine AW.iconst (n := 26) (dat D_X12_goesIn 12 rfl) rfl ?_
    refine AW.iadd (n := 27) (dat D_X12_goesIn 13 rfl) rfl ?_
    refine AW.putI (n := 30) fX12_21 wF_X12_256 ly_57 (le45 rfl) rfl rfl rfl (dat D_X12_goesIn 14 rfl) rfl ?_
    refine AW.ltS h (fun σ7 h => ?_)
    cases h
    exact AW.to hJ4 (lle_s rfl (lle_z))
def L_X12_fact : List (Nat × Instr × Nat) := [(0, .aload_n 0, 1), (1, .ldc 194, 2), (3, .invokevirtual 161, 3), (6, .ifCond .eq 7, 3), (9, .iconst 0, 1), (10, .goto 103, 3), (13, .aload_n 0, 1), (14, .ldc 196, 2), (16, .invokevirtual 161, 3), (19, .ifCond .eq 7, 3), (22, .iconst 1, 1), (23, .goto 90, 3), (26, .aload_n 0, 1), (27, .ldc_w 276, 3), (30, .invokevirtual 161, 3), (33, .ifCond .eq 7, 3), (36, .iconst 2, 1), (37, .goto 76, 3), (40, .aload_n 0, 1), (41, .ldc_w 277, 3), (44, .invokevirtual 161, 3), (47, .ifCond .eq 7, 3), (50, .iconst 3, 1), (51, .goto 62, 3), (54, .aload_n 0, 1), (55, .ldc_w 279, 3), (58, .invokevirtual 161, 3), (61, .ifCond .eq 7, 3), (64, .iconst 4, 1), (65, .goto 48, 3), (68, .aload_n 0, 1), (69, .ldc_w 281, 3), (72, .invokevirtual 161, 3), (75, .ifCond .eq 7, 3), (78, .iconst 5, 1), (79, .goto 34, 3), (82, .aload_n 0, 1), (83, .ldc_w 283, 3), (86, .invokevirtual 161, 3), (89, .ifCond .eq 8, 3), (92, .bipush 6, 2), (94, .goto 19, 3), (97, .aload_n 0, 1), (98, .ldc_w 284, 3), (101, .invokevirtual 161, 3), (104, .ifCond .eq 8, 3), (107, .bipush 7, 2), (109, .goto 4, 3), (112, .iconst (-1), 1), (113, .ireturn, 1)]
theorem D_X12_fact : dOK cX12_fact L_X12_fact = true := by decide +kernel
theorem cf_X12_fact : CFV mX12_fact 0 := ⟨wI_X12_fact, wS_X12_fact, wN_WaveRightModel, wC_X12_fact, rfl, ⟨by decide +kernel, by decide +kernel, by decide +kernel⟩, le45 rfl⟩
def X12_fact (n : Nat) (σ : SG) : Option (Int × SG) :=
  bnd2 (X12_takesWord n 56 σ) fun v2 σ3 =>
  if w32 v2 = 0 then
    bnd2 (X12_takesWord n 57 σ3) fun v5 σ6 =>
    if w32 v5 = 0 then
      bnd2 (X12_takesWord n 60 σ6) fun v8 σ9 =>
      if w32 v8 = 0 then
        bnd2 (X12_takesWord n 61 σ9) fun v11 σ12 =>
        if w32 v11 = 0 then
          bnd2 (X12_takesWord n 62 σ12) fun v14 σ15 =>
          if w32 v14 = 0 then
            bnd2 (X12_takesWord n 63 σ15) fun v17 σ18 =>
            if w32 v17 = 0 then
              bnd2 (X12_takesWord n 64 σ18) fun v20 σ21 =>
              if w32 v20 = 0 then
                bnd2 (X12_takesWord n 65 σ21) fun v23 σ24 =>
                if w32 v23 = 0 then
                  some (((-1), σ24))
                else
                  some ((7, σ24))
              else
                some ((6, σ21))
            else
              some ((5, σ18))
          else
            some ((4, σ15))
        else
          some ((3, σ12))
      else
        some ((2, σ9))
    else
      some ((1, σ6))
  else
    some ((0, σ3))
set_option maxHeartbeats 4000000 in
set_option maxRecDepth 100000 in
theorem A_X12_fact {Γ : GA} (hΓ : (gl Γ).stackTraces = false) {n : Nat} {σ : SG} {r : Int} {τ : SG}  (h : X12_fact n σ = some (r, τ)) : AM Γ mX12_fact 11 0 0 [vR 57] (85, σ) (0, r) (85, τ) := by
  refine AM.of pl_X12 rfl wC_X12_fact (le45 rfl) hΓ ?_
  refine AW.to (ls'' := [some (vR 57)]) ?_ (lle_s rfl (lle_z))
  unfold X12_fact at h
  refine AW.aload_n (n := 1) (dat D_X12_fact 0 rfl) rfl rfl ?_
  refine AW.ldcS (n := 3) (j := 56) rfl (dat D_X12_fact 1 rfl) rfl ?_
  obtain ⟨v2, σ3, hc1, h⟩ := bnd2_some h
  refine AW.cV (n := 6) (as := [vO 56]) (st := []) (st' := [vI v2]) (uc' := 0) (us' := 0) (A_X12_takesWord hΓ (by decide) hc1) cf_X12_takesWord ly_57 (le45 rfl) vc_12 (le45 rfl) wM_X12_161 (le45 rfl) (le45 rfl) (dat D_X12_fact 2 rfl) rfl rfl (le45 rfl) (le45 rfl) rfl (fun _ => ?_) nlt0
  refine AW.if_eqH (t := 13) (n := 9) h (dat D_X12_fact 3 rfl) rfl rfl (fun h => ?_) (fun h => ?_)
  · refine AW.aload_n (n := 14) (dat D_X12_fact 6 rfl) rfl rfl ?_
    refine AW.ldcS (n := 16) (j := 57) rfl (dat D_X12_fact 7 rfl) rfl ?_
    obtain ⟨v5, σ6, hc4, h⟩ := bnd2_some h
    refine AW.cV (n := 19) (as := [vO 57]) (st := []) (st' := [vI v5]) (uc' := 0) (us' := 0) (A_X12_takesWord hΓ (by decide) hc4) cf_X12_takesWord ly_57 (le45 rfl) vc_12 (le45 rfl) wM_X12_161 (le45 rfl) (le45 rfl) (dat D_X12_fact 8 rfl) rfl rfl (le45 rfl) (le45 rfl) rfl (fun _ => ?_) nlt0
    refine AW.if_eqH (t := 26) (n := 22) h (dat D_X12_fact 9 rfl) rfl rfl (fun h => ?_) (fun h => ?_)
    · refine AW.aload_n (n := 27) (dat D_X12_fact 12 rfl) rfl rfl ?_
      refine AW.ldcSW (n := 30) (j := 60) rfl (dat D_X12_fact 13 rfl) rfl ?_
      obtain ⟨v8, σ9, hc7, h⟩ := bnd2_some h
      refine AW.cV (n := 33) (as := [vO 60]) (st := []) (st' := [vI v8]) (uc' := 0) (us' := 0) (A_X12_takesWord hΓ (by decide) hc7) cf_X12_takesWord ly_57 (le45 rfl) vc_12 (le45 rfl) wM_X12_161 (le45 rfl) (le45 rfl) (dat D_X12_fact 14 rfl) rfl rfl (le45 rfl) (le45 rfl) rfl (fun _ => ?_) nlt0
      refine AW.if_eqH (t := 40) (n := 36) h (dat D_X12_fact 15 rfl) rfl rfl (fun h => ?_) (fun h => ?_)
      · refine AW.aload_n (n := 41) (dat D_X12_fact 18 rfl) rfl rfl ?_
        refine AW.ldcSW (n := 44) (j := 61) rfl (dat D_X12_fact 19 rfl) rfl ?_
        obtain ⟨v11, σ12, hc10, h⟩ := bnd2_some h
        refine AW.cV (n := 47) (as := [vO 61]) (st := []) (st' := [vI v11]) (uc' := 0) (us' := 0) (A_X12_takesWord hΓ (by decide) hc10) cf_X12_takesWord ly_57 (le45 rfl) vc_12 (le45 rfl) wM_X12_161 (le45 rfl) (le45 rfl) (dat D_X12_fact 20 rfl) rfl rfl (le45 rfl) (le45 rfl) rfl (fun _ => ?_) nlt0
        refine AW.if_eqH (t := 54) (n := 50) h (dat D_X12_fact 21 rfl) rfl rfl (fun h => ?_) (fun h => ?_)
        · refine AW.aload_n (n := 55) (dat D_X12_fact 24 rfl) rfl rfl ?_
          refine AW.ldcSW (n := 58) (j := 62) rfl (dat D_X12_fact 25 rfl) rfl ?_
          obtain ⟨v14, σ15, hc13, h⟩ := bnd2_some h
          refine AW.cV (n := 61) (as := [vO 62]) (st := []) (st' := [vI v14]) (uc' := 0) (us' := 0) (A_X12_takesWord hΓ (by decide) hc13) cf_X12_takesWord ly_57 (le45 rfl) vc_12 (le45 rfl) wM_X12_161 (le45 rfl) (le45 rfl) (dat D_X12_fact 26 rfl) rfl rfl (le45 rfl) (le45 rfl) rfl (fun _ => ?_) nlt0
          refine AW.if_eqH (t := 68) (n := 64) h (dat D_X12_fact 27 rfl) rfl rfl (fun h => ?_) (fun h => ?_)
          · refine AW.aload_n (n := 69) (dat D_X12_fact 30 rfl) rfl rfl ?_
            refine AW.ldcSW (n := 72) (j := 63) rfl (dat D_X12_fact 31 rfl) rfl ?_
            obtain ⟨v17, σ18, hc16, h⟩ := bnd2_some h
            refine AW.cV (n := 75) (as := [vO 63]) (st := []) (st' := [vI v17]) (uc' := 0) (us' := 0) (A_X12_takesWord hΓ (by decide) hc16) cf_X12_takesWord ly_57 (le45 rfl) vc_12 (le45 rfl) wM_X12_161 (le45 rfl) (le45 rfl) (dat D_X12_fact 32 rfl) rfl rfl (le45 rfl) (le45 rfl) rfl (fun _ => ?_) nlt0
            refine AW.if_eqH (t := 82) (n := 78) h (dat D_X12_fact 33 rfl) rfl rfl (fun h => ?_) (fun h => ?_)
            · refine AW.aload_n (n := 83) (dat D_X12_fact 36 rfl) rfl rfl ?_
              refine AW.ldcSW (n := 86) (j := 64) rfl (dat D_X12_fact 37 rfl) rfl ?_
              obtain ⟨v20, σ21, hc19, h⟩ := bnd2_some h
              refine AW.cV (n := 89) (as := [vO 64]) (st := []) (st' := [vI v20]) (uc' := 0) (us' := 0) (A_X12_takesWord hΓ (by decide) hc19) cf_X12_takesWord ly_57 (le45 rfl) vc_12 (le45 rfl) wM_X12_161 (le45 rfl) (le45 rfl) (dat D_X12_fact 38 rfl) rfl rfl (le45 rfl) (le45 rfl) rfl (fun _ => ?_) nlt0
              refine AW.if_eqH (t := 97) (n := 92) h (dat D_X12_fact 39 rfl) rfl rfl (fun h => ?_) (fun h => ?_)
              · refine AW.aload_n (n := 98) (dat D_X12_fact 42 rfl) rfl rfl ?_
                refine AW.ldcSW (n := 101) (j := 65) rfl (dat D_X12_fact 43 rfl) rfl ?_
                obtain ⟨v23, σ24, hc22, h⟩ := bnd2_some h
                refine AW.cV (n := 104) (as := [vO 65]) (st := []) (st' := [vI v23]) (uc' := 0) (us' := 0) (A_X12_takesWord hΓ (by decide) hc22) cf_X12_takesWord ly_57 (le45 rfl) vc_12 (le45 rfl) wM_X12_161 (le45 rfl) (le45 rfl) (dat D_X12_fact 44 rfl) rfl rfl (le45 rfl) (le45 rfl) rfl (fun _ => ?_) nlt0
                refine AW.if_eqH (t := 112) (n := 107) h (dat D_X12_fact 45 rfl) rfl rfl (fun h => ?_) (fun h => ?_)
                · refine AW.iconst (n := 113) (dat D_X12_fact 48 rfl) rfl ?_
                  cases h
                  exact AW.iret rfl rfl rfl (dat D_X12_fact 49 rfl)
                · refine AW.bipush (n := 109) (dat D_X12_fact 46 rfl) rfl (by decide) ?_
                  refine AW.goto (t := 113) (dat D_X12_fact 47 rfl) rfl ?_
                  cases h
                  exact AW.iret rfl rfl rfl (dat D_X12_fact 49 rfl)
              · refine AW.bipush (n := 94) (dat D_X12_fact 40 rfl) rfl (by decide) ?_
                refine AW.goto (t := 113) (dat D_X12_fact 41 rfl) rfl ?_
                cases h
                exact AW.iret rfl rfl rfl (dat D_X12_fact 49 rfl)
            · refine AW.iconst (n := 79) (dat D_X12_fact 34 rfl) rfl ?_
              refine AW.goto (t := 113) (dat D_X12_fact 35 rfl) rfl ?_
              cases h
              exact AW.iret rfl rfl rfl (dat D_X12_fact 49 rfl)
          · refine AW.iconst (n := 65) (dat D_X12_fact 28 rfl) rfl ?_
            refine AW.goto (t := 113) (dat D_X12_fact 29 rfl) rfl ?_
            cases h
            exact AW.iret rfl rfl rfl (dat D_X12_fact 49 rfl)
        · refine AW.iconst (n := 51) (dat D_X12_fact 22 rfl) rfl ?_
          refine AW.goto (t := 113) (dat D_X12_fact 23 rfl) rfl ?_
          cases h
          exact AW.iret rfl rfl rfl (dat D_X12_fact 49 rfl)
      · refine AW.iconst (n := 37) (dat D_X12_fact 16 rfl) rfl ?_
        refine AW.goto (t := 113) (dat D_X12_fact 17 rfl) rfl ?_
        cases h
        exact AW.iret rfl rfl rfl (dat D_X12_fact 49 rfl)
    · refine AW.iconst (n := 23) (dat D_X12_fact 10 rfl) rfl ?_
      refine AW.goto (t := 113) (dat D_X12_fact 11 rfl) rfl ?_
      cases h
      exact AW.iret rfl rfl rfl (dat D_X12_fact 49 rfl)
  · refine AW.iconst (n := 10) (dat D_X12_fact 4 rfl) rfl ?_
    refine AW.goto (t := 113) (dat D_X12_fact 5 rfl) rfl ?_
    cases h
    exact AW.iret rfl rfl rfl (dat D_X12_fact 49 rfl)
def L_X12_some : List (Nat × Instr × Nat) := [(0, .aload_n 0, 1), (1, .invokevirtual 243, 3), (4, .aload_n 0, 1), (5, .ldc 246, 2), (7, .invokevirtual 161, 3), (10, .ifCond .eq 38, 3), (13, .aload_n 0, 1), (14, .getfield 240, 3), (17, .istore_n 1, 1), (18, .aload_n 0, 1), (19, .bipush 29, 2), (21, .invokevirtual 248, 3), (24, .aload_n 0, 1), (25, .iconst 0, 1), (26, .invokevirtual 248, 3), (29, .aload_n 0, 1), (30, .invokevirtual 243, 3), (33, .aload_n 0, 1), (34, .getfield 30, 3), (37, .iload_n 1, 1), (38, .iconst 1, 1), (39, .iadd, 1), (40, .aload_n 0, 1), (41, .getfield 240, 3), (44, .iastore, 1), (45, .goto (-41), 3), (48, .return_, 1)]
theorem D_X12_some : dOK cX12_some L_X12_some = true := by decide +kernel
theorem cf_X12_some : CFV mX12_some 0 := ⟨wI_X12_some, wS_X12_some, wN_WaveRightModel, wC_X12_some, rfl, ⟨by decide +kernel, by decide +kernel, by decide +kernel⟩, le45 rfl⟩
def L_X12_every : List (Nat × Instr × Nat) := [(0, .aload_n 0, 1), (1, .invokevirtual 251, 3), (4, .aload_n 0, 1), (5, .ldc 254, 2), (7, .invokevirtual 161, 3), (10, .ifCond .eq 38, 3), (13, .aload_n 0, 1), (14, .getfield 240, 3), (17, .istore_n 1, 1), (18, .aload_n 0, 1), (19, .bipush 28, 2), (21, .invokevirtual 248, 3), (24, .aload_n 0, 1), (25, .iconst 0, 1), (26, .invokevirtual 248, 3), (29, .aload_n 0, 1), (30, .invokevirtual 251, 3), (33, .aload_n 0, 1), (34, .getfield 30, 3), (37, .iload_n 1, 1), (38, .iconst 1, 1), (39, .iadd, 1), (40, .aload_n 0, 1), (41, .getfield 240, 3), (44, .iastore, 1), (45, .goto (-41), 3), (48, .return_, 1)]
theorem D_X12_every : dOK cX12_every L_X12_every = true := by decide +kernel
theorem cf_X12_every : CFV mX12_every 0 := ⟨wI_X12_every, wS_X12_every, wN_WaveRightModel, wC_X12_every, rfl, ⟨by decide +kernel, by decide +kernel, by decide +kernel⟩, le45 rfl⟩
def L_X12_atom : List (Nat × Instr × Nat) := [(0, .aload_n 0, 1), (1, .invokevirtual 130, 3), (4, .ifCond .eq 4, 3), (7, .return_, 1), (8, .aload_n 0, 1), (9, .ldc_w 259, 3), (12, .invokevirtual 161, 3), (15, .ifCond .eq 16, 3), (18, .aload_n 0, 1), (19, .invokevirtual 251, 3), (22, .aload_n 0, 1), (23, .bipush 27, 2), (25, .invokevirtual 248, 3), (28, .goto 119, 3), (31, .aload_n 0, 1), (32, .bipush 40, 2), (34, .invokevirtual 134, 3), (37, .ifCond .eq 40, 3), (40, .aload_n 0, 1), (41, .invokevirtual 261, 3), (44, .ifCond .ne 4, 3), (47, .return_, 1), (48, .aload_n 0, 1), (49, .bipush 40, 2), (51, .invokevirtual 220, 3), (54, .aload_n 0, 1), (55, .invokevirtual 264, 3), (58, .aload_n 0, 1), (59, .bipush 41, 2), (61, .invokevirtual 220, 3), (64, .aload_n 0, 1), (65, .dup, 1), (66, .getfield 256, 3), (69, .iconst 1, 1), (70, .isub, 1), (71, .putfield 256, 3), (74, .goto 73, 3), (77, .aload_n 0, 1), (78, .invokevirtual 267, 3), (81, .aload_n 0, 1), (82, .invokevirtual 127, 3), (85, .aload_n 0, 1), (86, .bipush 60, 2), (88, .invokevirtual 138, 3), (91, .ifCond .eq 8, 3), (94, .bipush 24, 2), (96, .goto 32, 3), (99, .aload_n 0, 1), (100, .bipush 61, 2), (102, .invokevirtual 138, 3), (105, .ifCond .eq 8, 3), (108, .bipush 25, 2), (110, .goto 18, 3), (113, .aload_n 0, 1), (114, .bipush 62, 2), (116, .invokevirtual 138, 3), (119, .ifCond .eq 8, 3), (122, .bipush 26, 2), (124, .goto 4, 3), (127, .iconst (-1), 1), (128, .istore_n 1, 1), (129, .iload_n 1, 1), (130, .iconst (-1), 1), (131, .if_icmp .ne 7, 3), (134, .aload_n 0, 1), (135, .invokevirtual 141, 3), (138, .aload_n 0, 1), (139, .invokevirtual 267, 3), (142, .aload_n 0, 1), (143, .iload_n 1, 1), (144, .invokevirtual 248, 3), (147, .return_, 1)]
theorem D_X12_atom : dOK cX12_atom L_X12_atom = true := by decide +kernel
theorem cf_X12_atom : CFV mX12_atom 0 := ⟨wI_X12_atom, wS_X12_atom, wN_WaveRightModel, wC_X12_atom, rfl, ⟨by decide +kernel, by decide +kernel, by decide +kernel⟩, le45 rfl⟩
def L_X12_sum : List (Nat × Instr × Nat) := [(0, .aload_n 0, 1), (1, .invokevirtual 270, 3), (4, .iconst 1, 1), (5, .istore_n 1, 1), (6, .iload_n 1, 1), (7, .ifCond .eq 63, 3), (10, .aload_n 0, 1), (11, .bipush 43, 2), (13, .invokevirtual 138, 3), (16, .ifCond .eq 8, 3), (19, .bipush 20, 2), (21, .goto 18, 3), (24, .aload_n 0, 1), (25, .bipush 45, 2), (27, .invokevirtual 138, 3), (30, .ifCond .eq 8, 3), (33, .bipush 21, 2), (35, .goto 4, 3), (38, .iconst (-1), 1), (39, .istore_n 2, 1), (40, .iload_n 2, 1), (41, .iconst (-1), 1), (42, .if_icmp .eq 7, 3), (45, .iconst 1, 1), (46, .goto 4, 3), (49, .iconst 0, 1), (50, .istore_n 1, 1), (51, .iload_n 1, 1), (52, .ifCond .ne 6, 3), (55, .goto (-49), 3), (58, .aload_n 0, 1), (59, .invokevirtual 270, 3), (62, .aload_n 0, 1), (63, .iload_n 2, 1), (64, .invokevirtual 248, 3), (67, .goto (-61), 3), (70, .return_, 1)]
theorem D_X12_sum : dOK cX12_sum L_X12_sum = true := by decide +kernel
theorem cf_X12_sum : CFV mX12_sum 0 := ⟨wI_X12_sum, wS_X12_sum, wN_WaveRightModel, wC_X12_sum, rfl, ⟨by decide +kernel, by decide +kernel, by decide +kernel⟩, le45 rfl⟩
def L_X12_product : List (Nat × Instr × Nat) := [(0, .aload_n 0, 1), (1, .invokevirtual 273, 3), (4, .iconst 1, 1), (5, .istore_n 1, 1), (6, .iload_n 1, 1), (7, .ifCond .eq 63, 3), (10, .aload_n 0, 1), (11, .bipush 42, 2), (13, .invokevirtual 138, 3), (16, .ifCond .eq 8, 3), (19, .bipush 22, 2), (21, .goto 18, 3), (24, .aload_n 0, 1), (25, .bipush 47, 2), (27, .invokevirtual 138, 3), (30, .ifCond .eq 8, 3), (33, .bipush 23, 2), (35, .goto 4, 3), (38, .iconst (-1), 1), (39, .istore_n 2, 1), (40, .iload_n 2, 1), (41, .iconst (-1), 1), (42, .if_icmp .eq 7, 3), (45, .iconst 1, 1), (46, .goto 4, 3), (49, .iconst 0, 1), (50, .istore_n 1, 1), (51, .iload_n 1, 1), (52, .ifCond .ne 6, 3), (55, .goto (-49), 3), (58, .aload_n 0, 1), (59, .invokevirtual 273, 3), (62, .aload_n 0, 1), (63, .iload_n 2, 1), (64, .invokevirtual 248, 3), (67, .goto (-61), 3), (70, .return_, 1)]
theorem D_X12_product : dOK cX12_product L_X12_product = true := by decide +kernel
theorem cf_X12_product : CFV mX12_product 0 := ⟨wI_X12_product, wS_X12_product, wN_WaveRightModel, wC_X12_product, rfl, ⟨by decide +kernel, by decide +kernel, by decide +kernel⟩, le45 rfl⟩
def L_X12_part : List (Nat × Instr × Nat) := [(0, .aload_n 0, 1), (1, .invokevirtual 130, 3), (4, .ifCond .eq 4, 3), (7, .return_, 1), (8, .aload_n 0, 1), (9, .invokevirtual 286, 3), (12, .ifCond .eq 23, 3), (15, .aload_n 0, 1), (16, .sipush 1000, 3), (19, .aload_n 0, 1), (20, .iconst 4, 1), (21, .iconst 0, 1), (22, .sipush 9999, 3), (25, .invokevirtual 172, 3), (28, .iadd, 1), (29, .invokevirtual 248, 3), (32, .goto 71, 3), (35, .aload_n 0, 1), (36, .bipush 91, 2), (38, .invokevirtual 134, 3), (41, .ifCond .eq 40, 3), (44, .aload_n 0, 1), (45, .invokevirtual 261, 3), (48, .ifCond .ne 4, 3), (51, .return_, 1), (52, .aload_n 0, 1), (53, .bipush 91, 2), (55, .invokevirtual 220, 3), (58, .aload_n 0, 1), (59, .invokevirtual 267, 3), (62, .aload_n 0, 1), (63, .bipush 93, 2), (65, .invokevirtual 220, 3), (68, .aload_n 0, 1), (69, .dup, 1), (70, .getfield 256, 3), (73, .iconst 1, 1), (74, .isub, 1), (75, .putfield 256, 3), (78, .goto 25, 3), (81, .aload_n 0, 1), (82, .invokevirtual 289, 3), (85, .istore_n 1, 1), (86, .iload_n 1, 1), (87, .iconst (-1), 1), (88, .if_icmp .ne 10, 3), (91, .aload_n 0, 1), (92, .invokevirtual 141, 3), (95, .goto 8, 3), (98, .aload_n 0, 1), (99, .iload_n 1, 1), (100, .invokevirtual 248, 3), (103, .return_, 1)]
theorem D_X12_part : dOK cX12_part L_X12_part = true := by decide +kernel
theorem cf_X12_part : CFV mX12_part 0 := ⟨wI_X12_part, wS_X12_part, wN_WaveRightModel, wC_X12_part, rfl, ⟨by decide +kernel, by decide +kernel, by decide +kernel⟩, le45 rfl⟩
def X12_some_e4 (rec : Nat → SG → Option SG) (n : Nat) (σ5 : SG) : Option (SG) :=
  some (σ5)
def X12_some_l4 (rec : Nat → SG → Option SG) (n : Nat) (σ3 : SG) : Option ((SG) ⊕ (SG)) :=
  bnd2 (X12_takesWord n 69 σ3) fun v7 σ8 =>
  if w32 v7 = 0 then
    some (.inr σ8)
  else
    lt (σ8 57 20) fun x9 =>
    (X12_codes n 29 σ8).bind fun σ11 =>
    (X12_codes n 0 σ11).bind fun σ13 =>
    (rec 1  σ13).bind fun σ15 =>
    rdA 900 (x9 + 1) fun j16 => lt (up σ15 63 j16 (σ15 57 20)) fun σ17 =>
    some (.inl σ17)
def X12_some_b (rec : Nat → SG → Option SG) (n : Nat) (σ : SG) : Option (SG) :=
  (rec 1  σ).bind fun σ2 =>
  ((iter n (fun s : SG => X12_some_l4 rec n s) σ2) : Option (SG)).bind (fun s => X12_some_e4 rec n s)
set_option maxHeartbeats 4000000 in
set_option maxRecDepth 100000 in
theorem A_X12_some_b {Γ : GA} (hΓ : (gl Γ).stackTraces = false) {D : Nat} {rec : Nat → SG → Option SG} (hrec_some : ∀ {σ9 : SG} {τ9 : SG}, (rec 0  σ9) = some τ9 → AM Γ mX12_some (12 + D) 0 0 [vR 57] (85, σ9) (0, 0) (85, τ9)) (hrec_every : ∀ {σ9 : SG} {τ9 : SG}, (rec 1  σ9) = some τ9 → AM Γ mX12_every (12 + D) 0 0 [vR 57] (85, σ9) (0, 0) (85, τ9)) (hrec_atom : ∀ {σ9 : SG} {τ9 : SG}, (rec 2  σ9) = some τ9 → AM Γ mX12_atom (12 + D) 0 0 [vR 57] (85, σ9) (0, 0) (85, τ9)) (hrec_sum : ∀ {σ9 : SG} {τ9 : SG}, (rec 3  σ9) = some τ9 → AM Γ mX12_sum (12 + D) 0 0 [vR 57] (85, σ9) (0, 0) (85, τ9)) (hrec_product : ∀ {σ9 : SG} {τ9 : SG}, (rec 4  σ9) = some τ9 → AM Γ mX12_product (12 + D) 0 0 [vR 57] (85, σ9) (0, 0) (85, τ9)) (hrec_part : ∀ {σ9 : SG} {τ9 : SG}, (rec 5  σ9) = some τ9 → AM Γ mX12_part (12 + D) 0 0 [vR 57] (85, σ9) (0, 0) (85, τ9)) {n : Nat} {σ : SG} {τ : SG}  (h : X12_some_b rec n σ = some τ) : AM Γ mX12_some (12 + (D + 1)) 0 0 [vR 57] (85, σ) (0, 0) (85, τ) := by
  refine AM.of pl_X12 rfl wC_X12_some (le45 rfl) hΓ ?_
  refine AW.to (ls'' := [some (vR 57), none]) ?_ (lle_s rfl (lle_e (lle_z)))
  unfold X12_some_b at h
  refine AW.aload_n (n := 1) (dat D_X12_some 0 rfl) rfl rfl ?_
  obtain ⟨σ2, hc1, h⟩ := ob_some h
  refine AW.cV (n := 4) (as := []) (st := []) (st' := []) (uc' := 0) (us' := 0) (hrec_every hc1) cf_X12_every ly_57 (le45 rfl) vc_12 (le45 rfl) wM_X12_243 (by omega) (le45 rfl) (dat D_X12_some 1 rfl) rfl rfl (le45 rfl) (le45 rfl) rfl (fun _ => ?_) nlt0
  obtain ⟨b4, hi4, hq4⟩ := ob_some h
  obtain ⟨σ5, e4⟩ : ∃ z, z = b4 := ⟨_, rfl⟩
  subst e4
  have hR4 : AW Γ mX12_some (12 + (D + 1)) (0, 0) (85, τ) 0 0 48 [none, none] [] (85, σ5) := by
    have h : X12_some_e4 rec n σ5 = some _ := hq4
    unfold X12_some_e4 at h
    cases h
    exact AW.vret rfl rfl rfl (dat D_X12_some 26 rfl)
  refine AW.to (ls'' := [some (vR 57), none]) ?_ (lle_s rfl (lle_n (lle_z)))
  refine aw_iter (fun s : SG => AW Γ mX12_some (12 + (D + 1)) (0, 0) (85, τ) 0 0 4 [some (vR 57), none] [] (85, s)) (fun s y h hk4 hb4 => ?_) _ _ hi4
  obtain ⟨σ3, e4⟩ : ∃ z, z = s := ⟨_, rfl⟩
  subst e4
  show AW Γ mX12_some (12 + (D + 1)) (0, 0) (85, τ) 0 0 4 [some (vR 57), none] [] (85, σ3)
  have h : X12_some_l4 rec n σ3 = some y := h
  unfold X12_some_l4 at h
  refine AW.aload_n (n := 5) (dat D_X12_some 2 rfl) rfl rfl ?_
  refine AW.ldcS (n := 7) (j := 69) rfl (dat D_X12_some 3 rfl) rfl ?_
  obtain ⟨v7, σ8, hc6, h⟩ := bnd2_some h
  refine AW.cV (n := 10) (as := [vO 69]) (st := []) (st' := [vI v7]) (uc' := 0) (us' := 0) (A_X12_takesWord hΓ (by decide) hc6) cf_X12_takesWord ly_57 (le45 rfl) vc_12 (le45 rfl) wM_X12_161 (by omega) (le45 rfl) (dat D_X12_some 4 rfl) rfl rfl (le45 rfl) (le45 rfl) rfl (fun _ => ?_) nlt0
  refine AW.if_eqH (t := 48) (n := 13) h (dat D_X12_some 5 rfl) rfl rfl (fun h => ?_) (fun h => ?_)
  · cases h
    have hb := hb4 _ rfl
    cases hb
    exact AW.to hR4 (lle_n (lle_n (lle_z)))
  · refine AW.aload_n (n := 14) (dat D_X12_some 6 rfl) rfl rfl ?_
    refine AW.getI (n := 17) fX12_20 wF_X12_240 ly_57 (le45 rfl) rfl rfl (dat D_X12_some 7 rfl) rfl ?_
    refine AW.ltI h (fun x9 h => ?_)
    refine AW.istore_n (n := 18) (ls' := [some (vR 57), some (vI x9)]) (dat D_X12_some 8 rfl) rfl (le45 rfl) (le45 rfl) rfl rfl ?_
    refine AW.aload_n (n := 19) (dat D_X12_some 9 rfl) rfl rfl ?_
    refine AW.bipush (n := 21) (dat D_X12_some 10 rfl) rfl (by decide) ?_
    obtain ⟨σ11, hc10, h⟩ := ob_some h
    refine AW.cV (n := 24) (as := [vI 29]) (st := []) (st' := []) (uc' := 0) (us' := 0) (A_X12_codes hΓ hc10) cf_X12_codes ly_57 (le45 rfl) vc_12 (le45 rfl) wM_X12_248 (by omega) (le45 rfl) (dat D_X12_some 11 rfl) rfl rfl (le45 rfl) (le45 rfl) rfl (fun _ => ?_) nlt0
    refine AW.aload_n (n := 25) (dat D_X12_some 12 rfl) rfl rfl ?_
    refine AW.iconst (n := 26) (dat D_X12_some 13 rfl) rfl ?_
    obtain ⟨σ13, hc12, h⟩ := ob_some h
    refine AW.cV (n := 29) (as := [vI 0]) (st := []) (st' := []) (uc' := 0) (us' := 0) (A_X12_codes hΓ hc12) cf_X12_codes ly_57 (le45 rfl) vc_12 (le45 rfl) wM_X12_248 (by omega) (le45 rfl) (dat D_X12_some 14 rfl) rfl rfl (le45 rfl) (le45 rfl) rfl (fun _ => ?_) nlt0
    refine AW.aload_n (n := 30) (dat D_X12_some 15 rfl) rfl rfl ?_
    obtain ⟨σ15, hc14, h⟩ := ob_some h
    refine AW.cV (n := 33) (as := []) (st := []) (st' := []) (uc' := 0) (us' := 0) (hrec_every hc14) cf_X12_every ly_57 (le45 rfl) vc_12 (le45 rfl) wM_X12_243 (by omega) (le45 rfl) (dat D_X12_some 16 rfl) rfl rfl (le45 rfl) (le45 rfl) rfl (fun _ => ?_) nlt0
    refine AW.aload_n (n := 34) (dat D_X12_some 17 rfl) rfl rfl ?_
    refine AW.getR (n := 37) (t := 63) fX12_15 wF_X12_30 ly_57 (le45 rfl) rfl (dat D_X12_some 18 rfl) rfl ?_
    refine AW.iload_n (n := 38) (dat D_X12_some 19 rfl) rfl rfl ?_
    refine AW.iconst (n := 39) (dat D_X12_some 20 rfl) rfl ?_
    refine AW.iadd (n := 40) (dat D_X12_some 21 rfl) rfl ?_
    refine AW.aload_n (n := 41) (dat D_X12_some 22 rfl) rfl rfl ?_
    refine AW.getI (n := 44) fX12_20 wF_X12_240 ly_57 (le45 rfl) rfl rfl (dat D_X12_some 23 rfl) rfl ?_
    refine AW.iastH h (n := 45) rfl ly_63 (le45 rfl) (dat D_X12_some 24 rfl) rfl (fun j16 h => ?_)
    refine AW.ltS h (fun σ17 h => ?_)
    refine AW.goto (t := 4) (dat D_X12_some 25 rfl) rfl ?_
    cases h
    exact AW.to (hk4 _ rfl) (lle_s rfl (lle_n (lle_z)))
def X12_every_e4 (rec : Nat → SG → Option SG) (n : Nat) (σ5 : SG) : Option (SG) :=
  some (σ5)
def X12_every_l4 (rec : Nat → SG → Option SG) (n : Nat) (σ3 : SG) : Option ((SG) ⊕ (SG)) :=
  bnd2 (X12_takesWord n 68 σ3) fun v7 σ8 =>
  if w32 v7 = 0 then
    some (.inr σ8)
  else
    lt (σ8 57 20) fun x9 =>
    (X12_codes n 28 σ8).bind fun σ11 =>
    (X12_codes n 0 σ11).bind fun σ13 =>
    (rec 2  σ13).bind fun σ15 =>
    rdA 900 (x9 + 1) fun j16 => lt (up σ15 63 j16 (σ15 57 20)) fun σ17 =>
    some (.inl σ17)
def X12_every_b (rec : Nat → SG → Option SG) (n : Nat) (σ : SG) : Option (SG) :=
  (rec 2  σ).bind fun σ2 =>
  ((iter n (fun s : SG => X12_every_l4 rec n s) σ2) : Option (SG)).bind (fun s => X12_every_e4 rec n s)
set_option maxHeartbeats 4000000 in
set_option maxRecDepth 100000 in
theorem A_X12_every_b {Γ : GA} (hΓ : (gl Γ).stackTraces = false) {D : Nat} {rec : Nat → SG → Option SG} (hrec_some : ∀ {σ9 : SG} {τ9 : SG}, (rec 0  σ9) = some τ9 → AM Γ mX12_some (12 + D) 0 0 [vR 57] (85, σ9) (0, 0) (85, τ9)) (hrec_every : ∀ {σ9 : SG} {τ9 : SG}, (rec 1  σ9) = some τ9 → AM Γ mX12_every (12 + D) 0 0 [vR 57] (85, σ9) (0, 0) (85, τ9)) (hrec_atom : ∀ {σ9 : SG} {τ9 : SG}, (rec 2  σ9) = some τ9 → AM Γ mX12_atom (12 + D) 0 0 [vR 57] (85, σ9) (0, 0) (85, τ9)) (hrec_sum : ∀ {σ9 : SG} {τ9 : SG}, (rec 3  σ9) = some τ9 → AM Γ mX12_sum (12 + D) 0 0 [vR 57] (85, σ9) (0, 0) (85, τ9)) (hrec_product : ∀ {σ9 : SG} {τ9 : SG}, (rec 4  σ9) = some τ9 → AM Γ mX12_product (12 + D) 0 0 [vR 57] (85, σ9) (0, 0) (85, τ9)) (hrec_part : ∀ {σ9 : SG} {τ9 : SG}, (rec 5  σ9) = some τ9 → AM Γ mX12_part (12 + D) 0 0 [vR 57] (85, σ9) (0, 0) (85, τ9)) {n : Nat} {σ : SG} {τ : SG}  (h : X12_every_b rec n σ = some τ) : AM Γ mX12_every (12 + (D + 1)) 0 0 [vR 57] (85, σ) (0, 0) (85, τ) := by
  refine AM.of pl_X12 rfl wC_X12_every (le45 rfl) hΓ ?_
  refine AW.to (ls'' := [some (vR 57), none]) ?_ (lle_s rfl (lle_e (lle_z)))
  unfold X12_every_b at h
  refine AW.aload_n (n := 1) (dat D_X12_every 0 rfl) rfl rfl ?_
  obtain ⟨σ2, hc1, h⟩ := ob_some h
  refine AW.cV (n := 4) (as := []) (st := []) (st' := []) (uc' := 0) (us' := 0) (hrec_atom hc1) cf_X12_atom ly_57 (le45 rfl) vc_12 (le45 rfl) wM_X12_251 (by omega) (le45 rfl) (dat D_X12_every 1 rfl) rfl rfl (le45 rfl) (le45 rfl) rfl (fun _ => ?_) nlt0
  obtain ⟨b4, hi4, hq4⟩ := ob_some h
  obtain ⟨σ5, e4⟩ : ∃ z, z = b4 := ⟨_, rfl⟩
  subst e4
  have hR4 : AW Γ mX12_every (12 + (D + 1)) (0, 0) (85, τ) 0 0 48 [none, none] [] (85, σ5) := by
    have h : X12_every_e4 rec n σ5 = some _ := hq4
    unfold X12_every_e4 at h
    cases h
    exact AW.vret rfl rfl rfl (dat D_X12_every 26 rfl)
  refine AW.to (ls'' := [some (vR 57), none]) ?_ (lle_s rfl (lle_n (lle_z)))
  refine aw_iter (fun s : SG => AW Γ mX12_every (12 + (D + 1)) (0, 0) (85, τ) 0 0 4 [some (vR 57), none] [] (85, s)) (fun s y h hk4 hb4 => ?_) _ _ hi4
  obtain ⟨σ3, e4⟩ : ∃ z, z = s := ⟨_, rfl⟩
  subst e4
  show AW Γ mX12_every (12 + (D + 1)) (0, 0) (85, τ) 0 0 4 [some (vR 57), none] [] (85, σ3)
  have h : X12_every_l4 rec n σ3 = some y := h
  unfold X12_every_l4 at h
  refine AW.aload_n (n := 5) (dat D_X12_every 2 rfl) rfl rfl ?_
  refine AW.ldcS (n := 7) (j := 68) rfl (dat D_X12_every 3 rfl) rfl ?_
  obtain ⟨v7, σ8, hc6, h⟩ := bnd2_some h
  refine AW.cV (n := 10) (as := [vO 68]) (st := []) (st' := [vI v7]) (uc' := 0) (us' := 0) (A_X12_takesWord hΓ (by decide) hc6) cf_X12_takesWord ly_57 (le45 rfl) vc_12 (le45 rfl) wM_X12_161 (by omega) (le45 rfl) (dat D_X12_every 4 rfl) rfl rfl (le45 rfl) (le45 rfl) rfl (fun _ => ?_) nlt0
  refine AW.if_eqH (t := 48) (n := 13) h (dat D_X12_every 5 rfl) rfl rfl (fun h => ?_) (fun h => ?_)
  · cases h
    have hb := hb4 _ rfl
    cases hb
    exact AW.to hR4 (lle_n (lle_n (lle_z)))
  · refine AW.aload_n (n := 14) (dat D_X12_every 6 rfl) rfl rfl ?_
    refine AW.getI (n := 17) fX12_20 wF_X12_240 ly_57 (le45 rfl) rfl rfl (dat D_X12_every 7 rfl) rfl ?_
    refine AW.ltI h (fun x9 h => ?_)
    refine AW.istore_n (n := 18) (ls' := [some (vR 57), some (vI x9)]) (dat D_X12_every 8 rfl) rfl (le45 rfl) (le45 rfl) rfl rfl ?_
    refine AW.aload_n (n := 19) (dat D_X12_every 9 rfl) rfl rfl ?_
    refine AW.bipush (n := 21) (dat D_X12_every 10 rfl) rfl (by decide) ?_
    obtain ⟨σ11, hc10, h⟩ := ob_some h
    refine AW.cV (n := 24) (as := [vI 28]) (st := []) (st' := []) (uc' := 0) (us' := 0) (A_X12_codes hΓ hc10) cf_X12_codes ly_57 (le45 rfl) vc_12 (le45 rfl) wM_X12_248 (by omega) (le45 rfl) (dat D_X12_every 11 rfl) rfl rfl (le45 rfl) (le45 rfl) rfl (fun _ => ?_) nlt0
    refine AW.aload_n (n := 25) (dat D_X12_every 12 rfl) rfl rfl ?_
    refine AW.iconst (n := 26) (dat D_X12_every 13 rfl) rfl ?_
    obtain ⟨σ13, hc12, h⟩ := ob_some h
    refine AW.cV (n := 29) (as := [vI 0]) (st := []) (st' := []) (uc' := 0) (us' := 0) (A_X12_codes hΓ hc12) cf_X12_codes ly_57 (le45 rfl) vc_12 (le45 rfl) wM_X12_248 (by omega) (le45 rfl) (dat D_X12_every 14 rfl) rfl rfl (le45 rfl) (le45 rfl) rfl (fun _ => ?_) nlt0
    refine AW.aload_n (n := 30) (dat D_X12_every 15 rfl) rfl rfl ?_
    obtain ⟨σ15, hc14, h⟩ := ob_some h
    refine AW.cV (n := 33) (as := []) (st := []) (st' := []) (uc' := 0) (us' := 0) (hrec_atom hc14) cf_X12_atom ly_57 (le45 rfl) vc_12 (le45 rfl) wM_X12_251 (by omega) (le45 rfl) (dat D_X12_every 16 rfl) rfl rfl (le45 rfl) (le45 rfl) rfl (fun _ => ?_) nlt0
    refine AW.aload_n (n := 34) (dat D_X12_every 17 rfl) rfl rfl ?_
    refine AW.getR (n := 37) (t := 63) fX12_15 wF_X12_30 ly_57 (le45 rfl) rfl (dat D_X12_every 18 rfl) rfl ?_
    refine AW.iload_n (n := 38) (dat D_X12_every 19 rfl) rfl rfl ?_
    refine AW.iconst (n := 39) (dat D_X12_every 20 rfl) rfl ?_
    refine AW.iadd (n := 40) (dat D_X12_every 21 rfl) rfl ?_
    refine AW.aload_n (n := 41) (dat D_X12_every 22 rfl) rfl rfl ?_
    refine AW.getI (n := 44) fX12_20 wF_X12_240 ly_57 (le45 rfl) rfl rfl (dat D_X12_every 23 rfl) rfl ?_
    refine AW.iastH h (n := 45) rfl ly_63 (le45 rfl) (dat D_X12_every 24 rfl) rfl (fun j16 h => ?_)
    refine AW.ltS h (fun σ17 h => ?_)
    refine AW.goto (t := 4) (dat D_X12_every 25 rfl) rfl ?_
    cases h
    exact AW.to (hk4 _ rfl) (lle_s rfl (lle_n (lle_z)))
def X12_atom_j138 (rec : Nat → SG → Option SG) (n : Nat) (y16 : Int) (σ19 : SG) : Option (SG) :=
  (rec 3  σ19).bind fun σ22 =>
  (X12_codes n y16 σ22).bind fun σ24 =>
  some (σ24)
def X12_atom_j128 (rec : Nat → SG → Option SG) (n : Nat) (y16 : Int) (σ17 : SG) : Option (SG) :=
  ((if w32 y16 = (-1) then
    (X12_fails n σ17).bind fun σ26 =>
    some (σ26)
  else
    some (σ17)) : Option (SG)).bind (fun s => X12_atom_j138 rec n y16 s)
def X12_atom_b (rec : Nat → SG → Option SG) (n : Nat) (σ : SG) : Option (SG) :=
  (X12_hasFailed n σ).bind fun v2 =>
  if w32 v2 = 0 then
    bnd2 (X12_takesWord n 67 σ) fun v4 σ5 =>
    if w32 v4 = 0 then
      bnd2 (X12_isSign n 40 σ5) fun v7 σ8 =>
      if w32 v7 = 0 then
        (rec 3  σ8).bind fun σ10 =>
        (X12_blanks n σ10).bind fun σ12 =>
        bnd2 (X12_takes n 60 σ12) fun v14 σ15 =>
        ((if w32 v14 = 0 then
          bnd2 (X12_takes n 61 σ15) fun v28 σ29 =>
          if w32 v28 = 0 then
            bnd2 (X12_takes n 62 σ29) fun v31 σ32 =>
            if w32 v31 = 0 then
              some (((-1), σ32))
            else
              some ((26, σ32))
          else
            some ((25, σ29))
        else
          some ((24, σ15))) : Option (Int × SG)).bind (fun s => X12_atom_j128 rec n s.1 s.2)
      else
        bnd2 (X12_goesIn n σ8) fun v34 σ35 =>
        if w32 v34 = 0 then
          some (σ35)
        else
          (X12_asksSign n 40 σ35).bind fun σ37 =>
          (rec 0  σ37).bind fun σ39 =>
          (X12_asksSign n 41 σ39).bind fun σ41 =>
          lt (up σ41 57 21 ((σ41 57 21) - 1)) fun σ42 =>
          some (σ42)
    else
      (rec 2  σ5).bind fun σ44 =>
      (X12_codes n 27 σ44).bind fun σ46 =>
      some (σ46)
  else
    some (σ)
set_option maxHeartbeats 4000000 in
set_option maxRecDepth 100000 in
theorem A_X12_atom_b {Γ : GA} (hΓ : (gl Γ).stackTraces = false) {D : Nat} {rec : Nat → SG → Option SG} (hrec_some : ∀ {σ9 : SG} {τ9 : SG}, (rec 0  σ9) = some τ9 → AM Γ mX12_some (12 + D) 0 0 [vR 57] (85, σ9) (0, 0) (85, τ9)) (hrec_every : ∀ {σ9 : SG} {τ9 : SG}, (rec 1  σ9) = some τ9 → AM Γ mX12_every (12 + D) 0 0 [vR 57] (85, σ9) (0, 0) (85, τ9)) (hrec_atom : ∀ {σ9 : SG} {τ9 : SG}, (rec 2  σ9) = some τ9 → AM Γ mX12_atom (12 + D) 0 0 [vR 57] (85, σ9) (0, 0) (85, τ9)) (hrec_sum : ∀ {σ9 : SG} {τ9 : SG}, (rec 3  σ9) = some τ9 → AM Γ mX12_sum (12 + D) 0 0 [vR 57] (85, σ9) (0, 0) (85, τ9)) (hrec_product : ∀ {σ9 : SG} {τ9 : SG}, (rec 4  σ9) = some τ9 → AM Γ mX12_product (12 + D) 0 0 [vR 57] (85, σ9) (0, 0) (85, τ9)) (hrec_part : ∀ {σ9 : SG} {τ9 : SG}, (rec 5  σ9) = some τ9 → AM Γ mX12_part (12 + D) 0 0 [vR 57] (85, σ9) (0, 0) (85, τ9)) {n : Nat} {σ : SG} {τ : SG}  (h : X12_atom_b rec n σ = some τ) : AM Γ mX12_atom (12 + (D + 1)) 0 0 [vR 57] (85, σ) (0, 0) (85, τ) := by
  refine AM.of pl_X12 rfl wC_X12_atom (le45 rfl) hΓ ?_
  refine AW.to (ls'' := [some (vR 57), none]) ?_ (lle_s rfl (lle_e (lle_z)))
  unfold X12_atom_b at h
  refine AW.aload_n (n := 1) (dat D_X12_atom 0 rfl) rfl rfl ?_
  obtain ⟨v2, hc1, h⟩ := ob_some h
  refine AW.cV (n := 4) (as := []) (st := []) (st' := [vI v2]) (uc' := 0) (us' := 0) (A_X12_hasFailed hΓ hc1) cf_X12_hasFailed ly_57 (le45 rfl) vc_12 (le45 rfl) wM_X12_130 (by omega) (le45 rfl) (dat D_X12_atom 1 rfl) rfl rfl (le45 rfl) (le45 rfl) rfl (fun _ => ?_) nlt0
  refine AW.if_eqH (t := 8) (n := 7) h (dat D_X12_atom 2 rfl) rfl rfl (fun h => ?_) (fun h => ?_)
  · refine AW.aload_n (n := 9) (dat D_X12_atom 4 rfl) rfl rfl ?_
    refine AW.ldcSW (n := 12) (j := 67) rfl (dat D_X12_atom 5 rfl) rfl ?_
    obtain ⟨v4, σ5, hc3, h⟩ := bnd2_some h
    refine AW.cV (n := 15) (as := [vO 67]) (st := []) (st' := [vI v4]) (uc' := 0) (us' := 0) (A_X12_takesWord hΓ (by decide) hc3) cf_X12_takesWord ly_57 (le45 rfl) vc_12 (le45 rfl) wM_X12_161 (by omega) (le45 rfl) (dat D_X12_atom 6 rfl) rfl rfl (le45 rfl) (le45 rfl) rfl (fun _ => ?_) nlt0
    refine AW.if_eqH (t := 31) (n := 18) h (dat D_X12_atom 7 rfl) rfl rfl (fun h => ?_) (fun h => ?_)
    · refine AW.aload_n (n := 32) (dat D_X12_atom 14 rfl) rfl rfl ?_
      refine AW.bipush (n := 34) (dat D_X12_atom 15 rfl) rfl (by decide) ?_
      obtain ⟨v7, σ8, hc6, h⟩ := bnd2_some h
      refine AW.cV (n := 37) (as := [vI 40]) (st := []) (st' := [vI v7]) (uc' := 0) (us' := 0) (A_X12_isSign hΓ hc6) cf_X12_isSign ly_57 (le45 rfl) vc_12 (le45 rfl) wM_X12_134 (by omega) (le45 rfl) (dat D_X12_atom 16 rfl) rfl rfl (le45 rfl) (le45 rfl) rfl (fun _ => ?_) nlt0
      refine AW.if_eqH (t := 77) (n := 40) h (dat D_X12_atom 17 rfl) rfl rfl (fun h => ?_) (fun h => ?_)
      · refine AW.aload_n (n := 78) (dat D_X12_atom 37 rfl) rfl rfl ?_
        obtain ⟨σ10, hc9, h⟩ := ob_some h
        refine AW.cV (n := 81) (as := []) (st := []) (st' := []) (uc' := 0) (us' := 0) (hrec_sum hc9) cf_X12_sum ly_57 (le45 rfl) vc_12 (le45 rfl) wM_X12_267 (by omega) (le45 rfl) (dat D_X12_atom 38 rfl) rfl rfl (le45 rfl) (le45 rfl) rfl (fun _ => ?_) nlt0
        refine AW.aload_n (n := 82) (dat D_X12_atom 39 rfl) rfl rfl ?_
        obtain ⟨σ12, hc11, h⟩ := ob_some h
        refine AW.cV (n := 85) (as := []) (st := []) (st' := []) (uc' := 0) (us' := 0) (A_X12_blanks hΓ hc11) cf_X12_blanks ly_57 (le45 rfl) vc_12 (le45 rfl) wM_X12_127 (by omega) (le45 rfl) (dat D_X12_atom 40 rfl) rfl rfl (le45 rfl) (le45 rfl) rfl (fun _ => ?_) nlt0
        refine AW.aload_n (n := 86) (dat D_X12_atom 41 rfl) rfl rfl ?_
        refine AW.bipush (n := 88) (dat D_X12_atom 42 rfl) rfl (by decide) ?_
        obtain ⟨v14, σ15, hc13, h⟩ := bnd2_some h
        refine AW.cV (n := 91) (as := [vI 60]) (st := []) (st' := [vI v14]) (uc' := 0) (us' := 0) (A_X12_takes hΓ hc13) cf_X12_takes ly_57 (le45 rfl) vc_12 (le45 rfl) wM_X12_138 (by omega) (le45 rfl) (dat D_X12_atom 43 rfl) rfl rfl (le45 rfl) (le45 rfl) rfl (fun _ => ?_) nlt0
        obtain ⟨s18, h, hq18⟩ := ob_some h
        obtain ⟨y16, σ17⟩ := s18
        have hJ18 : AW Γ mX12_atom (12 + (D + 1)) (0, 0) (85, τ) 0 0 128 [some (vR 57), none] [vI y16] (85, σ17) := by
          have h : X12_atom_j128 rec n y16 σ17 = some _ := hq18
          unfold X12_atom_j128 at h
          refine AW.istore_n (n := 129) (ls' := [some (vR 57), some (vI y16)]) (dat D_X12_atom 60 rfl) rfl (le45 rfl) (le45 rfl) rfl rfl ?_
          refine AW.iload_n (n := 130) (dat D_X12_atom 61 rfl) rfl rfl ?_
          refine AW.iconst (n := 131) (dat D_X12_atom 62 rfl) rfl ?_
          obtain ⟨s20, h, hq20⟩ := ob_some h
          obtain ⟨σ19, e20⟩ : ∃ z, z = s20 := ⟨_, rfl⟩
          subst e20
          have hJ20 : AW Γ mX12_atom (12 + (D + 1)) (0, 0) (85, τ) 0 0 138 [some (vR 57), some (vI y16)] [] (85, σ19) := by
            have h : X12_atom_j138 rec n y16 σ19 = some _ := hq20
            unfold X12_atom_j138 at h
            refine AW.aload_n (n := 139) (dat D_X12_atom 66 rfl) rfl rfl ?_
            obtain ⟨σ22, hc21, h⟩ := ob_some h
            refine AW.cV (n := 142) (as := []) (st := []) (st' := []) (uc' := 0) (us' := 0) (hrec_sum hc21) cf_X12_sum ly_57 (le45 rfl) vc_12 (le45 rfl) wM_X12_267 (by omega) (le45 rfl) (dat D_X12_atom 67 rfl) rfl rfl (le45 rfl) (le45 rfl) rfl (fun _ => ?_) nlt0
            refine AW.aload_n (n := 143) (dat D_X12_atom 68 rfl) rfl rfl ?_
            refine AW.iload_n (n := 144) (dat D_X12_atom 69 rfl) rfl rfl ?_
            obtain ⟨σ24, hc23, h⟩ := ob_some h
            refine AW.cV (n := 147) (as := [vI y16]) (st := []) (st' := []) (uc' := 0) (us' := 0) (A_X12_codes hΓ hc23) cf_X12_codes ly_57 (le45 rfl) vc_12 (le45 rfl) wM_X12_248 (by omega) (le45 rfl) (dat D_X12_atom 70 rfl) rfl rfl (le45 rfl) (le45 rfl) rfl (fun _ => ?_) nlt0
            cases h
            exact AW.vret rfl rfl rfl (dat D_X12_atom 71 rfl)
          refine AW.icmp_neH (t := 138) (n := 134) h (dat D_X12_atom 63 rfl) rfl rfl rfl (by decide) (fun h => ?_) (fun h => ?_)
          · refine AW.aload_n (n := 135) (dat D_X12_atom 64 rfl) rfl rfl ?_
            obtain ⟨σ26, hc25, h⟩ := ob_some h
            refine AW.cV (n := 138) (as := []) (st := []) (st' := []) (uc' := 0) (us' := 0) (A_X12_fails hΓ hc25) cf_X12_fails ly_57 (le45 rfl) vc_12 (le45 rfl) wM_X12_141 (by omega) (le45 rfl) (dat D_X12_atom 65 rfl) rfl rfl (le45 rfl) (le45 rfl) rfl (fun _ => ?_) nlt0
            cases h
            exact AW.to hJ20 (lle_s rfl (lle_s rfl (lle_z)))
          · cases h
            exact AW.to hJ20 (lle_s rfl (lle_s rfl (lle_z)))
        refine AW.if_eqH (t := 99) (n := 94) h (dat D_X12_atom 44 rfl) rfl rfl (fun h => ?_) (fun h => ?_)
        · refine AW.aload_n (n := 100) (dat D_X12_atom 47 rfl) rfl rfl ?_
          refine AW.bipush (n := 102) (dat D_X12_atom 48 rfl) rfl (by decide) ?_
          obtain ⟨v28, σ29, hc27, h⟩ := bnd2_some h
          refine AW.cV (n := 105) (as := [vI 61]) (st := []) (st' := [vI v28]) (uc' := 0) (us' := 0) (A_X12_takes hΓ hc27) cf_X12_takes ly_57 (le45 rfl) vc_12 (le45 rfl) wM_X12_138 (by omega) (le45 rfl) (dat D_X12_atom 49 rfl) rfl rfl (le45 rfl) (le45 rfl) rfl (fun _ => ?_) nlt0
          refine AW.if_eqH (t := 113) (n := 108) h (dat D_X12_atom 50 rfl) rfl rfl (fun h => ?_) (fun h => ?_)
          · refine AW.aload_n (n := 114) (dat D_X12_atom 53 rfl) rfl rfl ?_
            refine AW.bipush (n := 116) (dat D_X12_atom 54 rfl) rfl (by decide) ?_
            obtain ⟨v31, σ32, hc30, h⟩ := bnd2_some h
            refine AW.cV (n := 119) (as := [vI 62]) (st := []) (st' := [vI v31]) (uc' := 0) (us' := 0) (A_X12_takes hΓ hc30) cf_X12_takes ly_57 (le45 rfl) vc_12 (le45 rfl) wM_X12_138 (by omega) (le45 rfl) (dat D_X12_atom 55 rfl) rfl rfl (le45 rfl) (le45 rfl) rfl (fun _ => ?_) nlt0
            refine AW.if_eqH (t := 127) (n := 122) h (dat D_X12_atom 56 rfl) rfl rfl (fun h => ?_) (fun h => ?_)
            · refine AW.iconst (n := 128) (dat D_X12_atom 59 rfl) rfl ?_
              cases h
              exact AW.to hJ18 (lle_s rfl (lle_n (lle_z)))
            · refine AW.bipush (n := 124) (dat D_X12_atom 57 rfl) rfl (by decide) ?_
              refine AW.goto (t := 128) (dat D_X12_atom 58 rfl) rfl ?_
              cases h
              exact AW.to hJ18 (lle_s rfl (lle_n (lle_z)))
          · refine AW.bipush (n := 110) (dat D_X12_atom 51 rfl) rfl (by decide) ?_
            refine AW.goto (t := 128) (dat D_X12_atom 52 rfl) rfl ?_
            cases h
            exact AW.to hJ18 (lle_s rfl (lle_n (lle_z)))
        · refine AW.bipush (n := 96) (dat D_X12_atom 45 rfl) rfl (by decide) ?_
          refine AW.goto (t := 128) (dat D_X12_atom 46 rfl) rfl ?_
          cases h
          exact AW.to hJ18 (lle_s rfl (lle_n (lle_z)))
      · refine AW.aload_n (n := 41) (dat D_X12_atom 18 rfl) rfl rfl ?_
        obtain ⟨v34, σ35, hc33, h⟩ := bnd2_some h
        refine AW.cV (n := 44) (as := []) (st := []) (st' := [vI v34]) (uc' := 0) (us' := 0) (A_X12_goesIn hΓ hc33) cf_X12_goesIn ly_57 (le45 rfl) vc_12 (le45 rfl) wM_X12_261 (by omega) (le45 rfl) (dat D_X12_atom 19 rfl) rfl rfl (le45 rfl) (le45 rfl) rfl (fun _ => ?_) nlt0
        refine AW.if_neH (t := 48) (n := 47) h (dat D_X12_atom 20 rfl) rfl rfl (fun h => ?_) (fun h => ?_)
        · cases h
          exact AW.vret rfl rfl rfl (dat D_X12_atom 21 rfl)
        · refine AW.aload_n (n := 49) (dat D_X12_atom 22 rfl) rfl rfl ?_
          refine AW.bipush (n := 51) (dat D_X12_atom 23 rfl) rfl (by decide) ?_
          obtain ⟨σ37, hc36, h⟩ := ob_some h
          refine AW.cV (n := 54) (as := [vI 40]) (st := []) (st' := []) (uc' := 0) (us' := 0) (A_X12_asksSign hΓ hc36) cf_X12_asksSign ly_57 (le45 rfl) vc_12 (le45 rfl) wM_X12_220 (by omega) (le45 rfl) (dat D_X12_atom 24 rfl) rfl rfl (le45 rfl) (le45 rfl) rfl (fun _ => ?_) nlt0
          refine AW.aload_n (n := 55) (dat D_X12_atom 25 rfl) rfl rfl ?_
          obtain ⟨σ39, hc38, h⟩ := ob_some h
          refine AW.cV (n := 58) (as := []) (st := []) (st' := []) (uc' := 0) (us' := 0) (hrec_some hc38) cf_X12_some ly_57 (le45 rfl) vc_12 (le45 rfl) wM_X12_264 (by omega) (le45 rfl) (dat D_X12_atom 26 rfl) rfl rfl (le45 rfl) (le45 rfl) rfl (fun _ => ?_) nlt0
          refine AW.aload_n (n := 59) (dat D_X12_atom 27 rfl) rfl rfl ?_
          refine AW.bipush (n := 61) (dat D_X12_atom 28 rfl) rfl (by decide) ?_
          obtain ⟨σ41, hc40, h⟩ := ob_some h
          refine AW.cV (n := 64) (as := [vI 41]) (st := []) (st' := []) (uc' := 0) (us' := 0) (A_X12_asksSign hΓ hc40) cf_X12_asksSign ly_57 (le45 rfl) vc_12 (le45 rfl) wM_X12_220 (by omega) (le45 rfl) (dat D_X12_atom 29 rfl) rfl rfl (le45 rfl) (le45 rfl) rfl (fun _ => ?_) nlt0
          refine AW.aload_n (n := 65) (dat D_X12_atom 30 rfl) rfl rfl ?_
          refine AW.dup (n := 66) (dat D_X12_atom 31 rfl) rfl (cR _) ?_
          refine AW.getI (n := 69) fX12_21 wF_X12_256 ly_57 (le45 rfl) rfl rfl (dat D_X12_atom 32 rfl) rfl ?_
          refine AW.iconst (n := 70) (dat D_X12_atom 33 rfl) rfl ?_
          refine AW.isub (n := 71) (dat D_X12_atom 34 rfl) rfl ?_
          refine AW.putI (n := 74) fX12_21 wF_X12_256 ly_57 (le45 rfl) rfl rfl rfl (dat D_X12_atom 35 rfl) rfl ?_
          refine AW.ltS h (fun σ42 h => ?_)
          refine AW.goto (t := 147) (dat D_X12_atom 36 rfl) rfl ?_
          cases h
          exact AW.vret rfl rfl rfl (dat D_X12_atom 71 rfl)
    · refine AW.aload_n (n := 19) (dat D_X12_atom 8 rfl) rfl rfl ?_
      obtain ⟨σ44, hc43, h⟩ := ob_some h
      refine AW.cV (n := 22) (as := []) (st := []) (st' := []) (uc' := 0) (us' := 0) (hrec_atom hc43) cf_X12_atom ly_57 (le45 rfl) vc_12 (le45 rfl) wM_X12_251 (by omega) (le45 rfl) (dat D_X12_atom 9 rfl) rfl rfl (le45 rfl) (le45 rfl) rfl (fun _ => ?_) nlt0
      refine AW.aload_n (n := 23) (dat D_X12_atom 10 rfl) rfl rfl ?_
      refine AW.bipush (n := 25) (dat D_X12_atom 11 rfl) rfl (by decide) ?_
      obtain ⟨σ46, hc45, h⟩ := ob_some h
      refine AW.cV (n := 28) (as := [vI 27]) (st := []) (st' := []) (uc' := 0) (us' := 0) (A_X12_codes hΓ hc45) cf_X12_codes ly_57 (le45 rfl) vc_12 (le45 rfl) wM_X12_248 (by omega) (le45 rfl) (dat D_X12_atom 12 rfl) rfl rfl (le45 rfl) (le45 rfl) rfl (fun _ => ?_) nlt0
      refine AW.goto (t := 147) (dat D_X12_atom 13 rfl) rfl ?_
      cases h
      exact AW.vret rfl rfl rfl (dat D_X12_atom 71 rfl)
  · cases h
    exact AW.vret rfl rfl rfl (dat D_X12_atom 3 rfl)
def X12_sum_e6 (rec : Nat → SG → Option SG) (n : Nat) (σ6 : SG) : Option (SG) :=
  some (σ6)
def X12_sum_j50 (rec : Nat → SG → Option SG) (n : Nat) (σ11 : SG) (y10 : Int) (y13 : Int) : Option ((Int × SG) ⊕ (SG)) :=
  if w32 y13 = 0 then
    some (.inl (y13, σ11))
  else
    (rec 4  σ11).bind fun σ16 =>
    (X12_codes n y10 σ16).bind fun σ18 =>
    some (.inl (y13, σ18))
def X12_sum_j39 (rec : Nat → SG → Option SG) (n : Nat) (y10 : Int) (σ11 : SG) : Option ((Int × SG) ⊕ (SG)) :=
  ((if w32 y10 = (-1) then
    some (0)
  else
    some (1)) : Option (Int)).bind (fun s => X12_sum_j50 rec n σ11 y10 s)
def X12_sum_l6 (rec : Nat → SG → Option SG) (n : Nat) (z3 : Int) (σ4 : SG) : Option ((Int × SG) ⊕ (SG)) :=
  if w32 z3 = 0 then
    some (.inr σ4)
  else
    bnd2 (X12_takes n 43 σ4) fun v8 σ9 =>
    ((if w32 v8 = 0 then
      bnd2 (X12_takes n 45 σ9) fun v20 σ21 =>
      if w32 v20 = 0 then
        some (((-1), σ21))
      else
        some ((21, σ21))
    else
      some ((20, σ9))) : Option (Int × SG)).bind (fun s => X12_sum_j39 rec n s.1 s.2)
def X12_sum_b (rec : Nat → SG → Option SG) (n : Nat) (σ : SG) : Option (SG) :=
  (rec 4  σ).bind fun σ2 =>
  ((iter n (fun s : Int × SG => X12_sum_l6 rec n s.1 s.2) (1, σ2)) : Option (SG)).bind (fun s => X12_sum_e6 rec n s)
set_option maxHeartbeats 4000000 in
set_option maxRecDepth 100000 in
theorem A_X12_sum_b {Γ : GA} (hΓ : (gl Γ).stackTraces = false) {D : Nat} {rec : Nat → SG → Option SG} (hrec_some : ∀ {σ9 : SG} {τ9 : SG}, (rec 0  σ9) = some τ9 → AM Γ mX12_some (12 + D) 0 0 [vR 57] (85, σ9) (0, 0) (85, τ9)) (hrec_every : ∀ {σ9 : SG} {τ9 : SG}, (rec 1  σ9) = some τ9 → AM Γ mX12_every (12 + D) 0 0 [vR 57] (85, σ9) (0, 0) (85, τ9)) (hrec_atom : ∀ {σ9 : SG} {τ9 : SG}, (rec 2  σ9) = some τ9 → AM Γ mX12_atom (12 + D) 0 0 [vR 57] (85, σ9) (0, 0) (85, τ9)) (hrec_sum : ∀ {σ9 : SG} {τ9 : SG}, (rec 3  σ9) = some τ9 → AM Γ mX12_sum (12 + D) 0 0 [vR 57] (85, σ9) (0, 0) (85, τ9)) (hrec_product : ∀ {σ9 : SG} {τ9 : SG}, (rec 4  σ9) = some τ9 → AM Γ mX12_product (12 + D) 0 0 [vR 57] (85, σ9) (0, 0) (85, τ9)) (hrec_part : ∀ {σ9 : SG} {τ9 : SG}, (rec 5  σ9) = some τ9 → AM Γ mX12_part (12 + D) 0 0 [vR 57] (85, σ9) (0, 0) (85, τ9)) {n : Nat} {σ : SG} {τ : SG}  (h : X12_sum_b rec n σ = some τ) : AM Γ mX12_sum (12 + (D + 1)) 0 0 [vR 57] (85, σ) (0, 0) (85, τ) := by
  refine AM.of pl_X12 rfl wC_X12_sum (le45 rfl) hΓ ?_
  refine AW.to (ls'' := [some (vR 57), none, none]) ?_ (lle_s rfl (lle_e (lle_e (lle_z))))
  unfold X12_sum_b at h
  refine AW.aload_n (n := 1) (dat D_X12_sum 0 rfl) rfl rfl ?_
  obtain ⟨σ2, hc1, h⟩ := ob_some h
  refine AW.cV (n := 4) (as := []) (st := []) (st' := []) (uc' := 0) (us' := 0) (hrec_product hc1) cf_X12_product ly_57 (le45 rfl) vc_12 (le45 rfl) wM_X12_270 (by omega) (le45 rfl) (dat D_X12_sum 1 rfl) rfl rfl (le45 rfl) (le45 rfl) rfl (fun _ => ?_) nlt0
  refine AW.iconst (n := 5) (dat D_X12_sum 2 rfl) rfl ?_
  refine AW.istore_n (n := 6) (ls' := [some (vR 57), some (vI 1), none]) (dat D_X12_sum 3 rfl) rfl (le45 rfl) (le45 rfl) rfl rfl ?_
  obtain ⟨b5, hi5, hq5⟩ := ob_some h
  obtain ⟨σ6, e5⟩ : ∃ z, z = b5 := ⟨_, rfl⟩
  subst e5
  have hR5 : AW Γ mX12_sum (12 + (D + 1)) (0, 0) (85, τ) 0 0 70 [none, none, none] [] (85, σ6) := by
    have h : X12_sum_e6 rec n σ6 = some _ := hq5
    unfold X12_sum_e6 at h
    cases h
    exact AW.vret rfl rfl rfl (dat D_X12_sum 36 rfl)
  refine AW.to (ls'' := [some (vR 57), some (vI 1), none]) ?_ (lle_s rfl (lle_s rfl (lle_n (lle_z))))
  refine aw_iter (fun s : Int × SG => AW Γ mX12_sum (12 + (D + 1)) (0, 0) (85, τ) 0 0 6 [some (vR 57), some (vI (s.1)), none] [] (85, s.2)) (fun s y h hk5 hb5 => ?_) _ _ hi5
  obtain ⟨z3, σ4⟩ := s
  show AW Γ mX12_sum (12 + (D + 1)) (0, 0) (85, τ) 0 0 6 [some (vR 57), some (vI z3), none] [] (85, σ4)
  have h : X12_sum_l6 rec n z3 σ4 = some y := h
  unfold X12_sum_l6 at h
  refine AW.iload_n (n := 7) (dat D_X12_sum 4 rfl) rfl rfl ?_
  refine AW.if_eqH (t := 70) (n := 10) h (dat D_X12_sum 5 rfl) rfl rfl (fun h => ?_) (fun h => ?_)
  · cases h
    have hb := hb5 _ rfl
    cases hb
    exact AW.to hR5 (lle_n (lle_n (lle_n (lle_z))))
  · refine AW.aload_n (n := 11) (dat D_X12_sum 6 rfl) rfl rfl ?_
    refine AW.bipush (n := 13) (dat D_X12_sum 7 rfl) rfl (by decide) ?_
    obtain ⟨v8, σ9, hc7, h⟩ := bnd2_some h
    refine AW.cV (n := 16) (as := [vI 43]) (st := []) (st' := [vI v8]) (uc' := 0) (us' := 0) (A_X12_takes hΓ hc7) cf_X12_takes ly_57 (le45 rfl) vc_12 (le45 rfl) wM_X12_138 (by omega) (le45 rfl) (dat D_X12_sum 8 rfl) rfl rfl (le45 rfl) (le45 rfl) rfl (fun _ => ?_) nlt0
    obtain ⟨s12, h, hq12⟩ := ob_some h
    obtain ⟨y10, σ11⟩ := s12
    have hJ12 : AW Γ mX12_sum (12 + (D + 1)) (0, 0) (85, τ) 0 0 39 [some (vR 57), none, none] [vI y10] (85, σ11) := by
      have h : X12_sum_j39 rec n y10 σ11 = some _ := hq12
      unfold X12_sum_j39 at h
      refine AW.istore_n (n := 40) (ls' := [some (vR 57), none, some (vI y10)]) (dat D_X12_sum 19 rfl) rfl (le45 rfl) (le45 rfl) rfl rfl ?_
      refine AW.iload_n (n := 41) (dat D_X12_sum 20 rfl) rfl rfl ?_
      refine AW.iconst (n := 42) (dat D_X12_sum 21 rfl) rfl ?_
      obtain ⟨s14, h, hq14⟩ := ob_some h
      obtain ⟨y13, e14⟩ : ∃ z, z = s14 := ⟨_, rfl⟩
      subst e14
      have hJ14 : AW Γ mX12_sum (12 + (D + 1)) (0, 0) (85, τ) 0 0 50 [some (vR 57), none, some (vI y10)] [vI y13] (85, σ11) := by
        have h : X12_sum_j50 rec n σ11 y10 y13 = some _ := hq14
        unfold X12_sum_j50 at h
        refine AW.istore_n (n := 51) (ls' := [some (vR 57), some (vI y13), some (vI y10)]) (dat D_X12_sum 26 rfl) rfl (le45 rfl) (le45 rfl) rfl rfl ?_
        refine AW.iload_n (n := 52) (dat D_X12_sum 27 rfl) rfl rfl ?_
        refine AW.if_neH (t := 58) (n := 55) h (dat D_X12_sum 28 rfl) rfl rfl (fun h => ?_) (fun h => ?_)
        · refine AW.goto (t := 6) (dat D_X12_sum 29 rfl) rfl ?_
          cases h
          exact AW.to (hk5 _ rfl) (lle_s rfl (lle_s rfl (lle_n (lle_z))))
        · refine AW.aload_n (n := 59) (dat D_X12_sum 30 rfl) rfl rfl ?_
          obtain ⟨σ16, hc15, h⟩ := ob_some h
          refine AW.cV (n := 62) (as := []) (st := []) (st' := []) (uc' := 0) (us' := 0) (hrec_product hc15) cf_X12_product ly_57 (le45 rfl) vc_12 (le45 rfl) wM_X12_270 (by omega) (le45 rfl) (dat D_X12_sum 31 rfl) rfl rfl (le45 rfl) (le45 rfl) rfl (fun _ => ?_) nlt0
          refine AW.aload_n (n := 63) (dat D_X12_sum 32 rfl) rfl rfl ?_
          refine AW.iload_n (n := 64) (dat D_X12_sum 33 rfl) rfl rfl ?_
          obtain ⟨σ18, hc17, h⟩ := ob_some h
          refine AW.cV (n := 67) (as := [vI y10]) (st := []) (st' := []) (uc' := 0) (us' := 0) (A_X12_codes hΓ hc17) cf_X12_codes ly_57 (le45 rfl) vc_12 (le45 rfl) wM_X12_248 (by omega) (le45 rfl) (dat D_X12_sum 34 rfl) rfl rfl (le45 rfl) (le45 rfl) rfl (fun _ => ?_) nlt0
          refine AW.goto (t := 6) (dat D_X12_sum 35 rfl) rfl ?_
          cases h
          exact AW.to (hk5 _ rfl) (lle_s rfl (lle_s rfl (lle_n (lle_z))))
      refine AW.icmp_eqH (t := 49) (n := 45) h (dat D_X12_sum 22 rfl) rfl rfl rfl (by decide) (fun h => ?_) (fun h => ?_)
      · refine AW.iconst (n := 50) (dat D_X12_sum 25 rfl) rfl ?_
        cases h
        exact AW.to hJ14 (lle_s rfl (lle_n (lle_s rfl (lle_z))))
      · refine AW.iconst (n := 46) (dat D_X12_sum 23 rfl) rfl ?_
        refine AW.goto (t := 50) (dat D_X12_sum 24 rfl) rfl ?_
        cases h
        exact AW.to hJ14 (lle_s rfl (lle_n (lle_s rfl (lle_z))))
    refine AW.if_eqH (t := 24) (n := 19) h (dat D_X12_sum 9 rfl) rfl rfl (fun h => ?_) (fun h => ?_)
    · refine AW.aload_n (n := 25) (dat D_X12_sum 12 rfl) rfl rfl ?_
      refine AW.bipush (n := 27) (dat D_X12_sum 13 rfl) rfl (by decide) ?_
      obtain ⟨v20, σ21, hc19, h⟩ := bnd2_some h
      refine AW.cV (n := 30) (as := [vI 45]) (st := []) (st' := [vI v20]) (uc' := 0) (us' := 0) (A_X12_takes hΓ hc19) cf_X12_takes ly_57 (le45 rfl) vc_12 (le45 rfl) wM_X12_138 (by omega) (le45 rfl) (dat D_X12_sum 14 rfl) rfl rfl (le45 rfl) (le45 rfl) rfl (fun _ => ?_) nlt0
      refine AW.if_eqH (t := 38) (n := 33) h (dat D_X12_sum 15 rfl) rfl rfl (fun h => ?_) (fun h => ?_)
      · refine AW.iconst (n := 39) (dat D_X12_sum 18 rfl) rfl ?_
        cases h
        exact AW.to hJ12 (lle_s rfl (lle_n (lle_n (lle_z))))
      · refine AW.bipush (n := 35) (dat D_X12_sum 16 rfl) rfl (by decide) ?_
        refine AW.goto (t := 39) (dat D_X12_sum 17 rfl) rfl ?_
        cases h
        exact AW.to hJ12 (lle_s rfl (lle_n (lle_n (lle_z))))
    · refine AW.bipush (n := 21) (dat D_X12_sum 10 rfl) rfl (by decide) ?_
      refine AW.goto (t := 39) (dat D_X12_sum 11 rfl) rfl ?_
      cases h
      exact AW.to hJ12 (lle_s rfl (lle_n (lle_n (lle_z))))
def X12_product_e6 (rec : Nat → SG → Option SG) (n : Nat) (σ6 : SG) : Option (SG) :=
  some (σ6)
def X12_product_j50 (rec : Nat → SG → Option SG) (n : Nat) (σ11 : SG) (y10 : Int) (y13 : Int) : Option ((Int × SG) ⊕ (SG)) :=
  if w32 y13 = 0 then
    some (.inl (y13, σ11))
  else
    (rec 5  σ11).bind fun σ16 =>
    (X12_codes n y10 σ16).bind fun σ18 =>
    some (.inl (y13, σ18))
def X12_product_j39 (rec : Nat → SG → Option SG) (n : Nat) (y10 : Int) (σ11 : SG) : Option ((Int × SG) ⊕ (SG)) :=
  ((if w32 y10 = (-1) then
    some (0)
  else
    some (1)) : Option (Int)).bind (fun s => X12_product_j50 rec n σ11 y10 s)
def X12_product_l6 (rec : Nat → SG → Option SG) (n : Nat) (z3 : Int) (σ4 : SG) : Option ((Int × SG) ⊕ (SG)) :=
  if w32 z3 = 0 then
    some (.inr σ4)
  else
    bnd2 (X12_takes n 42 σ4) fun v8 σ9 =>
    ((if w32 v8 = 0 then
      bnd2 (X12_takes n 47 σ9) fun v20 σ21 =>
      if w32 v20 = 0 then
        some (((-1), σ21))
      else
        some ((23, σ21))
    else
      some ((22, σ9))) : Option (Int × SG)).bind (fun s => X12_product_j39 rec n s.1 s.2)
def X12_product_b (rec : Nat → SG → Option SG) (n : Nat) (σ : SG) : Option (SG) :=
  (rec 5  σ).bind fun σ2 =>
  ((iter n (fun s : Int × SG => X12_product_l6 rec n s.1 s.2) (1, σ2)) : Option (SG)).bind (fun s => X12_product_e6 rec n s)
set_option maxHeartbeats 4000000 in
set_option maxRecDepth 100000 in
theorem A_X12_product_b {Γ : GA} (hΓ : (gl Γ).stackTraces = false) {D : Nat} {rec : Nat → SG → Option SG} (hrec_some : ∀ {σ9 : SG} {τ9 : SG}, (rec 0  σ9) = some τ9 → AM Γ mX12_some (12 + D) 0 0 [vR 57] (85, σ9) (0, 0) (85, τ9)) (hrec_every : ∀ {σ9 : SG} {τ9 : SG}, (rec 1  σ9) = some τ9 → AM Γ mX12_every (12 + D) 0 0 [vR 57] (85, σ9) (0, 0) (85, τ9)) (hrec_atom : ∀ {σ9 : SG} {τ9 : SG}, (rec 2  σ9) = some τ9 → AM Γ mX12_atom (12 + D) 0 0 [vR 57] (85, σ9) (0, 0) (85, τ9)) (hrec_sum : ∀ {σ9 : SG} {τ9 : SG}, (rec 3  σ9) = some τ9 → AM Γ mX12_sum (12 + D) 0 0 [vR 57] (85, σ9) (0, 0) (85, τ9)) (hrec_product : ∀ {σ9 : SG} {τ9 : SG}, (rec 4  σ9) = some τ9 → AM Γ mX12_product (12 + D) 0 0 [vR 57] (85, σ9) (0, 0) (85, τ9)) (hrec_part : ∀ {σ9 : SG} {τ9 : SG}, (rec 5  σ9) = some τ9 → AM Γ mX12_part (12 + D) 0 0 [vR 57] (85, σ9) (0, 0) (85, τ9)) {n : Nat} {σ : SG} {τ : SG}  (h : X12_product_b rec n σ = some τ) : AM Γ mX12_product (12 + (D + 1)) 0 0 [vR 57] (85, σ) (0, 0) (85, τ) := by
  refine AM.of pl_X12 rfl wC_X12_product (le45 rfl) hΓ ?_
  refine AW.to (ls'' := [some (vR 57), none, none]) ?_ (lle_s rfl (lle_e (lle_e (lle_z))))
  unfold X12_product_b at h
  refine AW.aload_n (n := 1) (dat D_X12_product 0 rfl) rfl rfl ?_
  obtain ⟨σ2, hc1, h⟩ := ob_some h
  refine AW.cV (n := 4) (as := []) (st := []) (st' := []) (uc' := 0) (us' := 0) (hrec_part hc1) cf_X12_part ly_57 (le45 rfl) vc_12 (le45 rfl) wM_X12_273 (by omega) (le45 rfl) (dat D_X12_product 1 rfl) rfl rfl (le45 rfl) (le45 rfl) rfl (fun _ => ?_) nlt0
  refine AW.iconst (n := 5) (dat D_X12_product 2 rfl) rfl ?_
  refine AW.istore_n (n := 6) (ls' := [some (vR 57), some (vI 1), none]) (dat D_X12_product 3 rfl) rfl (le45 rfl) (le45 rfl) rfl rfl ?_
  obtain ⟨b5, hi5, hq5⟩ := ob_some h
  obtain ⟨σ6, e5⟩ : ∃ z, z = b5 := ⟨_, rfl⟩
  subst e5
  have hR5 : AW Γ mX12_product (12 + (D + 1)) (0, 0) (85, τ) 0 0 70 [none, none, none] [] (85, σ6) := by
    have h : X12_product_e6 rec n σ6 = some _ := hq5
    unfold X12_product_e6 at h
    cases h
    exact AW.vret rfl rfl rfl (dat D_X12_product 36 rfl)
  refine AW.to (ls'' := [some (vR 57), some (vI 1), none]) ?_ (lle_s rfl (lle_s rfl (lle_n (lle_z))))
  refine aw_iter (fun s : Int × SG => AW Γ mX12_product (12 + (D + 1)) (0, 0) (85, τ) 0 0 6 [some (vR 57), some (vI (s.1)), none] [] (85, s.2)) (fun s y h hk5 hb5 => ?_) _ _ hi5
  obtain ⟨z3, σ4⟩ := s
  show AW Γ mX12_product (12 + (D + 1)) (0, 0) (85, τ) 0 0 6 [some (vR 57), some (vI z3), none] [] (85, σ4)
  have h : X12_product_l6 rec n z3 σ4 = some y := h
  unfold X12_product_l6 at h
  refine AW.iload_n (n := 7) (dat D_X12_product 4 rfl) rfl rfl ?_
  refine AW.if_eqH (t := 70) (n := 10) h (dat D_X12_product 5 rfl) rfl rfl (fun h => ?_) (fun h => ?_)
  · cases h
    have hb := hb5 _ rfl
    cases hb
    exact AW.to hR5 (lle_n (lle_n (lle_n (lle_z))))
  · refine AW.aload_n (n := 11) (dat D_X12_product 6 rfl) rfl rfl ?_
    refine AW.bipush (n := 13) (dat D_X12_product 7 rfl) rfl (by decide) ?_
    obtain ⟨v8, σ9, hc7, h⟩ := bnd2_some h
    refine AW.cV (n := 16) (as := [vI 42]) (st := []) (st' := [vI v8]) (uc' := 0) (us' := 0) (A_X12_takes hΓ hc7) cf_X12_takes ly_57 (le45 rfl) vc_12 (le45 rfl) wM_X12_138 (by omega) (le45 rfl) (dat D_X12_product 8 rfl) rfl rfl (le45 rfl) (le45 rfl) rfl (fun _ => ?_) nlt0
    obtain ⟨s12, h, hq12⟩ := ob_some h
    obtain ⟨y10, σ11⟩ := s12
    have hJ12 : AW Γ mX12_product (12 + (D + 1)) (0, 0) (85, τ) 0 0 39 [some (vR 57), none, none] [vI y10] (85, σ11) := by
      have h : X12_product_j39 rec n y10 σ11 = some _ := hq12
      unfold X12_product_j39 at h
      refine AW.istore_n (n := 40) (ls' := [some (vR 57), none, some (vI y10)]) (dat D_X12_product 19 rfl) rfl (le45 rfl) (le45 rfl) rfl rfl ?_
      refine AW.iload_n (n := 41) (dat D_X12_product 20 rfl) rfl rfl ?_
      refine AW.iconst (n := 42) (dat D_X12_product 21 rfl) rfl ?_
      obtain ⟨s14, h, hq14⟩ := ob_some h
      obtain ⟨y13, e14⟩ : ∃ z, z = s14 := ⟨_, rfl⟩
      subst e14
      have hJ14 : AW Γ mX12_product (12 + (D + 1)) (0, 0) (85, τ) 0 0 50 [some (vR 57), none, some (vI y10)] [vI y13] (85, σ11) := by
        have h : X12_product_j50 rec n σ11 y10 y13 = some _ := hq14
        unfold X12_product_j50 at h
        refine AW.istore_n (n := 51) (ls' := [some (vR 57), some (vI y13), some (vI y10)]) (dat D_X12_product 26 rfl) rfl (le45 rfl) (le45 rfl) rfl rfl ?_
        refine AW.iload_n (n := 52) (dat D_X12_product 27 rfl) rfl rfl ?_
        refine AW.if_neH (t := 58) (n := 55) h (dat D_X12_product 28 rfl) rfl rfl (fun h => ?_) (fun h => ?_)
        · refine AW.goto (t := 6) (dat D_X12_product 29 rfl) rfl ?_
          cases h
          exact AW.to (hk5 _ rfl) (lle_s rfl (lle_s rfl (lle_n (lle_z))))
        · refine AW.aload_n (n := 59) (dat D_X12_product 30 rfl) rfl rfl ?_
          obtain ⟨σ16, hc15, h⟩ := ob_some h
          refine AW.cV (n := 62) (as := []) (st := []) (st' := []) (uc' := 0) (us' := 0) (hrec_part hc15) cf_X12_part ly_57 (le45 rfl) vc_12 (le45 rfl) wM_X12_273 (by omega) (le45 rfl) (dat D_X12_product 31 rfl) rfl rfl (le45 rfl) (le45 rfl) rfl (fun _ => ?_) nlt0
          refine AW.aload_n (n := 63) (dat D_X12_product 32 rfl) rfl rfl ?_
          refine AW.iload_n (n := 64) (dat D_X12_product 33 rfl) rfl rfl ?_
          obtain ⟨σ18, hc17, h⟩ := ob_some h
          refine AW.cV (n := 67) (as := [vI y10]) (st := []) (st' := []) (uc' := 0) (us' := 0) (A_X12_codes hΓ hc17) cf_X12_codes ly_57 (le45 rfl) vc_12 (le45 rfl) wM_X12_248 (by omega) (le45 rfl) (dat D_X12_product 34 rfl) rfl rfl (le45 rfl) (le45 rfl) rfl (fun _ => ?_) nlt0
          refine AW.goto (t := 6) (dat D_X12_product 35 rfl) rfl ?_
          cases h
          exact AW.to (hk5 _ rfl) (lle_s rfl (lle_s rfl (lle_n (lle_z))))
      refine AW.icmp_eqH (t := 49) (n := 45) h (dat D_X12_product 22 rfl) rfl rfl rfl (by decide) (fun h => ?_) (fun h => ?_)
      · refine AW.iconst (n := 50) (dat D_X12_product 25 rfl) rfl ?_
        cases h
        exact AW.to hJ14 (lle_s rfl (lle_n (lle_s rfl (lle_z))))
      · refine AW.iconst (n := 46) (dat D_X12_product 23 rfl) rfl ?_
        refine AW.goto (t := 50) (dat D_X12_product 24 rfl) rfl ?_
        cases h
        exact AW.to hJ14 (lle_s rfl (lle_n (lle_s rfl (lle_z))))
    refine AW.if_eqH (t := 24) (n := 19) h (dat D_X12_product 9 rfl) rfl rfl (fun h => ?_) (fun h => ?_)
    · refine AW.aload_n (n := 25) (dat D_X12_product 12 rfl) rfl rfl ?_
      refine AW.bipush (n := 27) (dat D_X12_product 13 rfl) rfl (by decide) ?_
      obtain ⟨v20, σ21, hc19, h⟩ := bnd2_some h
      refine AW.cV (n := 30) (as := [vI 47]) (st := []) (st' := [vI v20]) (uc' := 0) (us' := 0) (A_X12_takes hΓ hc19) cf_X12_takes ly_57 (le45 rfl) vc_12 (le45 rfl) wM_X12_138 (by omega) (le45 rfl) (dat D_X12_product 14 rfl) rfl rfl (le45 rfl) (le45 rfl) rfl (fun _ => ?_) nlt0
      refine AW.if_eqH (t := 38) (n := 33) h (dat D_X12_product 15 rfl) rfl rfl (fun h => ?_) (fun h => ?_)
      · refine AW.iconst (n := 39) (dat D_X12_product 18 rfl) rfl ?_
        cases h
        exact AW.to hJ12 (lle_s rfl (lle_n (lle_n (lle_z))))
      · refine AW.bipush (n := 35) (dat D_X12_product 16 rfl) rfl (by decide) ?_
        refine AW.goto (t := 39) (dat D_X12_product 17 rfl) rfl ?_
        cases h
        exact AW.to hJ12 (lle_s rfl (lle_n (lle_n (lle_z))))
    · refine AW.bipush (n := 21) (dat D_X12_product 10 rfl) rfl (by decide) ?_
      refine AW.goto (t := 39) (dat D_X12_product 11 rfl) rfl ?_
      cases h
      exact AW.to hJ12 (lle_s rfl (lle_n (lle_n (lle_z))))
def X12_part_b (rec : Nat → SG → Option SG) (n : Nat) (σ : SG) : Option (SG) :=
  (X12_hasFailed n σ).bind fun v2 =>
  if w32 v2 = 0 then
    bnd2 (X12_isNumber n σ) fun v4 σ5 =>
    if w32 v4 = 0 then
      bnd2 (X12_isSign n 91 σ5) fun v7 σ8 =>
      if w32 v7 = 0 then
        bnd2 (X12_fact n σ8) fun v10 σ11 =>
        if w32 v10 = (-1) then
          (X12_fails n σ11).bind fun σ15 =>
          some (σ15)
        else
          (X12_codes n v10 σ11).bind fun σ13 =>
          some (σ13)
      else
        bnd2 (X12_goesIn n σ8) fun v17 σ18 =>
        if w32 v17 = 0 then
          some (σ18)
        else
          (X12_asksSign n 91 σ18).bind fun σ20 =>
          (rec 3  σ20).bind fun σ22 =>
          (X12_asksSign n 93 σ22).bind fun σ24 =>
          lt (up σ24 57 21 ((σ24 57 21) - 1)) fun σ25 =>
          some (σ25)
    else
      bnd2 (X12_number n 4 0 9999 σ5) fun v27 σ28 =>
      (X12_codes n (1000 + v27) σ28).bind fun σ30 =>
      some (σ30)
  else
    some (σ)
set_option maxHeartbeats 4000000 in
set_option maxRecDepth 100000 in
theorem A_X12_part_b {Γ : GA} (hΓ : (gl Γ).stackTraces = false) {D : Nat} {rec : Nat → SG → Option SG} (hrec_some : ∀ {σ9 : SG} {τ9 : SG}, (rec 0  σ9) = some τ9 → AM Γ mX12_some (12 + D) 0 0 [vR 57] (85, σ9) (0, 0) (85, τ9)) (hrec_every : ∀ {σ9 : SG} {τ9 : SG}, (rec 1  σ9) = some τ9 → AM Γ mX12_every (12 + D) 0 0 [vR 57] (85, σ9) (0, 0) (85, τ9)) (hrec_atom : ∀ {σ9 : SG} {τ9 : SG}, (rec 2  σ9) = some τ9 → AM Γ mX12_atom (12 + D) 0 0 [vR 57] (85, σ9) (0, 0) (85, τ9)) (hrec_sum : ∀ {σ9 : SG} {τ9 : SG}, (rec 3  σ9) = some τ9 → AM Γ mX12_sum (12 + D) 0 0 [vR 57] (85, σ9) (0, 0) (85, τ9)) (hrec_product : ∀ {σ9 : SG} {τ9 : SG}, (rec 4  σ9) = some τ9 → AM Γ mX12_product (12 + D) 0 0 [vR 57] (85, σ9) (0, 0) (85, τ9)) (hrec_part : ∀ {σ9 : SG} {τ9 : SG}, (rec 5  σ9) = some τ9 → AM Γ mX12_part (12 + D) 0 0 [vR 57] (85, σ9) (0, 0) (85, τ9)) {n : Nat} {σ : SG} {τ : SG}  (h : X12_part_b rec n σ = some τ) : AM Γ mX12_part (12 + (D + 1)) 0 0 [vR 57] (85, σ) (0, 0) (85, τ) := by
  refine AM.of pl_X12 rfl wC_X12_part (le45 rfl) hΓ ?_
  refine AW.to (ls'' := [some (vR 57), none]) ?_ (lle_s rfl (lle_e (lle_z)))
  unfold X12_part_b at h
  refine AW.aload_n (n := 1) (dat D_X12_part 0 rfl) rfl rfl ?_
  obtain ⟨v2, hc1, h⟩ := ob_some h
  refine AW.cV (n := 4) (as := []) (st := []) (st' := [vI v2]) (uc' := 0) (us' := 0) (A_X12_hasFailed hΓ hc1) cf_X12_hasFailed ly_57 (le45 rfl) vc_12 (le45 rfl) wM_X12_130 (by omega) (le45 rfl) (dat D_X12_part 1 rfl) rfl rfl (le45 rfl) (le45 rfl) rfl (fun _ => ?_) nlt0
  refine AW.if_eqH (t := 8) (n := 7) h (dat D_X12_part 2 rfl) rfl rfl (fun h => ?_) (fun h => ?_)
  · refine AW.aload_n (n := 9) (dat D_X12_part 4 rfl) rfl rfl ?_
    obtain ⟨v4, σ5, hc3, h⟩ := bnd2_some h
    refine AW.cV (n := 12) (as := []) (st := []) (st' := [vI v4]) (uc' := 0) (us' := 0) (A_X12_isNumber hΓ hc3) cf_X12_isNumber ly_57 (le45 rfl) vc_12 (le45 rfl) wM_X12_286 (by omega) (le45 rfl) (dat D_X12_part 5 rfl) rfl rfl (le45 rfl) (le45 rfl) rfl (fun _ => ?_) nlt0
    refine AW.if_eqH (t := 35) (n := 15) h (dat D_X12_part 6 rfl) rfl rfl (fun h => ?_) (fun h => ?_)
    · refine AW.aload_n (n := 36) (dat D_X12_part 17 rfl) rfl rfl ?_
      refine AW.bipush (n := 38) (dat D_X12_part 18 rfl) rfl (by decide) ?_
      obtain ⟨v7, σ8, hc6, h⟩ := bnd2_some h
      refine AW.cV (n := 41) (as := [vI 91]) (st := []) (st' := [vI v7]) (uc' := 0) (us' := 0) (A_X12_isSign hΓ hc6) cf_X12_isSign ly_57 (le45 rfl) vc_12 (le45 rfl) wM_X12_134 (by omega) (le45 rfl) (dat D_X12_part 19 rfl) rfl rfl (le45 rfl) (le45 rfl) rfl (fun _ => ?_) nlt0
      refine AW.if_eqH (t := 81) (n := 44) h (dat D_X12_part 20 rfl) rfl rfl (fun h => ?_) (fun h => ?_)
      · refine AW.aload_n (n := 82) (dat D_X12_part 40 rfl) rfl rfl ?_
        obtain ⟨v10, σ11, hc9, h⟩ := bnd2_some h
        refine AW.cV (n := 85) (as := []) (st := []) (st' := [vI v10]) (uc' := 0) (us' := 0) (A_X12_fact hΓ hc9) cf_X12_fact ly_57 (le45 rfl) vc_12 (le45 rfl) wM_X12_289 (by omega) (le45 rfl) (dat D_X12_part 41 rfl) rfl rfl (le45 rfl) (le45 rfl) rfl (fun _ => ?_) nlt0
        refine AW.istore_n (n := 86) (ls' := [some (vR 57), some (vI v10)]) (dat D_X12_part 42 rfl) rfl (le45 rfl) (le45 rfl) rfl rfl ?_
        refine AW.iload_n (n := 87) (dat D_X12_part 43 rfl) rfl rfl ?_
        refine AW.iconst (n := 88) (dat D_X12_part 44 rfl) rfl ?_
        refine AW.icmp_neH (t := 98) (n := 91) h (dat D_X12_part 45 rfl) rfl rfl rfl (by decide) (fun h => ?_) (fun h => ?_)
        · refine AW.aload_n (n := 92) (dat D_X12_part 46 rfl) rfl rfl ?_
          obtain ⟨σ15, hc14, h⟩ := ob_some h
          refine AW.cV (n := 95) (as := []) (st := []) (st' := []) (uc' := 0) (us' := 0) (A_X12_fails hΓ hc14) cf_X12_fails ly_57 (le45 rfl) vc_12 (le45 rfl) wM_X12_141 (by omega) (le45 rfl) (dat D_X12_part 47 rfl) rfl rfl (le45 rfl) (le45 rfl) rfl (fun _ => ?_) nlt0
          refine AW.goto (t := 103) (dat D_X12_part 48 rfl) rfl ?_
          cases h
          exact AW.vret rfl rfl rfl (dat D_X12_part 52 rfl)
        · refine AW.aload_n (n := 99) (dat D_X12_part 49 rfl) rfl rfl ?_
          refine AW.iload_n (n := 100) (dat D_X12_part 50 rfl) rfl rfl ?_
          obtain ⟨σ13, hc12, h⟩ := ob_some h
          refine AW.cV (n := 103) (as := [vI v10]) (st := []) (st' := []) (uc' := 0) (us' := 0) (A_X12_codes hΓ hc12) cf_X12_codes ly_57 (le45 rfl) vc_12 (le45 rfl) wM_X12_248 (by omega) (le45 rfl) (dat D_X12_part 51 rfl) rfl rfl (le45 rfl) (le45 rfl) rfl (fun _ => ?_) nlt0
          cases h
          exact AW.vret rfl rfl rfl (dat D_X12_part 52 rfl)
      · refine AW.aload_n (n := 45) (dat D_X12_part 21 rfl) rfl rfl ?_
        obtain ⟨v17, σ18, hc16, h⟩ := bnd2_some h
        refine AW.cV (n := 48) (as := []) (st := []) (st' := [vI v17]) (uc' := 0) (us' := 0) (A_X12_goesIn hΓ hc16) cf_X12_goesIn ly_57 (le45 rfl) vc_12 (le45 rfl) wM_X12_261 (by omega) (le45 rfl) (dat D_X12_part 22 rfl) rfl rfl (le45 rfl) (le45 rfl) rfl (fun _ => ?_) nlt0
        refine AW.if_neH (t := 52) (n := 51) h (dat D_X12_part 23 rfl) rfl rfl (fun h => ?_) (fun h => ?_)
        · cases h
          exact AW.vret rfl rfl rfl (dat D_X12_part 24 rfl)
        · refine AW.aload_n (n := 53) (dat D_X12_part 25 rfl) rfl rfl ?_
          refine AW.bipush (n := 55) (dat D_X12_part 26 rfl) rfl (by decide) ?_
          obtain ⟨σ20, hc19, h⟩ := ob_some h
          refine AW.cV (n := 58) (as := [vI 91]) (st := []) (st' := []) (uc' := 0) (us' := 0) (A_X12_asksSign hΓ hc19) cf_X12_asksSign ly_57 (le45 rfl) vc_12 (le45 rfl) wM_X12_220 (by omega) (le45 rfl) (dat D_X12_part 27 rfl) rfl rfl (le45 rfl) (le45 rfl) rfl (fun _ => ?_) nlt0
          refine AW.aload_n (n := 59) (dat D_X12_part 28 rfl) rfl rfl ?_
          obtain ⟨σ22, hc21, h⟩ := ob_some h
          refine AW.cV (n := 62) (as := []) (st := []) (st' := []) (uc' := 0) (us' := 0) (hrec_sum hc21) cf_X12_sum ly_57 (le45 rfl) vc_12 (le45 rfl) wM_X12_267 (by omega) (le45 rfl) (dat D_X12_part 29 rfl) rfl rfl (le45 rfl) (le45 rfl) rfl (fun _ => ?_) nlt0
          refine AW.aload_n (n := 63) (dat D_X12_part 30 rfl) rfl rfl ?_
          refine AW.bipush (n := 65) (dat D_X12_part 31 rfl) rfl (by decide) ?_
          obtain ⟨σ24, hc23, h⟩ := ob_some h
          refine AW.cV (n := 68) (as := [vI 93]) (st := []) (st' := []) (uc' := 0) (us' := 0) (A_X12_asksSign hΓ hc23) cf_X12_asksSign ly_57 (le45 rfl) vc_12 (le45 rfl) wM_X12_220 (by omega) (le45 rfl) (dat D_X12_part 32 rfl) rfl rfl (le45 rfl) (le45 rfl) rfl (fun _ => ?_) nlt0
          refine AW.aload_n (n := 69) (dat D_X12_part 33 rfl) rfl rfl ?_
          refine AW.dup (n := 70) (dat D_X12_part 34 rfl) rfl (cR _) ?_
          refine AW.getI (n := 73) fX12_21 wF_X12_256 ly_57 (le45 rfl) rfl rfl (dat D_X12_part 35 rfl) rfl ?_
          refine AW.iconst (n := 74) (dat D_X12_part 36 rfl) rfl ?_
          refine AW.isub (n := 75) (dat D_X12_part 37 rfl) rfl ?_
          refine AW.putI (n := 78) fX12_21 wF_X12_256 ly_57 (le45 rfl) rfl rfl rfl (dat D_X12_part 38 rfl) rfl ?_
          refine AW.ltS h (fun σ25 h => ?_)
          refine AW.goto (t := 103) (dat D_X12_part 39 rfl) rfl ?_
          cases h
          exact AW.vret rfl rfl rfl (dat D_X12_part 52 rfl)
    · refine AW.aload_n (n := 16) (dat D_X12_part 7 rfl) rfl rfl ?_
      refine AW.sipush (n := 19) (dat D_X12_part 8 rfl) rfl (by decide) ?_
      refine AW.aload_n (n := 20) (dat D_X12_part 9 rfl) rfl rfl ?_
      refine AW.iconst (n := 21) (dat D_X12_part 10 rfl) rfl ?_
      refine AW.iconst (n := 22) (dat D_X12_part 11 rfl) rfl ?_
      refine AW.sipush (n := 25) (dat D_X12_part 12 rfl) rfl (by decide) ?_
      obtain ⟨v27, σ28, hc26, h⟩ := bnd2_some h
      refine AW.cV (n := 28) (as := [vI 4, vI 0, vI 9999]) (st := [vI 1000, vR 57]) (st' := [vI v27, vI 1000, vR 57]) (uc' := 0) (us' := 0) (A_X12_number hΓ hc26) cf_X12_number ly_57 (le45 rfl) vc_12 (le45 rfl) wM_X12_172 (by omega) (le45 rfl) (dat D_X12_part 13 rfl) rfl rfl (le45 rfl) (le45 rfl) rfl (fun _ => ?_) nlt0
      refine AW.iadd (n := 29) (dat D_X12_part 14 rfl) rfl ?_
      obtain ⟨σ30, hc29, h⟩ := ob_some h
      refine AW.cV (n := 32) (as := [vI (1000 + v27)]) (st := []) (st' := []) (uc' := 0) (us' := 0) (A_X12_codes hΓ hc29) cf_X12_codes ly_57 (le45 rfl) vc_12 (le45 rfl) wM_X12_248 (by omega) (le45 rfl) (dat D_X12_part 15 rfl) rfl rfl (le45 rfl) (le45 rfl) rfl (fun _ => ?_) nlt0
      refine AW.goto (t := 103) (dat D_X12_part 16 rfl) rfl ?_
      cases h
      exact AW.vret rfl rfl rfl (dat D_X12_part 52 rfl)
  · cases h
    exact AW.vret rfl rfl rfl (dat D_X12_part 3 rfl)
def MJ (n : Nat) : Nat → Nat → SG → Option SG
  | 0, _, _ => none
  | D + 1, i, σ => match i with
    | 0 => X12_some_b (MJ n D) n σ
    | 1 => X12_every_b (MJ n D) n σ
    | 2 => X12_atom_b (MJ n D) n σ
    | 3 => X12_sum_b (MJ n D) n σ
    | 4 => X12_product_b (MJ n D) n σ
    | _ => X12_part_b (MJ n D) n σ
theorem A_MJ {Γ : GA} (hΓ : (gl Γ).stackTraces = false) {n : Nat} : ∀ D : Nat, (∀ {σ τ : SG}, MJ n D 0 σ = some τ → AM Γ mX12_some (12 + D) 0 0 [vR 57] (85, σ) (0, 0) (85, τ)) ∧ (∀ {σ τ : SG}, MJ n D 1 σ = some τ → AM Γ mX12_every (12 + D) 0 0 [vR 57] (85, σ) (0, 0) (85, τ)) ∧ (∀ {σ τ : SG}, MJ n D 2 σ = some τ → AM Γ mX12_atom (12 + D) 0 0 [vR 57] (85, σ) (0, 0) (85, τ)) ∧ (∀ {σ τ : SG}, MJ n D 3 σ = some τ → AM Γ mX12_sum (12 + D) 0 0 [vR 57] (85, σ) (0, 0) (85, τ)) ∧ (∀ {σ τ : SG}, MJ n D 4 σ = some τ → AM Γ mX12_product (12 + D) 0 0 [vR 57] (85, σ) (0, 0) (85, τ)) ∧ (∀ {σ τ : SG}, MJ n D 5 σ = some τ → AM Γ mX12_part (12 + D) 0 0 [vR 57] (85, σ) (0, 0) (85, τ))
  | 0 => by
    refine ⟨?_, ?_, ?_, ?_, ?_, ?_⟩ <;> (intros; rename_i h; cases h)
  | D + 1 => by
    obtain ⟨g0, g1, g2, g3, g4, g5⟩ := A_MJ hΓ (n := n) D
    refine ⟨?_, ?_, ?_, ?_, ?_, ?_⟩
    · intros; rename_i h; exact A_X12_some_b hΓ g0 g1 g2 g3 g4 g5 h
    · intros; rename_i h; exact A_X12_every_b hΓ g0 g1 g2 g3 g4 g5 h
    · intros; rename_i h; exact A_X12_atom_b hΓ g0 g1 g2 g3 g4 g5 h
    · intros; rename_i h; exact A_X12_sum_b hΓ g0 g1 g2 g3 g4 g5 h
    · intros; rename_i h; exact A_X12_product_b hΓ g0 g1 g2 g3 g4 g5 h
    · intros; rename_i h; exact A_X12_part_b hΓ g0 g1 g2 g3 g4 g5 h
theorem A_X12_some {Γ : GA} (hΓ : (gl Γ).stackTraces = false) (D : Nat) {n : Nat} {σ τ : SG} (h : MJ n D 0 σ = some τ) : AM Γ mX12_some (12 + D) 0 0 [vR 57] (85, σ) (0, 0) (85, τ) := (A_MJ hΓ D).1 h
theorem A_X12_every {Γ : GA} (hΓ : (gl Γ).stackTraces = false) (D : Nat) {n : Nat} {σ τ : SG} (h : MJ n D 1 σ = some τ) : AM Γ mX12_every (12 + D) 0 0 [vR 57] (85, σ) (0, 0) (85, τ) := (A_MJ hΓ D).2.1 h
theorem A_X12_atom {Γ : GA} (hΓ : (gl Γ).stackTraces = false) (D : Nat) {n : Nat} {σ τ : SG} (h : MJ n D 2 σ = some τ) : AM Γ mX12_atom (12 + D) 0 0 [vR 57] (85, σ) (0, 0) (85, τ) := (A_MJ hΓ D).2.2.1 h
theorem A_X12_sum {Γ : GA} (hΓ : (gl Γ).stackTraces = false) (D : Nat) {n : Nat} {σ τ : SG} (h : MJ n D 3 σ = some τ) : AM Γ mX12_sum (12 + D) 0 0 [vR 57] (85, σ) (0, 0) (85, τ) := (A_MJ hΓ D).2.2.2.1 h
theorem A_X12_product {Γ : GA} (hΓ : (gl Γ).stackTraces = false) (D : Nat) {n : Nat} {σ τ : SG} (h : MJ n D 4 σ = some τ) : AM Γ mX12_product (12 + D) 0 0 [vR 57] (85, σ) (0, 0) (85, τ) := (A_MJ hΓ D).2.2.2.2.1 h
theorem A_X12_part {Γ : GA} (hΓ : (gl Γ).stackTraces = false) (D : Nat) {n : Nat} {σ τ : SG} (h : MJ n D 5 σ = some τ) : AM Γ mX12_part (12 + D) 0 0 [vR 57] (85, σ) (0, 0) (85, τ) := (A_MJ hΓ D).2.2.2.2.2 h
def L_X12_judgeLine : List (Nat × Instr × Nat) := [(0, .aload_n 0, 1), (1, .invokevirtual 127, 3), (4, .aload_n 0, 1), (5, .getfield 292, 3), (8, .bipush 10, 2), (10, .if_icmp .ne 8, 3), (13, .aload_n 0, 1), (14, .invokevirtual 141, 3), (17, .return_, 1), (18, .iconst 4, 1), (19, .aload_n 0, 1), (20, .getfield 292, 3), (23, .imul, 1), (24, .istore_n 1, 1), (25, .aload_n 0, 1), (26, .ldc_w 295, 3), (29, .invokevirtual 161, 3), (32, .istore_n 2, 1), (33, .iload_n 2, 1), (34, .ifCond .ne 10, 3), (37, .aload_n 0, 1), (38, .ldc_w 297, 3), (41, .invokevirtual 168, 3), (44, .aload_n 0, 1), (45, .getfield 36, 3), (48, .iload_n 1, 1), (49, .iload_n 2, 1), (50, .ifCond .eq 7, 3), (53, .iconst 1, 1), (54, .goto 4, 3), (57, .iconst (-1), 1), (58, .iastore, 1), (59, .aload_n 0, 1), (60, .getfield 36, 3), (63, .iload_n 1, 1), (64, .iconst 1, 1), (65, .iadd, 1), (66, .aload_n 0, 1), (67, .getfield 240, 3), (70, .iastore, 1), (71, .aload_n 0, 1), (72, .invokevirtual 267, 3), (75, .aload_n 0, 1), (76, .getfield 36, 3), (79, .iload_n 1, 1), (80, .iconst 2, 1), (81, .iadd, 1), (82, .aload_n 0, 1), (83, .getfield 240, 3), (86, .iastore, 1), (87, .aload_n 0, 1), (88, .ldc_w 299, 3), (91, .invokevirtual 161, 3), (94, .ifCond .eq 7, 3), (97, .aload_n 0, 1), (98, .invokevirtual 264, 3), (101, .aload_n 0, 1), (102, .getfield 36, 3), (105, .iload_n 1, 1), (106, .iconst 3, 1), (107, .iadd, 1), (108, .aload_n 0, 1), (109, .getfield 240, 3), (112, .iastore, 1), (113, .aload_n 0, 1), (114, .dup, 1), (115, .getfield 292, 3), (118, .iconst 1, 1), (119, .iadd, 1), (120, .putfield 292, 3), (123, .return_, 1)]
theorem D_X12_judgeLine : dOK cX12_judgeLine L_X12_judgeLine = true := by decide +kernel
theorem cf_X12_judgeLine : CFV mX12_judgeLine 0 := ⟨wI_X12_judgeLine, wS_X12_judgeLine, wN_WaveRightModel, wC_X12_judgeLine, rfl, ⟨by decide +kernel, by decide +kernel, by decide +kernel⟩, le45 rfl⟩
def X12_judgeLine_j101 (n : Nat) (x3 : Int) (σ22 : SG) : Option (SG) :=
  rdA 40 (x3 + 3) fun j24 => lt (up σ22 65 j24 (σ22 57 20)) fun σ25 =>
  lt (up σ25 57 19 ((σ25 57 19) + 1)) fun σ26 =>
  some (σ26)
def X12_judgeLine_j58 (n : Nat) (x3 : Int) (σ7 : SG) (y9 : Int) : Option (SG) :=
  rdA 40 x3 fun j11 => lt (up σ7 65 j11 y9) fun σ12 =>
  rdA 40 (x3 + 1) fun j13 => lt (up σ12 65 j13 (σ12 57 20)) fun σ14 =>
  (MJ n 200 3  σ14).bind fun σ16 =>
  rdA 40 (x3 + 2) fun j17 => lt (up σ16 65 j17 (σ16 57 20)) fun σ18 =>
  bnd2 (X12_takesWord n 66 σ18) fun v20 σ21 =>
  ((if w32 v20 = 0 then
    some (σ21)
  else
    (MJ n 200 0  σ21).bind fun σ28 =>
    some (σ28)) : Option (SG)).bind (fun s => X12_judgeLine_j101 n x3 s)
def X12_judgeLine_j44 (n : Nat) (v5 : Int) (x3 : Int) (σ7 : SG) : Option (SG) :=
  ((if w32 v5 = 0 then
    some ((-1))
  else
    some (1)) : Option (Int)).bind (fun s => X12_judgeLine_j58 n x3 σ7 s)
def X12_judgeLine (n : Nat) (σ : SG) : Option (SG) :=
  (X12_blanks n σ).bind fun σ2 =>
  if w32 (σ2 57 19) = 10 then
    (X12_fails n σ2).bind fun σ32 =>
    some (σ32)
  else
    lt (4 * (σ2 57 19)) fun x3 =>
    bnd2 (X12_takesWord n 58 σ2) fun v5 σ6 =>
    ((if w32 v5 = 0 then
      (X12_asksWord n 59 σ6).bind fun σ30 =>
      some (σ30)
    else
      some (σ6)) : Option (SG)).bind (fun s => X12_judgeLine_j44 n v5 x3 s)
set_option maxHeartbeats 4000000 in
set_option maxRecDepth 100000 in
theorem A_X12_judgeLine {Γ : GA} (hΓ : (gl Γ).stackTraces = false) {n : Nat} {σ : SG} {τ : SG}  (h : X12_judgeLine n σ = some τ) : AM Γ mX12_judgeLine 213 0 0 [vR 57] (85, σ) (0, 0) (85, τ) := by
  refine AM.of pl_X12 rfl wC_X12_judgeLine (le45 rfl) hΓ ?_
  refine AW.to (ls'' := [some (vR 57), none, none]) ?_ (lle_s rfl (lle_e (lle_e (lle_z))))
  unfold X12_judgeLine at h
  refine AW.aload_n (n := 1) (dat D_X12_judgeLine 0 rfl) rfl rfl ?_
  obtain ⟨σ2, hc1, h⟩ := ob_some h
  refine AW.cV (n := 4) (as := []) (st := []) (st' := []) (uc' := 0) (us' := 0) (A_X12_blanks hΓ hc1) cf_X12_blanks ly_57 (le45 rfl) vc_12 (le45 rfl) wM_X12_127 (le45 rfl) (le45 rfl) (dat D_X12_judgeLine 1 rfl) rfl rfl (le45 rfl) (le45 rfl) rfl (fun _ => ?_) nlt0
  refine AW.aload_n (n := 5) (dat D_X12_judgeLine 2 rfl) rfl rfl ?_
  refine AW.getI (n := 8) fX12_19 wF_X12_292 ly_57 (le45 rfl) rfl rfl (dat D_X12_judgeLine 3 rfl) rfl ?_
  refine AW.bipush (n := 10) (dat D_X12_judgeLine 4 rfl) rfl (by decide) ?_
  refine AW.icmp_neH (t := 18) (n := 13) h (dat D_X12_judgeLine 5 rfl) rfl rfl rfl (by decide) (fun h => ?_) (fun h => ?_)
  · refine AW.aload_n (n := 14) (dat D_X12_judgeLine 6 rfl) rfl rfl ?_
    obtain ⟨σ32, hc31, h⟩ := ob_some h
    refine AW.cV (n := 17) (as := []) (st := []) (st' := []) (uc' := 0) (us' := 0) (A_X12_fails hΓ hc31) cf_X12_fails ly_57 (le45 rfl) vc_12 (le45 rfl) wM_X12_141 (le45 rfl) (le45 rfl) (dat D_X12_judgeLine 7 rfl) rfl rfl (le45 rfl) (le45 rfl) rfl (fun _ => ?_) nlt0
    cases h
    exact AW.vret rfl rfl rfl (dat D_X12_judgeLine 8 rfl)
  · refine AW.iconst (n := 19) (dat D_X12_judgeLine 9 rfl) rfl ?_
    refine AW.aload_n (n := 20) (dat D_X12_judgeLine 10 rfl) rfl rfl ?_
    refine AW.getI (n := 23) fX12_19 wF_X12_292 ly_57 (le45 rfl) rfl rfl (dat D_X12_judgeLine 11 rfl) rfl ?_
    refine AW.imul (n := 24) (dat D_X12_judgeLine 12 rfl) rfl ?_
    refine AW.ltI h (fun x3 h => ?_)
    refine AW.istore_n (n := 25) (ls' := [some (vR 57), some (vI x3), none]) (dat D_X12_judgeLine 13 rfl) rfl (le45 rfl) (le45 rfl) rfl rfl ?_
    refine AW.aload_n (n := 26) (dat D_X12_judgeLine 14 rfl) rfl rfl ?_
    refine AW.ldcSW (n := 29) (j := 58) rfl (dat D_X12_judgeLine 15 rfl) rfl ?_
    obtain ⟨v5, σ6, hc4, h⟩ := bnd2_some h
    refine AW.cV (n := 32) (as := [vO 58]) (st := []) (st' := [vI v5]) (uc' := 0) (us' := 0) (A_X12_takesWord hΓ (by decide) hc4) cf_X12_takesWord ly_57 (le45 rfl) vc_12 (le45 rfl) wM_X12_161 (le45 rfl) (le45 rfl) (dat D_X12_judgeLine 16 rfl) rfl rfl (le45 rfl) (le45 rfl) rfl (fun _ => ?_) nlt0
    refine AW.istore_n (n := 33) (ls' := [some (vR 57), some (vI x3), some (vI v5)]) (dat D_X12_judgeLine 17 rfl) rfl (le45 rfl) (le45 rfl) rfl rfl ?_
    refine AW.iload_n (n := 34) (dat D_X12_judgeLine 18 rfl) rfl rfl ?_
    obtain ⟨s8, h, hq8⟩ := ob_some h
    obtain ⟨σ7, e8⟩ : ∃ z, z = s8 := ⟨_, rfl⟩
    subst e8
    have hJ8 : AW Γ mX12_judgeLine 213 (0, 0) (85, τ) 0 0 44 [some (vR 57), some (vI x3), some (vI v5)] [] (85, σ7) := by
      have h : X12_judgeLine_j44 n v5 x3 σ7 = some _ := hq8
      unfold X12_judgeLine_j44 at h
      refine AW.aload_n (n := 45) (dat D_X12_judgeLine 23 rfl) rfl rfl ?_
      refine AW.getR (n := 48) (t := 65) fX12_17 wF_X12_36 ly_57 (le45 rfl) rfl (dat D_X12_judgeLine 24 rfl) rfl ?_
      refine AW.iload_n (n := 49) (dat D_X12_judgeLine 25 rfl) rfl rfl ?_
      refine AW.iload_n (n := 50) (dat D_X12_judgeLine 26 rfl) rfl rfl ?_
      obtain ⟨s10, h, hq10⟩ := ob_some h
      obtain ⟨y9, e10⟩ : ∃ z, z = s10 := ⟨_, rfl⟩
      subst e10
      have hJ10 : AW Γ mX12_judgeLine 213 (0, 0) (85, τ) 0 0 58 [some (vR 57), some (vI x3), none] [vI y9, vI x3, vR 65] (85, σ7) := by
        have h : X12_judgeLine_j58 n x3 σ7 y9 = some _ := hq10
        unfold X12_judgeLine_j58 at h
        refine AW.iastH h (n := 59) rfl ly_65 (le45 rfl) (dat D_X12_judgeLine 31 rfl) rfl (fun j11 h => ?_)
        refine AW.ltS h (fun σ12 h => ?_)
        refine AW.aload_n (n := 60) (dat D_X12_judgeLine 32 rfl) rfl rfl ?_
        refine AW.getR (n := 63) (t := 65) fX12_17 wF_X12_36 ly_57 (le45 rfl) rfl (dat D_X12_judgeLine 33 rfl) rfl ?_
        refine AW.iload_n (n := 64) (dat D_X12_judgeLine 34 rfl) rfl rfl ?_
        refine AW.iconst (n := 65) (dat D_X12_judgeLine 35 rfl) rfl ?_
        refine AW.iadd (n := 66) (dat D_X12_judgeLine 36 rfl) rfl ?_
        refine AW.aload_n (n := 67) (dat D_X12_judgeLine 37 rfl) rfl rfl ?_
        refine AW.getI (n := 70) fX12_20 wF_X12_240 ly_57 (le45 rfl) rfl rfl (dat D_X12_judgeLine 38 rfl) rfl ?_
        refine AW.iastH h (n := 71) rfl ly_65 (le45 rfl) (dat D_X12_judgeLine 39 rfl) rfl (fun j13 h => ?_)
        refine AW.ltS h (fun σ14 h => ?_)
        refine AW.aload_n (n := 72) (dat D_X12_judgeLine 40 rfl) rfl rfl ?_
        obtain ⟨σ16, hc15, h⟩ := ob_some h
        refine AW.cV (n := 75) (as := []) (st := []) (st' := []) (uc' := 0) (us' := 0) (A_X12_sum hΓ 200 hc15) cf_X12_sum ly_57 (le45 rfl) vc_12 (le45 rfl) wM_X12_267 (le45 rfl) (le45 rfl) (dat D_X12_judgeLine 41 rfl) rfl rfl (le45 rfl) (le45 rfl) rfl (fun _ => ?_) nlt0
        refine AW.aload_n (n := 76) (dat D_X12_judgeLine 42 rfl) rfl rfl ?_
        refine AW.getR (n := 79) (t := 65) fX12_17 wF_X12_36 ly_57 (le45 rfl) rfl (dat D_X12_judgeLine 43 rfl) rfl ?_
        refine AW.iload_n (n := 80) (dat D_X12_judgeLine 44 rfl) rfl rfl ?_
        refine AW.iconst (n := 81) (dat D_X12_judgeLine 45 rfl) rfl ?_
        refine AW.iadd (n := 82) (dat D_X12_judgeLine 46 rfl) rfl ?_
        refine AW.aload_n (n := 83) (dat D_X12_judgeLine 47 rfl) rfl rfl ?_
        refine AW.getI (n := 86) fX12_20 wF_X12_240 ly_57 (le45 rfl) rfl rfl (dat D_X12_judgeLine 48 rfl) rfl ?_
        refine AW.iastH h (n := 87) rfl ly_65 (le45 rfl) (dat D_X12_judgeLine 49 rfl) rfl (fun j17 h => ?_)
        refine AW.ltS h (fun σ18 h => ?_)
        refine AW.aload_n (n := 88) (dat D_X12_judgeLine 50 rfl) rfl rfl ?_
        refine AW.ldcSW (n := 91) (j := 66) rfl (dat D_X12_judgeLine 51 rfl) rfl ?_
        obtain ⟨v20, σ21, hc19, h⟩ := bnd2_some h
        refine AW.cV (n := 94) (as := [vO 66]) (st := []) (st' := [vI v20]) (uc' := 0) (us' := 0) (A_X12_takesWord hΓ (by decide) hc19) cf_X12_takesWord ly_57 (le45 rfl) vc_12 (le45 rfl) wM_X12_161 (le45 rfl) (le45 rfl) (dat D_X12_judgeLine 52 rfl) rfl rfl (le45 rfl) (le45 rfl) rfl (fun _ => ?_) nlt0
        obtain ⟨s23, h, hq23⟩ := ob_some h
        obtain ⟨σ22, e23⟩ : ∃ z, z = s23 := ⟨_, rfl⟩
        subst e23
        have hJ23 : AW Γ mX12_judgeLine 213 (0, 0) (85, τ) 0 0 101 [some (vR 57), some (vI x3), none] [] (85, σ22) := by
          have h : X12_judgeLine_j101 n x3 σ22 = some _ := hq23
          unfold X12_judgeLine_j101 at h
          refine AW.aload_n (n := 102) (dat D_X12_judgeLine 56 rfl) rfl rfl ?_
          refine AW.getR (n := 105) (t := 65) fX12_17 wF_X12_36 ly_57 (le45 rfl) rfl (dat D_X12_judgeLine 57 rfl) rfl ?_
          refine AW.iload_n (n := 106) (dat D_X12_judgeLine 58 rfl) rfl rfl ?_
          refine AW.iconst (n := 107) (dat D_X12_judgeLine 59 rfl) rfl ?_
          refine AW.iadd (n := 108) (dat D_X12_judgeLine 60 rfl) rfl ?_
          refine AW.aload_n (n := 109) (dat D_X12_judgeLine 61 rfl) rfl rfl ?_
          refine AW.getI (n := 112) fX12_20 wF_X12_240 ly_57 (le45 rfl) rfl rfl (dat D_X12_judgeLine 62 rfl) rfl ?_
          refine AW.iastH h (n := 113) rfl ly_65 (le45 rfl) (dat D_X12_judgeLine 63 rfl) rfl (fun j24 h => ?_)
          refine AW.ltS h (fun σ25 h => ?_)
          refine AW.aload_n (n := 114) (dat D_X12_judgeLine 64 rfl) rfl rfl ?_
          refine AW.dup (n := 115) (dat D_X12_judgeLine 65 rfl) rfl (cR _) ?_
          refine AW.getI (n := 118) fX12_19 wF_X12_292 ly_57 (le45 rfl) rfl rfl (dat D_X12_judgeLine 66 rfl) rfl ?_
          refine AW.iconst (n := 119) (dat D_X12_judgeLine 67 rfl) rfl ?_
          refine AW.iadd (n := 120) (dat D_X12_judgeLine 68 rfl) rfl ?_
          refine AW.putI (n := 123) fX12_19 wF_X12_292 ly_57 (le45 rfl) rfl rfl rfl (dat D_X12_judgeLine 69 rfl) rfl ?_
          refine AW.ltS h (fun σ26 h => ?_)
          cases h
          exact AW.vret rfl rfl rfl (dat D_X12_judgeLine 70 rfl)
        refine AW.if_eqH (t := 101) (n := 97) h (dat D_X12_judgeLine 53 rfl) rfl rfl (fun h => ?_) (fun h => ?_)
        · cases h
          exact AW.to hJ23 (lle_s rfl (lle_s rfl (lle_n (lle_z))))
        · refine AW.aload_n (n := 98) (dat D_X12_judgeLine 54 rfl) rfl rfl ?_
          obtain ⟨σ28, hc27, h⟩ := ob_some h
          refine AW.cV (n := 101) (as := []) (st := []) (st' := []) (uc' := 0) (us' := 0) (A_X12_some hΓ 200 hc27) cf_X12_some ly_57 (le45 rfl) vc_12 (le45 rfl) wM_X12_264 (le45 rfl) (le45 rfl) (dat D_X12_judgeLine 55 rfl) rfl rfl (le45 rfl) (le45 rfl) rfl (fun _ => ?_) nlt0
          cases h
          exact AW.to hJ23 (lle_s rfl (lle_s rfl (lle_n (lle_z))))
      refine AW.if_eqH (t := 57) (n := 53) h (dat D_X12_judgeLine 27 rfl) rfl rfl (fun h => ?_) (fun h => ?_)
      · refine AW.iconst (n := 58) (dat D_X12_judgeLine 30 rfl) rfl ?_
        cases h
        exact AW.to hJ10 (lle_s rfl (lle_s rfl (lle_n (lle_z))))
      · refine AW.iconst (n := 54) (dat D_X12_judgeLine 28 rfl) rfl ?_
        refine AW.goto (t := 58) (dat D_X12_judgeLine 29 rfl) rfl ?_
        cases h
        exact AW.to hJ10 (lle_s rfl (lle_s rfl (lle_n (lle_z))))
    refine AW.if_neH (t := 44) (n := 37) h (dat D_X12_judgeLine 19 rfl) rfl rfl (fun h => ?_) (fun h => ?_)
    · refine AW.aload_n (n := 38) (dat D_X12_judgeLine 20 rfl) rfl rfl ?_
      refine AW.ldcSW (n := 41) (j := 59) rfl (dat D_X12_judgeLine 21 rfl) rfl ?_
      obtain ⟨σ30, hc29, h⟩ := ob_some h
      refine AW.cV (n := 44) (as := [vO 59]) (st := []) (st' := []) (uc' := 0) (us' := 0) (A_X12_asksWord hΓ (by decide) hc29) cf_X12_asksWord ly_57 (le45 rfl) vc_12 (le45 rfl) wM_X12_168 (le45 rfl) (le45 rfl) (dat D_X12_judgeLine 22 rfl) rfl rfl (le45 rfl) (le45 rfl) rfl (fun _ => ?_) nlt0
      cases h
      exact AW.to hJ8 (lle_s rfl (lle_s rfl (lle_s rfl (lle_z))))
    · cases h
      exact AW.to hJ8 (lle_s rfl (lle_s rfl (lle_s rfl (lle_z))))
