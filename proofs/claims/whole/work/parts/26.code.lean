/-! ===== methods as functions, and their bytecode beside them (printed by wip/whole/gen/emit.py) ===== -/
def L_X11_best : List (Nat × Instr × Nat) := [(0, .aload_n 0, 1), (1, .iload_n 1, 1), (2, .invokevirtual 145, 3), (5, .aload_n 0, 1), (6, .iload_n 2, 1), (7, .iconst 3, 1), (8, .invokevirtual 137, 3), (11, .aload_n 0, 1), (12, .getfield 55, 3), (15, .getfield 148, 3), (18, .iload_n 1, 1), (19, .aaload, 1), (20, .astore_n 3, 1), (21, .aload_n 0, 1), (22, .getfield 55, 3), (25, .getfield 213, 3), (28, .iconst (-1), 1), (29, .if_icmp .eq 10, 3), (32, .aload_n 3, 1), (33, .getfield 160, 3), (36, .ifCond .ne 14, 3), (39, .new 125, 3), (42, .dup, 1), (43, .ldc_w 264, 3), (46, .invokespecial 129, 3), (49, .athrow, 1), (50, .aload_n 0, 1), (51, .getfield 73, 3), (54, .aload_n 3, 1), (55, .aload_n 0, 1), (56, .getfield 55, 3), (59, .getfield 213, 3), (62, .iconst 0, 1), (63, .invokevirtual 266, 3), (66, .iload_n 2, 1), (67, .ifCond .ne 13, 3), (70, .aload_n 0, 1), (71, .getfield 73, 3), (74, .getfield 270, 3), (77, .goto 25, 3), (80, .iload_n 2, 1), (81, .iconst 1, 1), (82, .if_icmp .ne 13, 3), (85, .aload_n 0, 1), (86, .getfield 73, 3), (89, .getfield 271, 3), (92, .goto 10, 3), (95, .aload_n 0, 1), (96, .getfield 73, 3), (99, .getfield 272, 3), (102, .ireturn, 1)]
theorem D_X11_best : dOK cX11_best L_X11_best = true := by decide +kernel
theorem cf_X11_best : CFV mX11_best 2 := ⟨wI_X11_best, wS_X11_best, wN_WaveRight, wC_X11_best, rfl, ⟨by decide +kernel, by decide +kernel, by decide +kernel⟩, le45 rfl⟩
def X11_best (n : Nat) (a0 : Int) (a1 : Int) (σ : SG) : Option ((Nat × Int) × SG) :=
  (X11_mustBeSurfer n a0 σ).bind fun t2 => if t2 = 0 then
  (X11_mustBeOneOf n a1 3 σ).bind fun t4 => if t4 = 0 then
  rdA 5 a0 fun j5 => ckR isSw (σ 34 j5) fun k6 =>
  if w32 (σ 19 13) = (-1) then
    some (((4, 0), σ))
  else
    if w32 (σ k6 6) = 0 then
      some (((4, 0), σ))
    else
      (X0_findRide n k6 (σ 19 13) 0 σ).bind fun σ8 =>
      if w32 a1 = 0 then
        some (((0, (σ8 50 2)), σ8))
      else
        if w32 a1 = 1 then
          some (((0, (σ8 50 3)), σ8))
        else
          some (((0, (σ8 50 4)), σ8))
  else some (((t4, 0), σ))
  else some (((t2, 0), σ))
set_option maxHeartbeats 4000000 in
set_option maxRecDepth 100000 in
theorem A_X11_best {Γ : GA} (hΓ : (gl Γ).stackTraces = false) {n : Nat} {a0 : Int} {a1 : Int} {σ : SG} {o : Nat × Int} {τ : SG}  (h : X11_best n a0 a1 σ = some (o, τ)) : AM Γ mX11_best 9 8 48 [vR 0, vI a0, vI a1] (85, σ) o (85, τ) := by
  refine AM.of pl_X11 rfl wC_X11_best (le45 rfl) hΓ ?_
  refine AW.to (ls'' := [some (vR 0), some (vI a0), some (vI a1), none]) ?_ (lle_s rfl (lle_s rfl (lle_s rfl (lle_e (lle_z)))))
  unfold X11_best at h
  refine AW.aload_n (n := 1) (dat D_X11_best 0 rfl) rfl rfl ?_
  refine AW.iload_n (n := 2) (dat D_X11_best 1 rfl) rfl rfl ?_
  obtain ⟨t2, hc1, h⟩ := ob_some h
  refine AW.cV (n := 5) (as := [vI a0]) (st := []) (st' := []) (uc' := 7) (us' := 42) (A_X11_mustBeSurfer hΓ hc1) cf_X11_mustBeSurfer ly_0 (le45 rfl) vc_11 (le45 rfl) wM_X11_145 (le45 rfl) (le45 rfl) (dat D_X11_best 2 rfl) rfl rfl (le45 rfl) (le45 rfl) rfl (fun q => ?_) (fun q => ?_)
  rotate_left
  · have h := ite_f h (by have q : 0 < t2 := q; omega)
    cases h
    exact AX.out rfl q rfl rfl
  have h := ite_t h q
  refine AW.aload_n (n := 6) (dat D_X11_best 3 rfl) rfl rfl ?_
  refine AW.iload_n (n := 7) (dat D_X11_best 4 rfl) rfl rfl ?_
  refine AW.iconst (n := 8) (dat D_X11_best 5 rfl) rfl ?_
  obtain ⟨t4, hc3, h⟩ := ob_some h
  refine AW.cV (n := 11) (as := [vI a1, vI 3]) (st := []) (st' := []) (uc' := 6) (us' := 36) (A_X11_mustBeOneOf hΓ hc3) cf_X11_mustBeOneOf ly_0 (le45 rfl) vc_11 (le45 rfl) wM_X11_137 (le45 rfl) (le45 rfl) (dat D_X11_best 6 rfl) rfl rfl (le45 rfl) (le45 rfl) rfl (fun q => ?_) (fun q => ?_)
  rotate_left
  · have h := ite_f h (by have q : 0 < t4 := q; omega)
    cases h
    exact AX.out rfl q rfl rfl
  have h := ite_t h q
  refine AW.aload_n (n := 12) (dat D_X11_best 7 rfl) rfl rfl ?_
  refine AW.getR (n := 15) (t := 19) fX11_6 wF_X11_55 ly_0 (le45 rfl) rfl (dat D_X11_best 8 rfl) rfl ?_
  refine AW.getR (n := 18) (t := 34) fX1_2 wF_X11_148 ly_19 (le45 rfl) rfl (dat D_X11_best 9 rfl) rfl ?_
  refine AW.iload_n (n := 19) (dat D_X11_best 10 rfl) rfl rfl ?_
  refine AW.aaldH h (n := 20) rfl ly_34 (le45 rfl) (dat D_X11_best 11 rfl) rfl (fun j5 k6 hpk6 h => ?_)
  refine AW.astore_n (n := 21) (ls' := [some (vR 0), some (vI a0), some (vI a1), some (vR k6)]) (dat D_X11_best 12 rfl) rfl (le45 rfl) (le45 rfl) rfl rfl ?_
  refine AW.aload_n (n := 22) (dat D_X11_best 13 rfl) rfl rfl ?_
  refine AW.getR (n := 25) (t := 19) fX11_6 wF_X11_55 ly_0 (le45 rfl) rfl (dat D_X11_best 14 rfl) rfl ?_
  refine AW.getI (n := 28) fX1_13 wF_X11_213 ly_19 (le45 rfl) rfl rfl (dat D_X11_best 15 rfl) rfl ?_
  refine AW.iconst (n := 29) (dat D_X11_best 16 rfl) rfl ?_
  refine AW.icmp_eqH (t := 39) (n := 32) h (dat D_X11_best 17 rfl) rfl rfl rfl (by decide) (fun h => ?_) (fun h => ?_)
  · cases h
    exact AW.throwW (k := 4) (j := 40) (by decide) thrW_4 wL_X11_125 wN_java_lang_IllegalStateException rfl wM_X11_129 (dat D_X11_best 21 rfl) (dat D_X11_best 22 rfl) (dat D_X11_best 23 rfl) (dat D_X11_best 24 rfl) (dat D_X11_best 25 rfl) rfl (le45 rfl) (le45 rfl) rfl rfl (le45 rfl) (le45 rfl)
  · refine AW.aload_n (n := 33) (dat D_X11_best 18 rfl) rfl rfl ?_
    refine AW.getI (n := 36) fX9_6 wF_X11_160 (isSw_ly0 hpk6) (by have := isSw_lt hpk6; omega) rfl rfl (dat D_X11_best 19 rfl) rfl ?_
    refine AW.if_neH (t := 50) (n := 39) h (dat D_X11_best 20 rfl) rfl rfl (fun h => ?_) (fun h => ?_)
    · cases h
      exact AW.throwW (k := 4) (j := 40) (by decide) thrW_4 wL_X11_125 wN_java_lang_IllegalStateException rfl wM_X11_129 (dat D_X11_best 21 rfl) (dat D_X11_best 22 rfl) (dat D_X11_best 23 rfl) (dat D_X11_best 24 rfl) (dat D_X11_best 25 rfl) rfl (le45 rfl) (le45 rfl) rfl rfl (le45 rfl) (le45 rfl)
    · refine AW.aload_n (n := 51) (dat D_X11_best 26 rfl) rfl rfl ?_
      refine AW.getR (n := 54) (t := 50) fX11_8 wF_X11_73 ly_0 (le45 rfl) rfl (dat D_X11_best 27 rfl) rfl ?_
      refine AW.aload_n (n := 55) (dat D_X11_best 28 rfl) rfl rfl ?_
      refine AW.aload_n (n := 56) (dat D_X11_best 29 rfl) rfl rfl ?_
      refine AW.getR (n := 59) (t := 19) fX11_6 wF_X11_55 ly_0 (le45 rfl) rfl (dat D_X11_best 30 rfl) rfl ?_
      refine AW.getI (n := 62) fX1_13 wF_X11_213 ly_19 (le45 rfl) rfl rfl (dat D_X11_best 31 rfl) rfl ?_
      refine AW.iconst (n := 63) (dat D_X11_best 32 rfl) rfl ?_
      obtain ⟨σ8, hc7, h⟩ := ob_some h
      refine AW.cV (n := 66) (as := [vR k6, vI (σ 19 13), vI 0]) (st := []) (st' := []) (uc' := 6) (us' := 36) (A_X0_findRide hΓ hpk6 hc7) cf_X0_findRide ly_50 (le45 rfl) vc_0 (le45 rfl) wM_X11_266 (le45 rfl) (le45 rfl) (dat D_X11_best 33 rfl) rfl rfl (le45 rfl) (le45 rfl) rfl (fun _ => ?_) nlt0
      refine AW.iload_n (n := 67) (dat D_X11_best 34 rfl) rfl rfl ?_
      refine AW.if_neH (t := 80) (n := 70) h (dat D_X11_best 35 rfl) rfl rfl (fun h => ?_) (fun h => ?_)
      · refine AW.aload_n (n := 71) (dat D_X11_best 36 rfl) rfl rfl ?_
        refine AW.getR (n := 74) (t := 50) fX11_8 wF_X11_73 ly_0 (le45 rfl) rfl (dat D_X11_best 37 rfl) rfl ?_
        refine AW.getI (n := 77) fX0_2 wF_X11_270 ly_50 (le45 rfl) rfl rfl (dat D_X11_best 38 rfl) rfl ?_
        refine AW.goto (t := 102) (dat D_X11_best 39 rfl) rfl ?_
        cases h
        exact AW.iret rfl rfl rfl (dat D_X11_best 50 rfl)
      · refine AW.iload_n (n := 81) (dat D_X11_best 40 rfl) rfl rfl ?_
        refine AW.iconst (n := 82) (dat D_X11_best 41 rfl) rfl ?_
        refine AW.icmp_neH (t := 95) (n := 85) h (dat D_X11_best 42 rfl) rfl rfl rfl (by decide) (fun h => ?_) (fun h => ?_)
        · refine AW.aload_n (n := 86) (dat D_X11_best 43 rfl) rfl rfl ?_
          refine AW.getR (n := 89) (t := 50) fX11_8 wF_X11_73 ly_0 (le45 rfl) rfl (dat D_X11_best 44 rfl) rfl ?_
          refine AW.getI (n := 92) fX0_3 wF_X11_271 ly_50 (le45 rfl) rfl rfl (dat D_X11_best 45 rfl) rfl ?_
          refine AW.goto (t := 102) (dat D_X11_best 46 rfl) rfl ?_
          cases h
          exact AW.iret rfl rfl rfl (dat D_X11_best 50 rfl)
        · refine AW.aload_n (n := 96) (dat D_X11_best 47 rfl) rfl rfl ?_
          refine AW.getR (n := 99) (t := 50) fX11_8 wF_X11_73 ly_0 (le45 rfl) rfl (dat D_X11_best 48 rfl) rfl ?_
          refine AW.getI (n := 102) fX0_4 wF_X11_272 ly_50 (le45 rfl) rfl rfl (dat D_X11_best 49 rfl) rfl ?_
          cases h
          exact AW.iret rfl rfl rfl (dat D_X11_best 50 rfl)
def L_X0_comparePlan : List (Nat × Instr × Nat) := [(0, .iload_n 1, 1), (1, .aload_n 0, 1), (2, .getfield 74, 3), (5, .if_icmp .le 18, 3), (8, .aload_n 0, 1), (9, .iload_n 1, 1), (10, .putfield 74, 3), (13, .aload_n 0, 1), (14, .iload_n 2, 1), (15, .putfield 77, 3), (18, .aload_n 0, 1), (19, .iload_n 3, 1), (20, .putfield 80, 3), (23, .return_, 1)]
theorem D_X0_comparePlan : dOK cX0_comparePlan L_X0_comparePlan = true := by decide +kernel
theorem cf_X0_comparePlan : CFV mX0_comparePlan 3 := ⟨wI_X0_comparePlan, wS_X0_comparePlan, wN_WaveRight_Advice, wC_X0_comparePlan, rfl, ⟨by decide +kernel, by decide +kernel, by decide +kernel⟩, le45 rfl⟩
def X0_comparePlan (n : Nat) (a0 : Int) (a1 : Int) (a2 : Int) (σ : SG) : Option (SG) :=
  if w32 a0 ≤ w32 (σ 50 5) then
    some (σ)
  else
    lt (up σ 50 5 a0) fun σ1 =>
    lt (up σ1 50 6 a1) fun σ2 =>
    lt (up σ2 50 7 a2) fun σ3 =>
    some (σ3)
set_option maxHeartbeats 4000000 in
set_option maxRecDepth 100000 in
theorem A_X0_comparePlan {Γ : GA} (hΓ : (gl Γ).stackTraces = false) {n : Nat} {a0 : Int} {a1 : Int} {a2 : Int} {σ : SG} {τ : SG}  (h : X0_comparePlan n a0 a1 a2 σ = some τ) : AM Γ mX0_comparePlan 1 0 0 [vR 50, vI a0, vI a1, vI a2] (85, σ) (0, 0) (85, τ) := by
  refine AM.of pl_X0 rfl wC_X0_comparePlan (le45 rfl) hΓ ?_
  refine AW.to (ls'' := [some (vR 50), some (vI a0), some (vI a1), some (vI a2)]) ?_ (lle_s rfl (lle_s rfl (lle_s rfl (lle_s rfl (lle_z)))))
  unfold X0_comparePlan at h
  refine AW.iload_n (n := 1) (dat D_X0_comparePlan 0 rfl) rfl rfl ?_
  refine AW.aload_n (n := 2) (dat D_X0_comparePlan 1 rfl) rfl rfl ?_
  refine AW.getI (n := 5) fX0_5 wF_X0_74 ly_50 (le45 rfl) rfl rfl (dat D_X0_comparePlan 2 rfl) rfl ?_
  refine AW.icmp_leH (t := 23) (n := 8) h (dat D_X0_comparePlan 3 rfl) rfl rfl rfl rfl (fun h => ?_) (fun h => ?_)
  · cases h
    exact AW.vret rfl rfl rfl (dat D_X0_comparePlan 13 rfl)
  · refine AW.aload_n (n := 9) (dat D_X0_comparePlan 4 rfl) rfl rfl ?_
    refine AW.iload_n (n := 10) (dat D_X0_comparePlan 5 rfl) rfl rfl ?_
    refine AW.putI (n := 13) fX0_5 wF_X0_74 ly_50 (le45 rfl) rfl rfl rfl (dat D_X0_comparePlan 6 rfl) rfl ?_
    refine AW.ltS h (fun σ1 h => ?_)
    refine AW.aload_n (n := 14) (dat D_X0_comparePlan 7 rfl) rfl rfl ?_
    refine AW.iload_n (n := 15) (dat D_X0_comparePlan 8 rfl) rfl rfl ?_
    refine AW.putI (n := 18) fX0_6 wF_X0_77 ly_50 (le45 rfl) rfl rfl rfl (dat D_X0_comparePlan 9 rfl) rfl ?_
    refine AW.ltS h (fun σ2 h => ?_)
    refine AW.aload_n (n := 19) (dat D_X0_comparePlan 10 rfl) rfl rfl ?_
    refine AW.iload_n (n := 20) (dat D_X0_comparePlan 11 rfl) rfl rfl ?_
    refine AW.putI (n := 23) fX0_7 wF_X0_80 ly_50 (le45 rfl) rfl rfl rfl (dat D_X0_comparePlan 12 rfl) rfl ?_
    refine AW.ltS h (fun σ3 h => ?_)
    cases h
    exact AW.vret rfl rfl rfl (dat D_X0_comparePlan 13 rfl)
def L_X0_readWaves : List (Nat × Instr × Nat) := [(0, .aload_n 0, 1), (1, .getfield 18, 3), (4, .getfield 83, 3), (7, .istore_n 2, 1), (8, .iload_n 2, 1), (9, .aload_n 0, 1), (10, .getfield 18, 3), (13, .getfield 86, 3), (16, .getfield 90, 3), (19, .if_icmp .ge 105, 3), (22, .aload_n 0, 1), (23, .getfield 18, 3), (26, .getfield 86, 3), (29, .iload_n 2, 1), (30, .iconst 0, 1), (31, .invokevirtual 98, 3), (34, .istore_n 3, 1), (35, .aload_n 0, 1), (36, .getfield 9, 3), (39, .iload_n 2, 1), (40, .iconst (-1), 1), (41, .iastore, 1), (42, .iload_n 3, 1), (43, .aload_n 0, 1), (44, .getfield 18, 3), (47, .getfield 101, 3), (50, .aload_n 0, 1), (51, .getfield 18, 3), (54, .getfield 86, 3), (57, .getfield 104, 3), (60, .iadd, 1), (61, .if_icmp .gt 57, 3), (64, .aload_n 1, 1), (65, .getfield 107, 3), (68, .ifCond .ne 11, 3), (71, .iload_n 3, 1), (72, .aload_n 1, 1), (73, .getfield 111, 3), (76, .if_icmp .lt 42, 3), (79, .aload_n 0, 1), (80, .aload_n 1, 1), (81, .iload_n 2, 1), (82, .iconst 1, 1), (83, .invokevirtual 114, 3), (86, .aload_n 0, 1), (87, .getfield 9, 3), (90, .iload_n 2, 1), (91, .aload_n 0, 1), (92, .getfield 33, 3), (95, .iastore, 1), (96, .aload_n 0, 1), (97, .getfield 15, 3), (100, .iload_n 2, 1), (101, .iload_n 3, 1), (102, .iconst 1, 1), (103, .iadd, 1), (104, .aload_n 1, 1), (105, .iconst 0, 1), (106, .aload_n 0, 1), (107, .getfield 26, 3), (110, .invokestatic 55, 3), (113, .invokevirtual 118, 3), (116, .iadd, 1), (117, .iastore, 1), (118, .iinc 2 1, 3), (121, .goto (-113), 3), (124, .return_, 1)]
theorem D_X0_readWaves : dOK cX0_readWaves L_X0_readWaves = true := by decide +kernel
theorem cf_X0_readWaves : CFV mX0_readWaves 1 := ⟨wI_X0_readWaves, wS_X0_readWaves, wN_WaveRight_Advice, wC_X0_readWaves, rfl, ⟨by decide +kernel, by decide +kernel, by decide +kernel⟩, le45 rfl⟩
def X0_readWaves_e8 (n : Nat) (σ5 : SG) : Option (SG) :=
  some (σ5)
def X0_readWaves_j118 (n : Nat) (z2 : Int) (σ13 : SG) : Option ((Int × SG) ⊕ (SG)) :=
  lt (z2 + 1) fun x15 =>
  some (.inl (x15, σ13))
def X0_readWaves_l8 (n : Nat) (a0 : Nat) (z2 : Int) (σ3 : SG) : Option ((Int × SG) ⊕ (SG)) :=
  ckR isSea (σ3 19 0) fun k6 =>
  if w32 (σ3 k6 6) ≤ w32 z2 then
    some (.inr σ3)
  else
    ckR isSea (σ3 19 0) fun k7 =>
    (X6_factOf n k7 z2 0 σ3).bind fun v9 =>
    rdA 20 z2 fun j10 => lt (up σ3 51 j10 (-1)) fun σ11 =>
    ckR isSea (σ11 19 0) fun k12 =>
    ((if w32 ((σ11 19 10) + (σ11 k12 7)) < w32 v9 then
      some (σ11)
    else
      if w32 (σ11 a0 6) = 0 then
        if w32 v9 < w32 (σ11 a0 8) then
          some (σ11)
        else
          (X0_findRide n a0 z2 1 σ11).bind fun σ25 =>
          rdA 20 z2 fun j26 => lt (up σ25 51 j26 (σ25 50 4)) fun σ27 =>
          (X9_minutesFor n a0 (mx32 0 (σ27 50 2)) σ27).bind fun v29 =>
          rdA 20 z2 fun j30 => lt (up σ27 52 j30 ((v9 + 1) + v29)) fun σ31 =>
          some (σ31)
      else
        (X0_findRide n a0 z2 1 σ11).bind fun σ17 =>
        rdA 20 z2 fun j18 => lt (up σ17 51 j18 (σ17 50 4)) fun σ19 =>
        (X9_minutesFor n a0 (mx32 0 (σ19 50 2)) σ19).bind fun v21 =>
        rdA 20 z2 fun j22 => lt (up σ19 52 j22 ((v9 + 1) + v21)) fun σ23 =>
        some (σ23)) : Option (SG)).bind (fun s => X0_readWaves_j118 n z2 s)
def X0_readWaves (n : Nat) (a0 : Nat) (σ : SG) : Option (SG) :=
  lt (σ 19 12) fun x1 =>
  ((iter n (fun s : Int × SG => X0_readWaves_l8 n a0 s.1 s.2) (x1, σ)) : Option (SG)).bind (fun s => X0_readWaves_e8 n s)
set_option maxHeartbeats 4000000 in
set_option maxRecDepth 100000 in
theorem A_X0_readWaves {Γ : GA} (hΓ : (gl Γ).stackTraces = false) {n : Nat} {a0 : Nat} {σ : SG} {τ : SG} (hpa0 : isSw a0 = true) (h : X0_readWaves n a0 σ = some τ) : AM Γ mX0_readWaves 6 0 0 [vR 50, vR a0] (85, σ) (0, 0) (85, τ) := by
  refine AM.of pl_X0 rfl wC_X0_readWaves (le45 rfl) hΓ ?_
  refine AW.to (ls'' := [some (vR 50), some (vR a0), none, none]) ?_ (lle_s rfl (lle_s rfl (lle_e (lle_e (lle_z)))))
  unfold X0_readWaves at h
  refine AW.aload_n (n := 1) (dat D_X0_readWaves 0 rfl) rfl rfl ?_
  refine AW.getR (n := 4) (t := 19) fX0_0 wF_X0_18 ly_50 (le45 rfl) rfl (dat D_X0_readWaves 1 rfl) rfl ?_
  refine AW.getI (n := 7) fX1_12 wF_X0_83 ly_19 (le45 rfl) rfl rfl (dat D_X0_readWaves 2 rfl) rfl ?_
  refine AW.ltI h (fun x1 h => ?_)
  refine AW.istore_n (n := 8) (ls' := [some (vR 50), some (vR a0), some (vI x1), none]) (dat D_X0_readWaves 3 rfl) rfl (le45 rfl) (le45 rfl) rfl rfl ?_
  obtain ⟨b4, hi4, hq4⟩ := ob_some h
  obtain ⟨σ5, e4⟩ : ∃ z, z = b4 := ⟨_, rfl⟩
  subst e4
  have hR4 : AW Γ mX0_readWaves 6 (0, 0) (85, τ) 0 0 124 [none, none, none, none] [] (85, σ5) := by
    have h : X0_readWaves_e8 n σ5 = some _ := hq4
    unfold X0_readWaves_e8 at h
    cases h
    exact AW.vret rfl rfl rfl (dat D_X0_readWaves 66 rfl)
  refine AW.to (ls'' := [some (vR 50), some (vR a0), some (vI x1), none]) ?_ (lle_s rfl (lle_s rfl (lle_s rfl (lle_n (lle_z)))))
  refine aw_iter (fun s : Int × SG => AW Γ mX0_readWaves 6 (0, 0) (85, τ) 0 0 8 [some (vR 50), some (vR a0), some (vI (s.1)), none] [] (85, s.2)) (fun s y h hk4 hb4 => ?_) _ _ hi4
  obtain ⟨z2, σ3⟩ := s
  show AW Γ mX0_readWaves 6 (0, 0) (85, τ) 0 0 8 [some (vR 50), some (vR a0), some (vI z2), none] [] (85, σ3)
  have h : X0_readWaves_l8 n a0 z2 σ3 = some y := h
  unfold X0_readWaves_l8 at h
  refine AW.iload_n (n := 9) (dat D_X0_readWaves 4 rfl) rfl rfl ?_
  refine AW.aload_n (n := 10) (dat D_X0_readWaves 5 rfl) rfl rfl ?_
  refine AW.getR (n := 13) (t := 19) fX0_0 wF_X0_18 ly_50 (le45 rfl) rfl (dat D_X0_readWaves 6 rfl) rfl ?_
  refine AW.getQH h (n := 16) fX1_0 wF_X0_86 ly_19 (le45 rfl) rfl rfl (dat D_X0_readWaves 7 rfl) rfl (fun k6 hpk6 h => ?_)
  refine AW.getI (n := 19) fX6_6 wF_X0_90 (isSea_ly0 hpk6) (by have := isSea_lt hpk6; omega) rfl rfl (dat D_X0_readWaves 8 rfl) rfl ?_
  refine AW.icmp_geH (t := 124) (n := 22) h (dat D_X0_readWaves 9 rfl) rfl rfl rfl rfl (fun h => ?_) (fun h => ?_)
  · cases h
    have hb := hb4 _ rfl
    cases hb
    exact AW.to hR4 (lle_n (lle_n (lle_n (lle_n (lle_z)))))
  · refine AW.aload_n (n := 23) (dat D_X0_readWaves 10 rfl) rfl rfl ?_
    refine AW.getR (n := 26) (t := 19) fX0_0 wF_X0_18 ly_50 (le45 rfl) rfl (dat D_X0_readWaves 11 rfl) rfl ?_
    refine AW.getQH h (n := 29) fX1_0 wF_X0_86 ly_19 (le45 rfl) rfl rfl (dat D_X0_readWaves 12 rfl) rfl (fun k7 hpk7 h => ?_)
    refine AW.iload_n (n := 30) (dat D_X0_readWaves 13 rfl) rfl rfl ?_
    refine AW.iconst (n := 31) (dat D_X0_readWaves 14 rfl) rfl ?_
    obtain ⟨v9, hc8, h⟩ := ob_some h
    refine AW.cV (n := 34) (as := [vI z2, vI 0]) (st := []) (st' := [vI v9]) (uc' := 0) (us' := 0) (A_X6_factOf hΓ hpk7 hc8) cf_X6_factOf (isSea_ly0 hpk7) (by have := isSea_lt hpk7; omega) vc_6 (le45 rfl) wM_X0_98 (le45 rfl) (le45 rfl) (dat D_X0_readWaves 15 rfl) rfl rfl (le45 rfl) (le45 rfl) rfl (fun _ => ?_) nlt0
    refine AW.istore_n (n := 35) (ls' := [some (vR 50), some (vR a0), some (vI z2), some (vI v9)]) (dat D_X0_readWaves 16 rfl) rfl (le45 rfl) (le45 rfl) rfl rfl ?_
    refine AW.aload_n (n := 36) (dat D_X0_readWaves 17 rfl) rfl rfl ?_
    refine AW.getR (n := 39) (t := 51) fX0_8 wF_X0_9 ly_50 (le45 rfl) rfl (dat D_X0_readWaves 18 rfl) rfl ?_
    refine AW.iload_n (n := 40) (dat D_X0_readWaves 19 rfl) rfl rfl ?_
    refine AW.iconst (n := 41) (dat D_X0_readWaves 20 rfl) rfl ?_
    refine AW.iastH h (n := 42) rfl ly_51 (le45 rfl) (dat D_X0_readWaves 21 rfl) rfl (fun j10 h => ?_)
    refine AW.ltS h (fun σ11 h => ?_)
    refine AW.iload_n (n := 43) (dat D_X0_readWaves 22 rfl) rfl rfl ?_
    refine AW.aload_n (n := 44) (dat D_X0_readWaves 23 rfl) rfl rfl ?_
    refine AW.getR (n := 47) (t := 19) fX0_0 wF_X0_18 ly_50 (le45 rfl) rfl (dat D_X0_readWaves 24 rfl) rfl ?_
    refine AW.getI (n := 50) fX1_10 wF_X0_101 ly_19 (le45 rfl) rfl rfl (dat D_X0_readWaves 25 rfl) rfl ?_
    refine AW.aload_n (n := 51) (dat D_X0_readWaves 26 rfl) rfl rfl ?_
    refine AW.getR (n := 54) (t := 19) fX0_0 wF_X0_18 ly_50 (le45 rfl) rfl (dat D_X0_readWaves 27 rfl) rfl ?_
    refine AW.getQH h (n := 57) fX1_0 wF_X0_86 ly_19 (le45 rfl) rfl rfl (dat D_X0_readWaves 28 rfl) rfl (fun k12 hpk12 h => ?_)
    refine AW.getI (n := 60) fX6_7 wF_X0_104 (isSea_ly0 hpk12) (by have := isSea_lt hpk12; omega) rfl rfl (dat D_X0_readWaves 29 rfl) rfl ?_
    refine AW.iadd (n := 61) (dat D_X0_readWaves 30 rfl) rfl ?_
    obtain ⟨s14, h, hq14⟩ := ob_some h
    obtain ⟨σ13, e14⟩ : ∃ z, z = s14 := ⟨_, rfl⟩
    subst e14
    have hJ14 : AW Γ mX0_readWaves 6 (0, 0) (85, τ) 0 0 118 [some (vR 50), some (vR a0), some (vI z2), none] [] (85, σ13) := by
      have h : X0_readWaves_j118 n z2 σ13 = some _ := hq14
      unfold X0_readWaves_j118 at h
      refine AW.iincH h (n := 121) (dat D_X0_readWaves 64 rfl) rfl rfl (le45 rfl) rfl (fun x15 h => ?_)
      refine AW.lq (ls' := [some (vR 50), some (vR a0), some (vI x15), none]) rfl ?_
      refine AW.goto (t := 8) (dat D_X0_readWaves 65 rfl) rfl ?_
      cases h
      exact AW.to (hk4 _ rfl) (lle_s rfl (lle_s rfl (lle_s rfl (lle_n (lle_z)))))
    refine AW.icmp_gtH (t := 118) (n := 64) h (dat D_X0_readWaves 31 rfl) rfl rfl rfl rfl (fun h => ?_) (fun h => ?_)
    · cases h
      exact AW.to hJ14 (lle_s rfl (lle_s rfl (lle_s rfl (lle_n (lle_z)))))
    · refine AW.aload_n (n := 65) (dat D_X0_readWaves 32 rfl) rfl rfl ?_
      refine AW.getI (n := 68) fX9_6 wF_X0_107 (isSw_ly0 hpa0) (by have := isSw_lt hpa0; omega) rfl rfl (dat D_X0_readWaves 33 rfl) rfl ?_
      refine AW.if_neH (t := 79) (n := 71) h (dat D_X0_readWaves 34 rfl) rfl rfl (fun h => ?_) (fun h => ?_)
      · refine AW.iload_n (n := 72) (dat D_X0_readWaves 35 rfl) rfl rfl ?_
        refine AW.aload_n (n := 73) (dat D_X0_readWaves 36 rfl) rfl rfl ?_
        refine AW.getI (n := 76) fX9_8 wF_X0_111 (isSw_ly0 hpa0) (by have := isSw_lt hpa0; omega) rfl rfl (dat D_X0_readWaves 37 rfl) rfl ?_
        refine AW.icmp_ltH (t := 118) (n := 79) h (dat D_X0_readWaves 38 rfl) rfl rfl rfl rfl (fun h => ?_) (fun h => ?_)
        · cases h
          exact AW.to hJ14 (lle_s rfl (lle_s rfl (lle_s rfl (lle_n (lle_z)))))
        · refine AW.aload_n (n := 80) (dat D_X0_readWaves 39 rfl) rfl rfl ?_
          refine AW.aload_n (n := 81) (dat D_X0_readWaves 40 rfl) rfl rfl ?_
          refine AW.iload_n (n := 82) (dat D_X0_readWaves 41 rfl) rfl rfl ?_
          refine AW.iconst (n := 83) (dat D_X0_readWaves 42 rfl) rfl ?_
          obtain ⟨σ25, hc24, h⟩ := ob_some h
          refine AW.cV (n := 86) (as := [vR a0, vI z2, vI 1]) (st := []) (st' := []) (uc' := 0) (us' := 0) (A_X0_findRide hΓ hpa0 hc24) cf_X0_findRide ly_50 (le45 rfl) vc_0 (le45 rfl) wM_X0_114 (le45 rfl) (le45 rfl) (dat D_X0_readWaves 43 rfl) rfl rfl (le45 rfl) (le45 rfl) rfl (fun _ => ?_) nlt0
          refine AW.aload_n (n := 87) (dat D_X0_readWaves 44 rfl) rfl rfl ?_
          refine AW.getR (n := 90) (t := 51) fX0_8 wF_X0_9 ly_50 (le45 rfl) rfl (dat D_X0_readWaves 45 rfl) rfl ?_
          refine AW.iload_n (n := 91) (dat D_X0_readWaves 46 rfl) rfl rfl ?_
          refine AW.aload_n (n := 92) (dat D_X0_readWaves 47 rfl) rfl rfl ?_
          refine AW.getI (n := 95) fX0_4 wF_X0_33 ly_50 (le45 rfl) rfl rfl (dat D_X0_readWaves 48 rfl) rfl ?_
          refine AW.iastH h (n := 96) rfl ly_51 (le45 rfl) (dat D_X0_readWaves 49 rfl) rfl (fun j26 h => ?_)
          refine AW.ltS h (fun σ27 h => ?_)
          refine AW.aload_n (n := 97) (dat D_X0_readWaves 50 rfl) rfl rfl ?_
          refine AW.getR (n := 100) (t := 52) fX0_9 wF_X0_15 ly_50 (le45 rfl) rfl (dat D_X0_readWaves 51 rfl) rfl ?_
          refine AW.iload_n (n := 101) (dat D_X0_readWaves 52 rfl) rfl rfl ?_
          refine AW.iload_n (n := 102) (dat D_X0_readWaves 53 rfl) rfl rfl ?_
          refine AW.iconst (n := 103) (dat D_X0_readWaves 54 rfl) rfl ?_
          refine AW.iadd (n := 104) (dat D_X0_readWaves 55 rfl) rfl ?_
          refine AW.aload_n (n := 105) (dat D_X0_readWaves 56 rfl) rfl rfl ?_
          refine AW.iconst (n := 106) (dat D_X0_readWaves 57 rfl) rfl ?_
          refine AW.aload_n (n := 107) (dat D_X0_readWaves 58 rfl) rfl rfl ?_
          refine AW.getI (n := 110) fX0_2 wF_X0_26 ly_50 (le45 rfl) rfl rfl (dat D_X0_readWaves 59 rfl) rfl ?_
          refine AW.mmax (n := 113) wM_X0_55 (le45 rfl) (le45 rfl) (dat D_X0_readWaves 60 rfl) rfl ?_
          obtain ⟨v29, hc28, h⟩ := ob_some h
          refine AW.cV (n := 116) (as := [vI (mx32 0 (σ27 50 2))]) (st := [vI (v9 + 1), vI z2, vR 52]) (st' := [vI v29, vI (v9 + 1), vI z2, vR 52]) (uc' := 0) (us' := 0) (A_X9_minutesFor hΓ hpa0 hc28) cf_X9_minutesFor (isSw_ly0 hpa0) (by have := isSw_lt hpa0; omega) vc_9 (le45 rfl) wM_X0_118 (le45 rfl) (le45 rfl) (dat D_X0_readWaves 61 rfl) rfl rfl (le45 rfl) (le45 rfl) rfl (fun _ => ?_) nlt0
          refine AW.iadd (n := 117) (dat D_X0_readWaves 62 rfl) rfl ?_
          refine AW.iastH h (n := 118) rfl ly_52 (le45 rfl) (dat D_X0_readWaves 63 rfl) rfl (fun j30 h => ?_)
          refine AW.ltS h (fun σ31 h => ?_)
          cases h
          exact AW.to hJ14 (lle_s rfl (lle_s rfl (lle_s rfl (lle_n (lle_z)))))
      · refine AW.aload_n (n := 80) (dat D_X0_readWaves 39 rfl) rfl rfl ?_
        refine AW.aload_n (n := 81) (dat D_X0_readWaves 40 rfl) rfl rfl ?_
        refine AW.iload_n (n := 82) (dat D_X0_readWaves 41 rfl) rfl rfl ?_
        refine AW.iconst (n := 83) (dat D_X0_readWaves 42 rfl) rfl ?_
        obtain ⟨σ17, hc16, h⟩ := ob_some h
        refine AW.cV (n := 86) (as := [vR a0, vI z2, vI 1]) (st := []) (st' := []) (uc' := 0) (us' := 0) (A_X0_findRide hΓ hpa0 hc16) cf_X0_findRide ly_50 (le45 rfl) vc_0 (le45 rfl) wM_X0_114 (le45 rfl) (le45 rfl) (dat D_X0_readWaves 43 rfl) rfl rfl (le45 rfl) (le45 rfl) rfl (fun _ => ?_) nlt0
        refine AW.aload_n (n := 87) (dat D_X0_readWaves 44 rfl) rfl rfl ?_
        refine AW.getR (n := 90) (t := 51) fX0_8 wF_X0_9 ly_50 (le45 rfl) rfl (dat D_X0_readWaves 45 rfl) rfl ?_
        refine AW.iload_n (n := 91) (dat D_X0_readWaves 46 rfl) rfl rfl ?_
        refine AW.aload_n (n := 92) (dat D_X0_readWaves 47 rfl) rfl rfl ?_
        refine AW.getI (n := 95) fX0_4 wF_X0_33 ly_50 (le45 rfl) rfl rfl (dat D_X0_readWaves 48 rfl) rfl ?_
        refine AW.iastH h (n := 96) rfl ly_51 (le45 rfl) (dat D_X0_readWaves 49 rfl) rfl (fun j18 h => ?_)
        refine AW.ltS h (fun σ19 h => ?_)
        refine AW.aload_n (n := 97) (dat D_X0_readWaves 50 rfl) rfl rfl ?_
        refine AW.getR (n := 100) (t := 52) fX0_9 wF_X0_15 ly_50 (le45 rfl) rfl (dat D_X0_readWaves 51 rfl) rfl ?_
        refine AW.iload_n (n := 101) (dat D_X0_readWaves 52 rfl) rfl rfl ?_
        refine AW.iload_n (n := 102) (dat D_X0_readWaves 53 rfl) rfl rfl ?_
        refine AW.iconst (n := 103) (dat D_X0_readWaves 54 rfl) rfl ?_
        refine AW.iadd (n := 104) (dat D_X0_readWaves 55 rfl) rfl ?_
        refine AW.aload_n (n := 105) (dat D_X0_readWaves 56 rfl) rfl rfl ?_
        refine AW.iconst (n := 106) (dat D_X0_readWaves 57 rfl) rfl ?_
        refine AW.aload_n (n := 107) (dat D_X0_readWaves 58 rfl) rfl rfl ?_
        refine AW.getI (n := 110) fX0_2 wF_X0_26 ly_50 (le45 rfl) rfl rfl (dat D_X0_readWaves 59 rfl) rfl ?_
        refine AW.mmax (n := 113) wM_X0_55 (le45 rfl) (le45 rfl) (dat D_X0_readWaves 60 rfl) rfl ?_
        obtain ⟨v21, hc20, h⟩ := ob_some h
        refine AW.cV (n := 116) (as := [vI (mx32 0 (σ19 50 2))]) (st := [vI (v9 + 1), vI z2, vR 52]) (st' := [vI v21, vI (v9 + 1), vI z2, vR 52]) (uc' := 0) (us' := 0) (A_X9_minutesFor hΓ hpa0 hc20) cf_X9_minutesFor (isSw_ly0 hpa0) (by have := isSw_lt hpa0; omega) vc_9 (le45 rfl) wM_X0_118 (le45 rfl) (le45 rfl) (dat D_X0_readWaves 61 rfl) rfl rfl (le45 rfl) (le45 rfl) rfl (fun _ => ?_) nlt0
        refine AW.iadd (n := 117) (dat D_X0_readWaves 62 rfl) rfl ?_
        refine AW.iastH h (n := 118) rfl ly_52 (le45 rfl) (dat D_X0_readWaves 63 rfl) rfl (fun j22 h => ?_)
        refine AW.ltS h (fun σ23 h => ?_)
        cases h
        exact AW.to hJ14 (lle_s rfl (lle_s rfl (lle_s rfl (lle_n (lle_z)))))
def L_X0_findPlan : List (Nat × Instr × Nat) := [(0, .aload_n 0, 1), (1, .aload_n 1, 1), (2, .invokevirtual 65, 3), (5, .aload_n 0, 1), (6, .aload_n 0, 1), (7, .getfield 22, 3), (10, .aload_n 1, 1), (11, .iconst 0, 1), (12, .iconst 0, 1), (13, .invokevirtual 69, 3), (16, .putfield 74, 3), (19, .aload_n 0, 1), (20, .iconst (-1), 1), (21, .putfield 77, 3), (24, .aload_n 0, 1), (25, .iconst (-1), 1), (26, .putfield 80, 3), (29, .aload_n 0, 1), (30, .getfield 18, 3), (33, .getfield 83, 3), (36, .istore_n 2, 1), (37, .iload_n 2, 1), (38, .aload_n 0, 1), (39, .getfield 18, 3), (42, .getfield 86, 3), (45, .getfield 90, 3), (48, .if_icmp .ge 40, 3), (51, .aload_n 0, 1), (52, .getfield 9, 3), (55, .iload_n 2, 1), (56, .iaload, 1), (57, .iconst (-1), 1), (58, .if_icmp .eq 24, 3), (61, .aload_n 0, 1), (62, .aload_n 0, 1), (63, .getfield 22, 3), (66, .aload_n 1, 1), (67, .aload_n 0, 1), (68, .getfield 9, 3), (71, .iload_n 2, 1), (72, .iaload, 1), (73, .iconst 0, 1), (74, .invokevirtual 69, 3), (77, .iload_n 2, 1), (78, .iconst (-1), 1), (79, .invokevirtual 95, 3), (82, .iinc 2 1, 3), (85, .goto (-48), 3), (88, .aload_n 0, 1), (89, .getfield 18, 3), (92, .getfield 83, 3), (95, .istore_n 2, 1), (96, .iload_n 2, 1), (97, .aload_n 0, 1), (98, .getfield 18, 3), (101, .getfield 86, 3), (104, .getfield 90, 3), (107, .if_icmp .ge 100, 3), (110, .iload_n 2, 1), (111, .iconst 1, 1), (112, .iadd, 1), (113, .istore_n 3, 1), (114, .iload_n 3, 1), (115, .aload_n 0, 1), (116, .getfield 18, 3), (119, .getfield 86, 3), (122, .getfield 90, 3), (125, .if_icmp .ge 76, 3), (128, .aload_n 0, 1), (129, .getfield 9, 3), (132, .iload_n 2, 1), (133, .iaload, 1), (134, .iconst (-1), 1), (135, .if_icmp .eq 60, 3), (138, .aload_n 0, 1), (139, .getfield 9, 3), (142, .iload_n 3, 1), (143, .iaload, 1), (144, .iconst (-1), 1), (145, .if_icmp .eq 50, 3), (148, .aload_n 0, 1), (149, .getfield 18, 3), (152, .getfield 86, 3), (155, .iload_n 3, 1), (156, .iconst 0, 1), (157, .invokevirtual 98, 3), (160, .aload_n 0, 1), (161, .getfield 15, 3), (164, .iload_n 2, 1), (165, .iaload, 1), (166, .if_icmp .lt 29, 3), (169, .aload_n 0, 1), (170, .aload_n 0, 1), (171, .getfield 22, 3), (174, .aload_n 1, 1), (175, .aload_n 0, 1), (176, .getfield 9, 3), (179, .iload_n 2, 1), (180, .iaload, 1), (181, .aload_n 0, 1), (182, .getfield 9, 3), (185, .iload_n 3, 1), (186, .iaload, 1), (187, .invokevirtual 69, 3), (190, .iload_n 2, 1), (191, .iload_n 3, 1), (192, .invokevirtual 95, 3), (195, .iinc 3 1, 3), (198, .goto (-84), 3), (201, .iinc 2 1, 3), (204, .goto (-108), 3), (207, .return_, 1)]
theorem D_X0_findPlan : dOK cX0_findPlan L_X0_findPlan = true := by decide +kernel
theorem cf_X0_findPlan : CFV mX0_findPlan 1 := ⟨wI_X0_findPlan, wS_X0_findPlan, wN_WaveRight_Advice, wC_X0_findPlan, rfl, ⟨by decide +kernel, by decide +kernel, by decide +kernel⟩, le45 rfl⟩
def X0_findPlan_e96 (n : Nat) (σ17 : SG) : Option (SG) :=
  some (σ17)
def X0_findPlan_e114 (n : Nat) (z14 : Int) (σ23 : SG) : Option ((Int × SG) ⊕ (SG)) :=
  lt (z14 + 1) fun x24 =>
  some (.inl (x24, σ23))
def X0_findPlan_j195 (n : Nat) (z20 : Int) (σ27 : SG) : Option ((Int × SG) ⊕ (SG)) :=
  lt (z20 + 1) fun x29 =>
  some (.inl (x29, σ27))
def X0_findPlan_l114 (n : Nat) (z14 : Int) (a0 : Nat) (z20 : Int) (σ21 : SG) : Option ((Int × SG) ⊕ (SG)) :=
  ckR isSea (σ21 19 0) fun k25 =>
  if w32 (σ21 k25 6) ≤ w32 z20 then
    some (.inr σ21)
  else
    rdA 20 z14 fun j26 =>
    ((if w32 (σ21 51 j26) = (-1) then
      some (σ21)
    else
      rdA 20 z20 fun j30 =>
      if w32 (σ21 51 j30) = (-1) then
        some (σ21)
      else
        ckR isSea (σ21 19 0) fun k31 =>
        (X6_factOf n k31 z20 0 σ21).bind fun v33 =>
        rdA 20 z14 fun j34 =>
        if w32 v33 < w32 (σ21 52 j34) then
          some (σ21)
        else
          rdA 20 z14 fun j35 =>
          rdA 20 z20 fun j36 =>
          (X8_totalWith n a0 (σ21 51 j35) (σ21 51 j36) σ21).bind fun v38 =>
          (X0_comparePlan n v38 z14 z20 σ21).bind fun σ40 =>
          some (σ40)) : Option (SG)).bind (fun s => X0_findPlan_j195 n z20 s)
def X0_findPlan_l96 (n : Nat) (a0 : Nat) (z14 : Int) (σ15 : SG) : Option ((Int × SG) ⊕ (SG)) :=
  ckR isSea (σ15 19 0) fun k18 =>
  if w32 (σ15 k18 6) ≤ w32 z14 then
    some (.inr σ15)
  else
    lt (z14 + 1) fun x19 =>
    ((iter n (fun s : Int × SG => X0_findPlan_l114 n z14 a0 s.1 s.2) (x19, σ15)) : Option (SG)).bind (fun s => X0_findPlan_e114 n z14 s)
def X0_findPlan_e37 (n : Nat) (a0 : Nat) (σ12 : SG) : Option (SG) :=
  lt (σ12 19 12) fun x13 =>
  ((iter n (fun s : Int × SG => X0_findPlan_l96 n a0 s.1 s.2) (x13, σ12)) : Option (SG)).bind (fun s => X0_findPlan_e96 n s)
def X0_findPlan_j82 (n : Nat) (z9 : Int) (σ43 : SG) : Option ((Int × SG) ⊕ (SG)) :=
  lt (z9 + 1) fun x45 =>
  some (.inl (x45, σ43))
def X0_findPlan_l37 (n : Nat) (a0 : Nat) (z9 : Int) (σ10 : SG) : Option ((Int × SG) ⊕ (SG)) :=
  ckR isSea (σ10 19 0) fun k41 =>
  if w32 (σ10 k41 6) ≤ w32 z9 then
    some (.inr σ10)
  else
    rdA 20 z9 fun j42 =>
    ((if w32 (σ10 51 j42) = (-1) then
      some (σ10)
    else
      rdA 20 z9 fun j46 =>
      (X8_totalWith n a0 (σ10 51 j46) 0 σ10).bind fun v48 =>
      (X0_comparePlan n v48 z9 (-1) σ10).bind fun σ50 =>
      some (σ50)) : Option (SG)).bind (fun s => X0_findPlan_j82 n z9 s)
def X0_findPlan (n : Nat) (a0 : Nat) (σ : SG) : Option (SG) :=
  (X0_readWaves n a0 σ).bind fun σ2 =>
  (X8_totalWith n a0 0 0 σ2).bind fun v4 =>
  lt (up σ2 50 5 v4) fun σ5 =>
  lt (up σ5 50 6 (-1)) fun σ6 =>
  lt (up σ6 50 7 (-1)) fun σ7 =>
  lt (σ7 19 12) fun x8 =>
  ((iter n (fun s : Int × SG => X0_findPlan_l37 n a0 s.1 s.2) (x8, σ7)) : Option (SG)).bind (fun s => X0_findPlan_e37 n a0 s)
set_option maxHeartbeats 4000000 in
set_option maxRecDepth 100000 in
theorem A_X0_findPlan {Γ : GA} (hΓ : (gl Γ).stackTraces = false) {n : Nat} {a0 : Nat} {σ : SG} {τ : SG} (hpa0 : isSw a0 = true) (h : X0_findPlan n a0 σ = some τ) : AM Γ mX0_findPlan 7 0 0 [vR 50, vR a0] (85, σ) (0, 0) (85, τ) := by
  refine AM.of pl_X0 rfl wC_X0_findPlan (le45 rfl) hΓ ?_
  refine AW.to (ls'' := [some (vR 50), some (vR a0), none, none]) ?_ (lle_s rfl (lle_s rfl (lle_e (lle_e (lle_z)))))
  unfold X0_findPlan at h
  refine AW.aload_n (n := 1) (dat D_X0_findPlan 0 rfl) rfl rfl ?_
  refine AW.aload_n (n := 2) (dat D_X0_findPlan 1 rfl) rfl rfl ?_
  obtain ⟨σ2, hc1, h⟩ := ob_some h
  refine AW.cV (n := 5) (as := [vR a0]) (st := []) (st' := []) (uc' := 0) (us' := 0) (A_X0_readWaves hΓ hpa0 hc1) cf_X0_readWaves ly_50 (le45 rfl) vc_0 (le45 rfl) wM_X0_65 (le45 rfl) (le45 rfl) (dat D_X0_findPlan 2 rfl) rfl rfl (le45 rfl) (le45 rfl) rfl (fun _ => ?_) nlt0
  refine AW.aload_n (n := 6) (dat D_X0_findPlan 3 rfl) rfl rfl ?_
  refine AW.aload_n (n := 7) (dat D_X0_findPlan 4 rfl) rfl rfl ?_
  refine AW.getR (n := 10) (t := 49) fX0_1 wF_X0_22 ly_50 (le45 rfl) rfl (dat D_X0_findPlan 5 rfl) rfl ?_
  refine AW.aload_n (n := 11) (dat D_X0_findPlan 6 rfl) rfl rfl ?_
  refine AW.iconst (n := 12) (dat D_X0_findPlan 7 rfl) rfl ?_
  refine AW.iconst (n := 13) (dat D_X0_findPlan 8 rfl) rfl ?_
  obtain ⟨v4, hc3, h⟩ := ob_some h
  refine AW.cV (n := 16) (as := [vR a0, vI 0, vI 0]) (st := [vR 50]) (st' := [vI v4, vR 50]) (uc' := 0) (us' := 0) (A_X8_totalWith hΓ hpa0 hc3) cf_X8_totalWith ly_49 (le45 rfl) vc_8 (le45 rfl) wM_X0_69 (le45 rfl) (le45 rfl) (dat D_X0_findPlan 9 rfl) rfl rfl (le45 rfl) (le45 rfl) rfl (fun _ => ?_) nlt0
  refine AW.putI (n := 19) fX0_5 wF_X0_74 ly_50 (le45 rfl) rfl rfl rfl (dat D_X0_findPlan 10 rfl) rfl ?_
  refine AW.ltS h (fun σ5 h => ?_)
  refine AW.aload_n (n := 20) (dat D_X0_findPlan 11 rfl) rfl rfl ?_
  refine AW.iconst (n := 21) (dat D_X0_findPlan 12 rfl) rfl ?_
  refine AW.putI (n := 24) fX0_6 wF_X0_77 ly_50 (le45 rfl) rfl rfl rfl (dat D_X0_findPlan 13 rfl) rfl ?_
  refine AW.ltS h (fun σ6 h => ?_)
  refine AW.aload_n (n := 25) (dat D_X0_findPlan 14 rfl) rfl rfl ?_
  refine AW.iconst (n := 26) (dat D_X0_findPlan 15 rfl) rfl ?_
  refine AW.putI (n := 29) fX0_7 wF_X0_80 ly_50 (le45 rfl) rfl rfl rfl (dat D_X0_findPlan 16 rfl) rfl ?_
  refine AW.ltS h (fun σ7 h => ?_)
  refine AW.aload_n (n := 30) (dat D_X0_findPlan 17 rfl) rfl rfl ?_
  refine AW.getR (n := 33) (t := 19) fX0_0 wF_X0_18 ly_50 (le45 rfl) rfl (dat D_X0_findPlan 18 rfl) rfl ?_
  refine AW.getI (n := 36) fX1_12 wF_X0_83 ly_19 (le45 rfl) rfl rfl (dat D_X0_findPlan 19 rfl) rfl ?_
  refine AW.ltI h (fun x8 h => ?_)
  refine AW.istore_n (n := 37) (ls' := [some (vR 50), some (vR a0), some (vI x8), none]) (dat D_X0_findPlan 20 rfl) rfl (le45 rfl) (le45 rfl) rfl rfl ?_
  obtain ⟨b11, hi11, hq11⟩ := ob_some h
  obtain ⟨σ12, e11⟩ : ∃ z, z = b11 := ⟨_, rfl⟩
  subst e11
  have hR11 : AW Γ mX0_findPlan 7 (0, 0) (85, τ) 0 0 88 [some (vR 50), some (vR a0), none, none] [] (85, σ12) := by
    have h : X0_findPlan_e37 n a0 σ12 = some _ := hq11
    unfold X0_findPlan_e37 at h
    refine AW.aload_n (n := 89) (dat D_X0_findPlan 48 rfl) rfl rfl ?_
    refine AW.getR (n := 92) (t := 19) fX0_0 wF_X0_18 ly_50 (le45 rfl) rfl (dat D_X0_findPlan 49 rfl) rfl ?_
    refine AW.getI (n := 95) fX1_12 wF_X0_83 ly_19 (le45 rfl) rfl rfl (dat D_X0_findPlan 50 rfl) rfl ?_
    refine AW.ltI h (fun x13 h => ?_)
    refine AW.istore_n (n := 96) (ls' := [some (vR 50), some (vR a0), some (vI x13), none]) (dat D_X0_findPlan 51 rfl) rfl (le45 rfl) (le45 rfl) rfl rfl ?_
    obtain ⟨b16, hi16, hq16⟩ := ob_some h
    obtain ⟨σ17, e16⟩ : ∃ z, z = b16 := ⟨_, rfl⟩
    subst e16
    have hR16 : AW Γ mX0_findPlan 7 (0, 0) (85, τ) 0 0 207 [none, none, none, none] [] (85, σ17) := by
      have h : X0_findPlan_e96 n σ17 = some _ := hq16
      unfold X0_findPlan_e96 at h
      cases h
      exact AW.vret rfl rfl rfl (dat D_X0_findPlan 111 rfl)
    refine AW.to (ls'' := [some (vR 50), some (vR a0), some (vI x13), none]) ?_ (lle_s rfl (lle_s rfl (lle_s rfl (lle_n (lle_z)))))
    refine aw_iter (fun s : Int × SG => AW Γ mX0_findPlan 7 (0, 0) (85, τ) 0 0 96 [some (vR 50), some (vR a0), some (vI (s.1)), none] [] (85, s.2)) (fun s y h hk16 hb16 => ?_) _ _ hi16
    obtain ⟨z14, σ15⟩ := s
    show AW Γ mX0_findPlan 7 (0, 0) (85, τ) 0 0 96 [some (vR 50), some (vR a0), some (vI z14), none] [] (85, σ15)
    have h : X0_findPlan_l96 n a0 z14 σ15 = some y := h
    unfold X0_findPlan_l96 at h
    refine AW.iload_n (n := 97) (dat D_X0_findPlan 52 rfl) rfl rfl ?_
    refine AW.aload_n (n := 98) (dat D_X0_findPlan 53 rfl) rfl rfl ?_
    refine AW.getR (n := 101) (t := 19) fX0_0 wF_X0_18 ly_50 (le45 rfl) rfl (dat D_X0_findPlan 54 rfl) rfl ?_
    refine AW.getQH h (n := 104) fX1_0 wF_X0_86 ly_19 (le45 rfl) rfl rfl (dat D_X0_findPlan 55 rfl) rfl (fun k18 hpk18 h => ?_)
    refine AW.getI (n := 107) fX6_6 wF_X0_90 (isSea_ly0 hpk18) (by have := isSea_lt hpk18; omega) rfl rfl (dat D_X0_findPlan 56 rfl) rfl ?_
    refine AW.icmp_geH (t := 207) (n := 110) h (dat D_X0_findPlan 57 rfl) rfl rfl rfl rfl (fun h => ?_) (fun h => ?_)
    · cases h
      have hb := hb16 _ rfl
      cases hb
      exact AW.to hR16 (lle_n (lle_n (lle_n (lle_n (lle_z)))))
    · refine AW.iload_n (n := 111) (dat D_X0_findPlan 58 rfl) rfl rfl ?_
      refine AW.iconst (n := 112) (dat D_X0_findPlan 59 rfl) rfl ?_
      refine AW.iadd (n := 113) (dat D_X0_findPlan 60 rfl) rfl ?_
      refine AW.ltI h (fun x19 h => ?_)
      refine AW.istore_n (n := 114) (ls' := [some (vR 50), some (vR a0), some (vI z14), some (vI x19)]) (dat D_X0_findPlan 61 rfl) rfl (le45 rfl) (le45 rfl) rfl rfl ?_
      obtain ⟨b22, hi22, hq22⟩ := ob_some h
      obtain ⟨σ23, e22⟩ : ∃ z, z = b22 := ⟨_, rfl⟩
      subst e22
      have hR22 : AW Γ mX0_findPlan 7 (0, 0) (85, τ) 0 0 201 [some (vR 50), some (vR a0), some (vI z14), none] [] (85, σ23) := by
        have h : X0_findPlan_e114 n z14 σ23 = some _ := hq22
        unfold X0_findPlan_e114 at h
        refine AW.iincH h (n := 204) (dat D_X0_findPlan 109 rfl) rfl rfl (le45 rfl) rfl (fun x24 h => ?_)
        refine AW.lq (ls' := [some (vR 50), some (vR a0), some (vI x24), none]) rfl ?_
        refine AW.goto (t := 96) (dat D_X0_findPlan 110 rfl) rfl ?_
        cases h
        exact AW.to (hk16 _ rfl) (lle_s rfl (lle_s rfl (lle_s rfl (lle_n (lle_z)))))
      refine AW.to (ls'' := [some (vR 50), some (vR a0), some (vI z14), some (vI x19)]) ?_ (lle_s rfl (lle_s rfl (lle_s rfl (lle_s rfl (lle_z)))))
      refine aw_iter (fun s : Int × SG => AW Γ mX0_findPlan 7 (0, 0) (85, τ) 0 0 114 [some (vR 50), some (vR a0), some (vI z14), some (vI (s.1))] [] (85, s.2)) (fun s y h hk22 hb22 => ?_) _ _ hi22
      obtain ⟨z20, σ21⟩ := s
      show AW Γ mX0_findPlan 7 (0, 0) (85, τ) 0 0 114 [some (vR 50), some (vR a0), some (vI z14), some (vI z20)] [] (85, σ21)
      have h : X0_findPlan_l114 n z14 a0 z20 σ21 = some y := h
      unfold X0_findPlan_l114 at h
      refine AW.iload_n (n := 115) (dat D_X0_findPlan 62 rfl) rfl rfl ?_
      refine AW.aload_n (n := 116) (dat D_X0_findPlan 63 rfl) rfl rfl ?_
      refine AW.getR (n := 119) (t := 19) fX0_0 wF_X0_18 ly_50 (le45 rfl) rfl (dat D_X0_findPlan 64 rfl) rfl ?_
      refine AW.getQH h (n := 122) fX1_0 wF_X0_86 ly_19 (le45 rfl) rfl rfl (dat D_X0_findPlan 65 rfl) rfl (fun k25 hpk25 h => ?_)
      refine AW.getI (n := 125) fX6_6 wF_X0_90 (isSea_ly0 hpk25) (by have := isSea_lt hpk25; omega) rfl rfl (dat D_X0_findPlan 66 rfl) rfl ?_
      refine AW.icmp_geH (t := 201) (n := 128) h (dat D_X0_findPlan 67 rfl) rfl rfl rfl rfl (fun h => ?_) (fun h => ?_)
      · cases h
        have hb := hb22 _ rfl
        cases hb
        exact AW.to hR22 (lle_s rfl (lle_s rfl (lle_s rfl (lle_n (lle_z)))))
      · refine AW.aload_n (n := 129) (dat D_X0_findPlan 68 rfl) rfl rfl ?_
        refine AW.getR (n := 132) (t := 51) fX0_8 wF_X0_9 ly_50 (le45 rfl) rfl (dat D_X0_findPlan 69 rfl) rfl ?_
        refine AW.iload_n (n := 133) (dat D_X0_findPlan 70 rfl) rfl rfl ?_
        refine AW.ialdH h (n := 134) rfl ly_51 (le45 rfl) (dat D_X0_findPlan 71 rfl) rfl (fun j26 h => ?_)
        refine AW.iconst (n := 135) (dat D_X0_findPlan 72 rfl) rfl ?_
        obtain ⟨s28, h, hq28⟩ := ob_some h
        obtain ⟨σ27, e28⟩ : ∃ z, z = s28 := ⟨_, rfl⟩
        subst e28
        have hJ28 : AW Γ mX0_findPlan 7 (0, 0) (85, τ) 0 0 195 [some (vR 50), some (vR a0), some (vI z14), some (vI z20)] [] (85, σ27) := by
          have h : X0_findPlan_j195 n z20 σ27 = some _ := hq28
          unfold X0_findPlan_j195 at h
          refine AW.iincH h (n := 198) (dat D_X0_findPlan 107 rfl) rfl rfl (le45 rfl) rfl (fun x29 h => ?_)
          refine AW.lq (ls' := [some (vR 50), some (vR a0), some (vI z14), some (vI x29)]) rfl ?_
          refine AW.goto (t := 114) (dat D_X0_findPlan 108 rfl) rfl ?_
          cases h
          exact AW.to (hk22 _ rfl) (lle_s rfl (lle_s rfl (lle_s rfl (lle_s rfl (lle_z)))))
        refine AW.icmp_eqH (t := 195) (n := 138) h (dat D_X0_findPlan 73 rfl) rfl rfl rfl (by decide) (fun h => ?_) (fun h => ?_)
        · cases h
          exact AW.to hJ28 (lle_s rfl (lle_s rfl (lle_s rfl (lle_s rfl (lle_z)))))
        · refine AW.aload_n (n := 139) (dat D_X0_findPlan 74 rfl) rfl rfl ?_
          refine AW.getR (n := 142) (t := 51) fX0_8 wF_X0_9 ly_50 (le45 rfl) rfl (dat D_X0_findPlan 75 rfl) rfl ?_
          refine AW.iload_n (n := 143) (dat D_X0_findPlan 76 rfl) rfl rfl ?_
          refine AW.ialdH h (n := 144) rfl ly_51 (le45 rfl) (dat D_X0_findPlan 77 rfl) rfl (fun j30 h => ?_)
          refine AW.iconst (n := 145) (dat D_X0_findPlan 78 rfl) rfl ?_
          refine AW.icmp_eqH (t := 195) (n := 148) h (dat D_X0_findPlan 79 rfl) rfl rfl rfl (by decide) (fun h => ?_) (fun h => ?_)
          · cases h
            exact AW.to hJ28 (lle_s rfl (lle_s rfl (lle_s rfl (lle_s rfl (lle_z)))))
          · refine AW.aload_n (n := 149) (dat D_X0_findPlan 80 rfl) rfl rfl ?_
            refine AW.getR (n := 152) (t := 19) fX0_0 wF_X0_18 ly_50 (le45 rfl) rfl (dat D_X0_findPlan 81 rfl) rfl ?_
            refine AW.getQH h (n := 155) fX1_0 wF_X0_86 ly_19 (le45 rfl) rfl rfl (dat D_X0_findPlan 82 rfl) rfl (fun k31 hpk31 h => ?_)
            refine AW.iload_n (n := 156) (dat D_X0_findPlan 83 rfl) rfl rfl ?_
            refine AW.iconst (n := 157) (dat D_X0_findPlan 84 rfl) rfl ?_
            obtain ⟨v33, hc32, h⟩ := ob_some h
            refine AW.cV (n := 160) (as := [vI z20, vI 0]) (st := []) (st' := [vI v33]) (uc' := 0) (us' := 0) (A_X6_factOf hΓ hpk31 hc32) cf_X6_factOf (isSea_ly0 hpk31) (by have := isSea_lt hpk31; omega) vc_6 (le45 rfl) wM_X0_98 (le45 rfl) (le45 rfl) (dat D_X0_findPlan 85 rfl) rfl rfl (le45 rfl) (le45 rfl) rfl (fun _ => ?_) nlt0
            refine AW.aload_n (n := 161) (dat D_X0_findPlan 86 rfl) rfl rfl ?_
            refine AW.getR (n := 164) (t := 52) fX0_9 wF_X0_15 ly_50 (le45 rfl) rfl (dat D_X0_findPlan 87 rfl) rfl ?_
            refine AW.iload_n (n := 165) (dat D_X0_findPlan 88 rfl) rfl rfl ?_
            refine AW.ialdH h (n := 166) rfl ly_52 (le45 rfl) (dat D_X0_findPlan 89 rfl) rfl (fun j34 h => ?_)
            refine AW.icmp_ltH (t := 195) (n := 169) h (dat D_X0_findPlan 90 rfl) rfl rfl rfl rfl (fun h => ?_) (fun h => ?_)
            · cases h
              exact AW.to hJ28 (lle_s rfl (lle_s rfl (lle_s rfl (lle_s rfl (lle_z)))))
            · refine AW.aload_n (n := 170) (dat D_X0_findPlan 91 rfl) rfl rfl ?_
              refine AW.aload_n (n := 171) (dat D_X0_findPlan 92 rfl) rfl rfl ?_
              refine AW.getR (n := 174) (t := 49) fX0_1 wF_X0_22 ly_50 (le45 rfl) rfl (dat D_X0_findPlan 93 rfl) rfl ?_
              refine AW.aload_n (n := 175) (dat D_X0_findPlan 94 rfl) rfl rfl ?_
              refine AW.aload_n (n := 176) (dat D_X0_findPlan 95 rfl) rfl rfl ?_
              refine AW.getR (n := 179) (t := 51) fX0_8 wF_X0_9 ly_50 (le45 rfl) rfl (dat D_X0_findPlan 96 rfl) rfl ?_
              refine AW.iload_n (n := 180) (dat D_X0_findPlan 97 rfl) rfl rfl ?_
              refine AW.ialdH h (n := 181) rfl ly_51 (le45 rfl) (dat D_X0_findPlan 98 rfl) rfl (fun j35 h => ?_)
              refine AW.aload_n (n := 182) (dat D_X0_findPlan 99 rfl) rfl rfl ?_
              refine AW.getR (n := 185) (t := 51) fX0_8 wF_X0_9 ly_50 (le45 rfl) rfl (dat D_X0_findPlan 100 rfl) rfl ?_
              refine AW.iload_n (n := 186) (dat D_X0_findPlan 101 rfl) rfl rfl ?_
              refine AW.ialdH h (n := 187) rfl ly_51 (le45 rfl) (dat D_X0_findPlan 102 rfl) rfl (fun j36 h => ?_)
              obtain ⟨v38, hc37, h⟩ := ob_some h
              refine AW.cV (n := 190) (as := [vR a0, vI (σ21 51 j35), vI (σ21 51 j36)]) (st := [vR 50]) (st' := [vI v38, vR 50]) (uc' := 0) (us' := 0) (A_X8_totalWith hΓ hpa0 hc37) cf_X8_totalWith ly_49 (le45 rfl) vc_8 (le45 rfl) wM_X0_69 (le45 rfl) (le45 rfl) (dat D_X0_findPlan 103 rfl) rfl rfl (le45 rfl) (le45 rfl) rfl (fun _ => ?_) nlt0
              refine AW.iload_n (n := 191) (dat D_X0_findPlan 104 rfl) rfl rfl ?_
              refine AW.iload_n (n := 192) (dat D_X0_findPlan 105 rfl) rfl rfl ?_
              obtain ⟨σ40, hc39, h⟩ := ob_some h
              refine AW.cV (n := 195) (as := [vI v38, vI z14, vI z20]) (st := []) (st' := []) (uc' := 0) (us' := 0) (A_X0_comparePlan hΓ hc39) cf_X0_comparePlan ly_50 (le45 rfl) vc_0 (le45 rfl) wM_X0_95 (le45 rfl) (le45 rfl) (dat D_X0_findPlan 106 rfl) rfl rfl (le45 rfl) (le45 rfl) rfl (fun _ => ?_) nlt0
              cases h
              exact AW.to hJ28 (lle_s rfl (lle_s rfl (lle_s rfl (lle_s rfl (lle_z)))))
  refine AW.to (ls'' := [some (vR 50), some (vR a0), some (vI x8), none]) ?_ (lle_s rfl (lle_s rfl (lle_s rfl (lle_n (lle_z)))))
  refine aw_iter (fun s : Int × SG => AW Γ mX0_findPlan 7 (0, 0) (85, τ) 0 0 37 [some (vR 50), some (vR a0), some (vI (s.1)), none] [] (85, s.2)) (fun s y h hk11 hb11 => ?_) _ _ hi11
  obtain ⟨z9, σ10⟩ := s
  show AW Γ mX0_findPlan 7 (0, 0) (85, τ) 0 0 37 [some (vR 50), some (vR a0), some (vI z9), none] [] (85, σ10)
  have h : X0_findPlan_l37 n a0 z9 σ10 = some y := h
  unfold X0_findPlan_l37 at h
  refine AW.iload_n (n := 38) (dat D_X0_findPlan 21 rfl) rfl rfl ?_
  refine AW.aload_n (n := 39) (dat D_X0_findPlan 22 rfl) rfl rfl ?_
  refine AW.getR (n := 42) (t := 19) fX0_0 wF_X0_18 ly_50 (le45 rfl) rfl (dat D_X0_findPlan 23 rfl) rfl ?_
  refine AW.getQH h (n := 45) fX1_0 wF_X0_86 ly_19 (le45 rfl) rfl rfl (dat D_X0_findPlan 24 rfl) rfl (fun k41 hpk41 h => ?_)
  refine AW.getI (n := 48) fX6_6 wF_X0_90 (isSea_ly0 hpk41) (by have := isSea_lt hpk41; omega) rfl rfl (dat D_X0_findPlan 25 rfl) rfl ?_
  refine AW.icmp_geH (t := 88) (n := 51) h (dat D_X0_findPlan 26 rfl) rfl rfl rfl rfl (fun h => ?_) (fun h => ?_)
  · cases h
    have hb := hb11 _ rfl
    cases hb
    exact AW.to hR11 (lle_s rfl (lle_s rfl (lle_n (lle_n (lle_z)))))
  · refine AW.aload_n (n := 52) (dat D_X0_findPlan 27 rfl) rfl rfl ?_
    refine AW.getR (n := 55) (t := 51) fX0_8 wF_X0_9 ly_50 (le45 rfl) rfl (dat D_X0_findPlan 28 rfl) rfl ?_
    refine AW.iload_n (n := 56) (dat D_X0_findPlan 29 rfl) rfl rfl ?_
    refine AW.ialdH h (n := 57) rfl ly_51 (le45 rfl) (dat D_X0_findPlan 30 rfl) rfl (fun j42 h => ?_)
    refine AW.iconst (n := 58) (dat D_X0_findPlan 31 rfl) rfl ?_
    obtain ⟨s44, h, hq44⟩ := ob_some h
    obtain ⟨σ43, e44⟩ : ∃ z, z = s44 := ⟨_, rfl⟩
    subst e44
    have hJ44 : AW Γ mX0_findPlan 7 (0, 0) (85, τ) 0 0 82 [some (vR 50), some (vR a0), some (vI z9), none] [] (85, σ43) := by
      have h : X0_findPlan_j82 n z9 σ43 = some _ := hq44
      unfold X0_findPlan_j82 at h
      refine AW.iincH h (n := 85) (dat D_X0_findPlan 46 rfl) rfl rfl (le45 rfl) rfl (fun x45 h => ?_)
      refine AW.lq (ls' := [some (vR 50), some (vR a0), some (vI x45), none]) rfl ?_
      refine AW.goto (t := 37) (dat D_X0_findPlan 47 rfl) rfl ?_
      cases h
      exact AW.to (hk11 _ rfl) (lle_s rfl (lle_s rfl (lle_s rfl (lle_n (lle_z)))))
    refine AW.icmp_eqH (t := 82) (n := 61) h (dat D_X0_findPlan 32 rfl) rfl rfl rfl (by decide) (fun h => ?_) (fun h => ?_)
    · cases h
      exact AW.to hJ44 (lle_s rfl (lle_s rfl (lle_s rfl (lle_n (lle_z)))))
    · refine AW.aload_n (n := 62) (dat D_X0_findPlan 33 rfl) rfl rfl ?_
      refine AW.aload_n (n := 63) (dat D_X0_findPlan 34 rfl) rfl rfl ?_
      refine AW.getR (n := 66) (t := 49) fX0_1 wF_X0_22 ly_50 (le45 rfl) rfl (dat D_X0_findPlan 35 rfl) rfl ?_
      refine AW.aload_n (n := 67) (dat D_X0_findPlan 36 rfl) rfl rfl ?_
      refine AW.aload_n (n := 68) (dat D_X0_findPlan 37 rfl) rfl rfl ?_
      refine AW.getR (n := 71) (t := 51) fX0_8 wF_X0_9 ly_50 (le45 rfl) rfl (dat D_X0_findPlan 38 rfl) rfl ?_
      refine AW.iload_n (n := 72) (dat D_X0_findPlan 39 rfl) rfl rfl ?_
      refine AW.ialdH h (n := 73) rfl ly_51 (le45 rfl) (dat D_X0_findPlan 40 rfl) rfl (fun j46 h => ?_)
      refine AW.iconst (n := 74) (dat D_X0_findPlan 41 rfl) rfl ?_
      obtain ⟨v48, hc47, h⟩ := ob_some h
      refine AW.cV (n := 77) (as := [vR a0, vI (σ10 51 j46), vI 0]) (st := [vR 50]) (st' := [vI v48, vR 50]) (uc' := 0) (us' := 0) (A_X8_totalWith hΓ hpa0 hc47) cf_X8_totalWith ly_49 (le45 rfl) vc_8 (le45 rfl) wM_X0_69 (le45 rfl) (le45 rfl) (dat D_X0_findPlan 42 rfl) rfl rfl (le45 rfl) (le45 rfl) rfl (fun _ => ?_) nlt0
      refine AW.iload_n (n := 78) (dat D_X0_findPlan 43 rfl) rfl rfl ?_
      refine AW.iconst (n := 79) (dat D_X0_findPlan 44 rfl) rfl ?_
      obtain ⟨σ50, hc49, h⟩ := ob_some h
      refine AW.cV (n := 82) (as := [vI v48, vI z9, vI (-1)]) (st := []) (st' := []) (uc' := 0) (us' := 0) (A_X0_comparePlan hΓ hc49) cf_X0_comparePlan ly_50 (le45 rfl) vc_0 (le45 rfl) wM_X0_95 (le45 rfl) (le45 rfl) (dat D_X0_findPlan 45 rfl) rfl rfl (le45 rfl) (le45 rfl) rfl (fun _ => ?_) nlt0
      cases h
      exact AW.to hJ44 (lle_s rfl (lle_s rfl (lle_s rfl (lle_n (lle_z)))))
def L_X11_mustHaveTime : List (Nat × Instr × Nat) := [(0, .aload_n 0, 1), (1, .getfield 55, 3), (4, .getfield 148, 3), (7, .iload_n 1, 1), (8, .aaload, 1), (9, .astore_n 2, 1), (10, .aload_n 2, 1), (11, .invokevirtual 372, 3), (14, .ifCond .ne 10, 3), (17, .aload_n 2, 1), (18, .getfield 236, 3), (21, .ifCond .eq 14, 3), (24, .new 125, 3), (27, .dup, 1), (28, .ldc_w 376, 3), (31, .invokespecial 129, 3), (34, .athrow, 1), (35, .return_, 1)]
theorem D_X11_mustHaveTime : dOK cX11_mustHaveTime L_X11_mustHaveTime = true := by decide +kernel
theorem cf_X11_mustHaveTime : CFV mX11_mustHaveTime 1 := ⟨wI_X11_mustHaveTime, wS_X11_mustHaveTime, wN_WaveRight, wC_X11_mustHaveTime, rfl, ⟨by decide +kernel, by decide +kernel, by decide +kernel⟩, le45 rfl⟩
def X11_mustHaveTime (n : Nat) (a0 : Int) (σ : SG) : Option (Nat) :=
  rdA 5 a0 fun j1 => ckR isSw (σ 34 j1) fun k2 =>
  (X9_sentIn n k2 σ).bind fun v4 =>
  if w32 v4 = 0 then
    if w32 (σ k2 7) = 0 then
      some (0)
    else
      some (4)
  else
    some (4)
set_option maxHeartbeats 4000000 in
set_option maxRecDepth 100000 in
theorem A_X11_mustHaveTime {Γ : GA} (hΓ : (gl Γ).stackTraces = false) {n : Nat} {a0 : Int} {σ : SG} {r : Nat}  (h : X11_mustHaveTime n a0 σ = some r) : AM Γ mX11_mustHaveTime 8 1 6 [vR 0, vI a0] (85, σ) (r, 0) (85, σ) := by
  refine AM.of pl_X11 rfl wC_X11_mustHaveTime (le45 rfl) hΓ ?_
  refine AW.to (ls'' := [some (vR 0), some (vI a0), none]) ?_ (lle_s rfl (lle_s rfl (lle_e (lle_z))))
  unfold X11_mustHaveTime at h
  refine AW.aload_n (n := 1) (dat D_X11_mustHaveTime 0 rfl) rfl rfl ?_
  refine AW.getR (n := 4) (t := 19) fX11_6 wF_X11_55 ly_0 (le45 rfl) rfl (dat D_X11_mustHaveTime 1 rfl) rfl ?_
  refine AW.getR (n := 7) (t := 34) fX1_2 wF_X11_148 ly_19 (le45 rfl) rfl (dat D_X11_mustHaveTime 2 rfl) rfl ?_
  refine AW.iload_n (n := 8) (dat D_X11_mustHaveTime 3 rfl) rfl rfl ?_
  refine AW.aaldH h (n := 9) rfl ly_34 (le45 rfl) (dat D_X11_mustHaveTime 4 rfl) rfl (fun j1 k2 hpk2 h => ?_)
  refine AW.astore_n (n := 10) (ls' := [some (vR 0), some (vI a0), some (vR k2)]) (dat D_X11_mustHaveTime 5 rfl) rfl (le45 rfl) (le45 rfl) rfl rfl ?_
  refine AW.aload_n (n := 11) (dat D_X11_mustHaveTime 6 rfl) rfl rfl ?_
  obtain ⟨v4, hc3, h⟩ := ob_some h
  refine AW.cV (n := 14) (as := []) (st := []) (st' := [vI v4]) (uc' := 1) (us' := 6) (A_X9_sentIn hΓ hpk2 hc3) cf_X9_sentIn (isSw_ly0 hpk2) (by have := isSw_lt hpk2; omega) vc_9 (le45 rfl) wM_X11_372 (le45 rfl) (le45 rfl) (dat D_X11_mustHaveTime 7 rfl) rfl rfl (le45 rfl) (le45 rfl) rfl (fun _ => ?_) nlt0
  refine AW.if_neH (t := 24) (n := 17) h (dat D_X11_mustHaveTime 8 rfl) rfl rfl (fun h => ?_) (fun h => ?_)
  · refine AW.aload_n (n := 18) (dat D_X11_mustHaveTime 9 rfl) rfl rfl ?_
    refine AW.getI (n := 21) fX9_7 wF_X11_236 (isSw_ly0 hpk2) (by have := isSw_lt hpk2; omega) rfl rfl (dat D_X11_mustHaveTime 10 rfl) rfl ?_
    refine AW.if_eqH (t := 35) (n := 24) h (dat D_X11_mustHaveTime 11 rfl) rfl rfl (fun h => ?_) (fun h => ?_)
    · cases h
      exact AW.vret rfl rfl rfl (dat D_X11_mustHaveTime 17 rfl)
    · cases h
      exact AW.throwW (k := 4) (j := 41) (by decide) thrW_4 wL_X11_125 wN_java_lang_IllegalStateException rfl wM_X11_129 (dat D_X11_mustHaveTime 12 rfl) (dat D_X11_mustHaveTime 13 rfl) (dat D_X11_mustHaveTime 14 rfl) (dat D_X11_mustHaveTime 15 rfl) (dat D_X11_mustHaveTime 16 rfl) rfl (le45 rfl) (le45 rfl) rfl rfl (le45 rfl) (le45 rfl)
  · cases h
    exact AW.throwW (k := 4) (j := 41) (by decide) thrW_4 wL_X11_125 wN_java_lang_IllegalStateException rfl wM_X11_129 (dat D_X11_mustHaveTime 12 rfl) (dat D_X11_mustHaveTime 13 rfl) (dat D_X11_mustHaveTime 14 rfl) (dat D_X11_mustHaveTime 15 rfl) (dat D_X11_mustHaveTime 16 rfl) rfl (le45 rfl) (le45 rfl) rfl rfl (le45 rfl) (le45 rfl)
def L_X11_plan : List (Nat × Instr × Nat) := [(0, .aload_n 0, 1), (1, .iload_n 1, 1), (2, .invokevirtual 145, 3), (5, .aload_n 0, 1), (6, .iload_n 2, 1), (7, .iconst 3, 1), (8, .invokevirtual 137, 3), (11, .aload_n 0, 1), (12, .iload_n 1, 1), (13, .invokevirtual 275, 3), (16, .aload_n 0, 1), (17, .getfield 55, 3), (20, .getfield 278, 3), (23, .ifCond .eq 14, 3), (26, .new 125, 3), (29, .dup, 1), (30, .ldc_w 281, 3), (33, .invokespecial 129, 3), (36, .athrow, 1), (37, .aload_n 0, 1), (38, .getfield 73, 3), (41, .aload_n 0, 1), (42, .getfield 55, 3), (45, .getfield 148, 3), (48, .iload_n 1, 1), (49, .aaload, 1), (50, .invokevirtual 283, 3), (53, .iload_n 2, 1), (54, .ifCond .ne 13, 3), (57, .aload_n 0, 1), (58, .getfield 73, 3), (61, .getfield 287, 3), (64, .goto 25, 3), (67, .iload_n 2, 1), (68, .iconst 1, 1), (69, .if_icmp .ne 13, 3), (72, .aload_n 0, 1), (73, .getfield 73, 3), (76, .getfield 290, 3), (79, .goto 10, 3), (82, .aload_n 0, 1), (83, .getfield 73, 3), (86, .getfield 293, 3), (89, .ireturn, 1)]
theorem D_X11_plan : dOK cX11_plan L_X11_plan = true := by decide +kernel
theorem cf_X11_plan : CFV mX11_plan 2 := ⟨wI_X11_plan, wS_X11_plan, wN_WaveRight, wC_X11_plan, rfl, ⟨by decide +kernel, by decide +kernel, by decide +kernel⟩, le45 rfl⟩
def X11_plan (n : Nat) (a0 : Int) (a1 : Int) (σ : SG) : Option ((Nat × Int) × SG) :=
  (X11_mustBeSurfer n a0 σ).bind fun t2 => if t2 = 0 then
  (X11_mustBeOneOf n a1 3 σ).bind fun t4 => if t4 = 0 then
  (X11_mustHaveTime n a0 σ).bind fun t6 => if t6 = 0 then
  if w32 (σ 19 14) = 0 then
    rdA 5 a0 fun j7 => ckR isSw (σ 34 j7) fun k8 =>
    (X0_findPlan n k8 σ).bind fun σ10 =>
    if w32 a1 = 0 then
      some (((0, (σ10 50 5)), σ10))
    else
      if w32 a1 = 1 then
        some (((0, (σ10 50 6)), σ10))
      else
        some (((0, (σ10 50 7)), σ10))
  else
    some (((4, 0), σ))
  else some (((t6, 0), σ))
  else some (((t4, 0), σ))
  else some (((t2, 0), σ))
set_option maxHeartbeats 4000000 in
set_option maxRecDepth 100000 in
theorem A_X11_plan {Γ : GA} (hΓ : (gl Γ).stackTraces = false) {n : Nat} {a0 : Int} {a1 : Int} {σ : SG} {o : Nat × Int} {τ : SG}  (h : X11_plan n a0 a1 σ = some (o, τ)) : AM Γ mX11_plan 9 8 48 [vR 0, vI a0, vI a1] (85, σ) o (85, τ) := by
  refine AM.of pl_X11 rfl wC_X11_plan (le45 rfl) hΓ ?_
  refine AW.to (ls'' := [some (vR 0), some (vI a0), some (vI a1)]) ?_ (lle_s rfl (lle_s rfl (lle_s rfl (lle_z))))
  unfold X11_plan at h
  refine AW.aload_n (n := 1) (dat D_X11_plan 0 rfl) rfl rfl ?_
  refine AW.iload_n (n := 2) (dat D_X11_plan 1 rfl) rfl rfl ?_
  obtain ⟨t2, hc1, h⟩ := ob_some h
  refine AW.cV (n := 5) (as := [vI a0]) (st := []) (st' := []) (uc' := 7) (us' := 42) (A_X11_mustBeSurfer hΓ hc1) cf_X11_mustBeSurfer ly_0 (le45 rfl) vc_11 (le45 rfl) wM_X11_145 (le45 rfl) (le45 rfl) (dat D_X11_plan 2 rfl) rfl rfl (le45 rfl) (le45 rfl) rfl (fun q => ?_) (fun q => ?_)
  rotate_left
  · have h := ite_f h (by have q : 0 < t2 := q; omega)
    cases h
    exact AX.out rfl q rfl rfl
  have h := ite_t h q
  refine AW.aload_n (n := 6) (dat D_X11_plan 3 rfl) rfl rfl ?_
  refine AW.iload_n (n := 7) (dat D_X11_plan 4 rfl) rfl rfl ?_
  refine AW.iconst (n := 8) (dat D_X11_plan 5 rfl) rfl ?_
  obtain ⟨t4, hc3, h⟩ := ob_some h
  refine AW.cV (n := 11) (as := [vI a1, vI 3]) (st := []) (st' := []) (uc' := 6) (us' := 36) (A_X11_mustBeOneOf hΓ hc3) cf_X11_mustBeOneOf ly_0 (le45 rfl) vc_11 (le45 rfl) wM_X11_137 (le45 rfl) (le45 rfl) (dat D_X11_plan 6 rfl) rfl rfl (le45 rfl) (le45 rfl) rfl (fun q => ?_) (fun q => ?_)
  rotate_left
  · have h := ite_f h (by have q : 0 < t4 := q; omega)
    cases h
    exact AX.out rfl q rfl rfl
  have h := ite_t h q
  refine AW.aload_n (n := 12) (dat D_X11_plan 7 rfl) rfl rfl ?_
  refine AW.iload_n (n := 13) (dat D_X11_plan 8 rfl) rfl rfl ?_
  obtain ⟨t6, hc5, h⟩ := ob_some h
  refine AW.cV (n := 16) (as := [vI a0]) (st := []) (st' := []) (uc' := 5) (us' := 30) (A_X11_mustHaveTime hΓ hc5) cf_X11_mustHaveTime ly_0 (le45 rfl) vc_11 (le45 rfl) wM_X11_275 (le45 rfl) (le45 rfl) (dat D_X11_plan 9 rfl) rfl rfl (le45 rfl) (le45 rfl) rfl (fun q => ?_) (fun q => ?_)
  rotate_left
  · have h := ite_f h (by have q : 0 < t6 := q; omega)
    cases h
    exact AX.out rfl q rfl rfl
  have h := ite_t h q
  refine AW.aload_n (n := 17) (dat D_X11_plan 10 rfl) rfl rfl ?_
  refine AW.getR (n := 20) (t := 19) fX11_6 wF_X11_55 ly_0 (le45 rfl) rfl (dat D_X11_plan 11 rfl) rfl ?_
  refine AW.getI (n := 23) fX1_14 wF_X11_278 ly_19 (le45 rfl) rfl rfl (dat D_X11_plan 12 rfl) rfl ?_
  refine AW.if_eqH (t := 37) (n := 26) h (dat D_X11_plan 13 rfl) rfl rfl (fun h => ?_) (fun h => ?_)
  · refine AW.aload_n (n := 38) (dat D_X11_plan 19 rfl) rfl rfl ?_
    refine AW.getR (n := 41) (t := 50) fX11_8 wF_X11_73 ly_0 (le45 rfl) rfl (dat D_X11_plan 20 rfl) rfl ?_
    refine AW.aload_n (n := 42) (dat D_X11_plan 21 rfl) rfl rfl ?_
    refine AW.getR (n := 45) (t := 19) fX11_6 wF_X11_55 ly_0 (le45 rfl) rfl (dat D_X11_plan 22 rfl) rfl ?_
    refine AW.getR (n := 48) (t := 34) fX1_2 wF_X11_148 ly_19 (le45 rfl) rfl (dat D_X11_plan 23 rfl) rfl ?_
    refine AW.iload_n (n := 49) (dat D_X11_plan 24 rfl) rfl rfl ?_
    refine AW.aaldH h (n := 50) rfl ly_34 (le45 rfl) (dat D_X11_plan 25 rfl) rfl (fun j7 k8 hpk8 h => ?_)
    obtain ⟨σ10, hc9, h⟩ := ob_some h
    refine AW.cV (n := 53) (as := [vR k8]) (st := []) (st' := []) (uc' := 5) (us' := 30) (A_X0_findPlan hΓ hpk8 hc9) cf_X0_findPlan ly_50 (le45 rfl) vc_0 (le45 rfl) wM_X11_283 (le45 rfl) (le45 rfl) (dat D_X11_plan 26 rfl) rfl rfl (le45 rfl) (le45 rfl) rfl (fun _ => ?_) nlt0
    refine AW.iload_n (n := 54) (dat D_X11_plan 27 rfl) rfl rfl ?_
    refine AW.if_neH (t := 67) (n := 57) h (dat D_X11_plan 28 rfl) rfl rfl (fun h => ?_) (fun h => ?_)
    · refine AW.aload_n (n := 58) (dat D_X11_plan 29 rfl) rfl rfl ?_
      refine AW.getR (n := 61) (t := 50) fX11_8 wF_X11_73 ly_0 (le45 rfl) rfl (dat D_X11_plan 30 rfl) rfl ?_
      refine AW.getI (n := 64) fX0_5 wF_X11_287 ly_50 (le45 rfl) rfl rfl (dat D_X11_plan 31 rfl) rfl ?_
      refine AW.goto (t := 89) (dat D_X11_plan 32 rfl) rfl ?_
      cases h
      exact AW.iret rfl rfl rfl (dat D_X11_plan 43 rfl)
    · refine AW.iload_n (n := 68) (dat D_X11_plan 33 rfl) rfl rfl ?_
      refine AW.iconst (n := 69) (dat D_X11_plan 34 rfl) rfl ?_
      refine AW.icmp_neH (t := 82) (n := 72) h (dat D_X11_plan 35 rfl) rfl rfl rfl (by decide) (fun h => ?_) (fun h => ?_)
      · refine AW.aload_n (n := 73) (dat D_X11_plan 36 rfl) rfl rfl ?_
        refine AW.getR (n := 76) (t := 50) fX11_8 wF_X11_73 ly_0 (le45 rfl) rfl (dat D_X11_plan 37 rfl) rfl ?_
        refine AW.getI (n := 79) fX0_6 wF_X11_290 ly_50 (le45 rfl) rfl rfl (dat D_X11_plan 38 rfl) rfl ?_
        refine AW.goto (t := 89) (dat D_X11_plan 39 rfl) rfl ?_
        cases h
        exact AW.iret rfl rfl rfl (dat D_X11_plan 43 rfl)
      · refine AW.aload_n (n := 83) (dat D_X11_plan 40 rfl) rfl rfl ?_
        refine AW.getR (n := 86) (t := 50) fX11_8 wF_X11_73 ly_0 (le45 rfl) rfl (dat D_X11_plan 41 rfl) rfl ?_
        refine AW.getI (n := 89) fX0_7 wF_X11_293 ly_50 (le45 rfl) rfl rfl (dat D_X11_plan 42 rfl) rfl ?_
        cases h
        exact AW.iret rfl rfl rfl (dat D_X11_plan 43 rfl)
  · cases h
    exact AW.throwW (k := 4) (j := 42) (by decide) thrW_4 wL_X11_125 wN_java_lang_IllegalStateException rfl wM_X11_129 (dat D_X11_plan 14 rfl) (dat D_X11_plan 15 rfl) (dat D_X11_plan 16 rfl) (dat D_X11_plan 17 rfl) (dat D_X11_plan 18 rfl) rfl (le45 rfl) (le45 rfl) rfl rfl (le45 rfl) (le45 rfl)
def L_X11_seen : List (Nat × Instr × Nat) := [(0, .iload_n 1, 1), (1, .ifCond .lt 14, 3), (4, .iload_n 1, 1), (5, .aload_n 0, 1), (6, .getfield 55, 3), (9, .getfield 296, 3), (12, .if_icmp .lt 7, 3), (15, .iconst (-1), 1), (16, .goto 12, 3), (19, .aload_n 0, 1), (20, .getfield 55, 3), (23, .getfield 299, 3), (26, .iload_n 1, 1), (27, .iaload, 1), (28, .ireturn, 1)]
theorem D_X11_seen : dOK cX11_seen L_X11_seen = true := by decide +kernel
theorem cf_X11_seen : CFV mX11_seen 1 := ⟨wI_X11_seen, wS_X11_seen, wN_WaveRight, wC_X11_seen, rfl, ⟨by decide +kernel, by decide +kernel, by decide +kernel⟩, le45 rfl⟩
def X11_seen (n : Nat) (a0 : Int) (σ : SG) : Option (Int) :=
  if w32 a0 < 0 then
    some ((-1))
  else
    if w32 a0 < w32 (σ 19 6) then
      rdA 6 a0 fun j1 =>
      some ((σ 38 j1))
    else
      some ((-1))
set_option maxHeartbeats 4000000 in
set_option maxRecDepth 100000 in
theorem A_X11_seen {Γ : GA} (hΓ : (gl Γ).stackTraces = false) {n : Nat} {a0 : Int} {σ : SG} {r : Int}  (h : X11_seen n a0 σ = some r) : AM Γ mX11_seen 1 0 0 [vR 0, vI a0] (85, σ) (0, r) (85, σ) := by
  refine AM.of pl_X11 rfl wC_X11_seen (le45 rfl) hΓ ?_
  refine AW.to (ls'' := [some (vR 0), some (vI a0)]) ?_ (lle_s rfl (lle_s rfl (lle_z)))
  unfold X11_seen at h
  refine AW.iload_n (n := 1) (dat D_X11_seen 0 rfl) rfl rfl ?_
  refine AW.if_ltH (t := 15) (n := 4) h (dat D_X11_seen 1 rfl) rfl rfl (fun h => ?_) (fun h => ?_)
  · refine AW.iconst (n := 16) (dat D_X11_seen 7 rfl) rfl ?_
    refine AW.goto (t := 28) (dat D_X11_seen 8 rfl) rfl ?_
    cases h
    exact AW.iret rfl rfl rfl (dat D_X11_seen 14 rfl)
  · refine AW.iload_n (n := 5) (dat D_X11_seen 2 rfl) rfl rfl ?_
    refine AW.aload_n (n := 6) (dat D_X11_seen 3 rfl) rfl rfl ?_
    refine AW.getR (n := 9) (t := 19) fX11_6 wF_X11_55 ly_0 (le45 rfl) rfl (dat D_X11_seen 4 rfl) rfl ?_
    refine AW.getI (n := 12) fX1_6 wF_X11_296 ly_19 (le45 rfl) rfl rfl (dat D_X11_seen 5 rfl) rfl ?_
    refine AW.icmp_ltH (t := 19) (n := 15) h (dat D_X11_seen 6 rfl) rfl rfl rfl rfl (fun h => ?_) (fun h => ?_)
    · refine AW.aload_n (n := 20) (dat D_X11_seen 9 rfl) rfl rfl ?_
      refine AW.getR (n := 23) (t := 19) fX11_6 wF_X11_55 ly_0 (le45 rfl) rfl (dat D_X11_seen 10 rfl) rfl ?_
      refine AW.getR (n := 26) (t := 38) fX1_5 wF_X11_299 ly_19 (le45 rfl) rfl (dat D_X11_seen 11 rfl) rfl ?_
      refine AW.iload_n (n := 27) (dat D_X11_seen 12 rfl) rfl rfl ?_
      refine AW.ialdH h (n := 28) rfl ly_38 (le45 rfl) (dat D_X11_seen 13 rfl) rfl (fun j1 h => ?_)
      cases h
      exact AW.iret rfl rfl rfl (dat D_X11_seen 14 rfl)
    · refine AW.iconst (n := 16) (dat D_X11_seen 7 rfl) rfl ?_
      refine AW.goto (t := 28) (dat D_X11_seen 8 rfl) rfl ?_
      cases h
      exact AW.iret rfl rfl rfl (dat D_X11_seen 14 rfl)
def L_X11_mustLookAhead : List (Nat × Instr × Nat) := [(0, .iload_n 1, 1), (1, .ifCond .lt 20, 3), (4, .iload_n 1, 1), (5, .bipush 6, 2), (7, .if_icmp .gt 14, 3), (10, .iload_n 2, 1), (11, .iload_n 3, 1), (12, .if_icmp .lt 9, 3), (15, .iload_n 2, 1), (16, .bipush 6, 2), (18, .if_icmp .le 14, 3), (21, .new 95, 3), (24, .dup, 1), (25, .ldc_w 378, 3), (28, .invokespecial 99, 3), (31, .athrow, 1), (32, .aload_n 0, 1), (33, .getfield 55, 3), (36, .getfield 296, 3), (39, .ifCond .ne 14, 3), (42, .new 125, 3), (45, .dup, 1), (46, .ldc_w 380, 3), (49, .invokespecial 129, 3), (52, .athrow, 1), (53, .return_, 1)]
theorem D_X11_mustLookAhead : dOK cX11_mustLookAhead L_X11_mustLookAhead = true := by decide +kernel
theorem cf_X11_mustLookAhead : CFV mX11_mustLookAhead 3 := ⟨wI_X11_mustLookAhead, wS_X11_mustLookAhead, wN_WaveRight, wC_X11_mustLookAhead, rfl, ⟨by decide +kernel, by decide +kernel, by decide +kernel⟩, le45 rfl⟩
def X11_mustLookAhead (n : Nat) (a0 : Int) (a1 : Int) (a2 : Int) (σ : SG) : Option (Nat) :=
  if w32 a0 < 0 then
    some (2)
  else
    if 6 < w32 a0 then
      some (2)
    else
      if w32 a1 < w32 a2 then
        some (2)
      else
        if w32 a1 ≤ 6 then
          if w32 (σ 19 6) = 0 then
            some (4)
          else
            some (0)
        else
          some (2)
set_option maxHeartbeats 4000000 in
set_option maxRecDepth 100000 in
theorem A_X11_mustLookAhead {Γ : GA} (hΓ : (gl Γ).stackTraces = false) {n : Nat} {a0 : Int} {a1 : Int} {a2 : Int} {σ : SG} {r : Nat}  (h : X11_mustLookAhead n a0 a1 a2 σ = some r) : AM Γ mX11_mustLookAhead 8 1 6 [vR 0, vI a0, vI a1, vI a2] (85, σ) (r, 0) (85, σ) := by
  refine AM.of pl_X11 rfl wC_X11_mustLookAhead (le45 rfl) hΓ ?_
  refine AW.to (ls'' := [some (vR 0), some (vI a0), some (vI a1), some (vI a2)]) ?_ (lle_s rfl (lle_s rfl (lle_s rfl (lle_s rfl (lle_z)))))
  unfold X11_mustLookAhead at h
  refine AW.iload_n (n := 1) (dat D_X11_mustLookAhead 0 rfl) rfl rfl ?_
  refine AW.if_ltH (t := 21) (n := 4) h (dat D_X11_mustLookAhead 1 rfl) rfl rfl (fun h => ?_) (fun h => ?_)
  · cases h
    exact AW.throwW (k := 2) (j := 43) (by decide) thrW_2 wL_X11_95 wN_java_lang_IllegalArgumentException rfl wM_X11_99 (dat D_X11_mustLookAhead 11 rfl) (dat D_X11_mustLookAhead 12 rfl) (dat D_X11_mustLookAhead 13 rfl) (dat D_X11_mustLookAhead 14 rfl) (dat D_X11_mustLookAhead 15 rfl) rfl (le45 rfl) (le45 rfl) rfl rfl (le45 rfl) (le45 rfl)
  · refine AW.iload_n (n := 5) (dat D_X11_mustLookAhead 2 rfl) rfl rfl ?_
    refine AW.bipush (n := 7) (dat D_X11_mustLookAhead 3 rfl) rfl (by decide) ?_
    refine AW.icmp_gtH (t := 21) (n := 10) h (dat D_X11_mustLookAhead 4 rfl) rfl rfl rfl (by decide) (fun h => ?_) (fun h => ?_)
    · cases h
      exact AW.throwW (k := 2) (j := 43) (by decide) thrW_2 wL_X11_95 wN_java_lang_IllegalArgumentException rfl wM_X11_99 (dat D_X11_mustLookAhead 11 rfl) (dat D_X11_mustLookAhead 12 rfl) (dat D_X11_mustLookAhead 13 rfl) (dat D_X11_mustLookAhead 14 rfl) (dat D_X11_mustLookAhead 15 rfl) rfl (le45 rfl) (le45 rfl) rfl rfl (le45 rfl) (le45 rfl)
    · refine AW.iload_n (n := 11) (dat D_X11_mustLookAhead 5 rfl) rfl rfl ?_
      refine AW.iload_n (n := 12) (dat D_X11_mustLookAhead 6 rfl) rfl rfl ?_
      refine AW.icmp_ltH (t := 21) (n := 15) h (dat D_X11_mustLookAhead 7 rfl) rfl rfl rfl rfl (fun h => ?_) (fun h => ?_)
      · cases h
        exact AW.throwW (k := 2) (j := 43) (by decide) thrW_2 wL_X11_95 wN_java_lang_IllegalArgumentException rfl wM_X11_99 (dat D_X11_mustLookAhead 11 rfl) (dat D_X11_mustLookAhead 12 rfl) (dat D_X11_mustLookAhead 13 rfl) (dat D_X11_mustLookAhead 14 rfl) (dat D_X11_mustLookAhead 15 rfl) rfl (le45 rfl) (le45 rfl) rfl rfl (le45 rfl) (le45 rfl)
      · refine AW.iload_n (n := 16) (dat D_X11_mustLookAhead 8 rfl) rfl rfl ?_
        refine AW.bipush (n := 18) (dat D_X11_mustLookAhead 9 rfl) rfl (by decide) ?_
        refine AW.icmp_leH (t := 32) (n := 21) h (dat D_X11_mustLookAhead 10 rfl) rfl rfl rfl (by decide) (fun h => ?_) (fun h => ?_)
        · refine AW.aload_n (n := 33) (dat D_X11_mustLookAhead 16 rfl) rfl rfl ?_
          refine AW.getR (n := 36) (t := 19) fX11_6 wF_X11_55 ly_0 (le45 rfl) rfl (dat D_X11_mustLookAhead 17 rfl) rfl ?_
          refine AW.getI (n := 39) fX1_6 wF_X11_296 ly_19 (le45 rfl) rfl rfl (dat D_X11_mustLookAhead 18 rfl) rfl ?_
          refine AW.if_neH (t := 53) (n := 42) h (dat D_X11_mustLookAhead 19 rfl) rfl rfl (fun h => ?_) (fun h => ?_)
          · cases h
            exact AW.throwW (k := 4) (j := 44) (by decide) thrW_4 wL_X11_125 wN_java_lang_IllegalStateException rfl wM_X11_129 (dat D_X11_mustLookAhead 20 rfl) (dat D_X11_mustLookAhead 21 rfl) (dat D_X11_mustLookAhead 22 rfl) (dat D_X11_mustLookAhead 23 rfl) (dat D_X11_mustLookAhead 24 rfl) rfl (le45 rfl) (le45 rfl) rfl rfl (le45 rfl) (le45 rfl)
          · cases h
            exact AW.vret rfl rfl rfl (dat D_X11_mustLookAhead 25 rfl)
        · cases h
          exact AW.throwW (k := 2) (j := 43) (by decide) thrW_2 wL_X11_95 wN_java_lang_IllegalArgumentException rfl wM_X11_99 (dat D_X11_mustLookAhead 11 rfl) (dat D_X11_mustLookAhead 12 rfl) (dat D_X11_mustLookAhead 13 rfl) (dat D_X11_mustLookAhead 14 rfl) (dat D_X11_mustLookAhead 15 rfl) rfl (le45 rfl) (le45 rfl) rfl rfl (le45 rfl) (le45 rfl)
def L_X4_keep : List (Nat × Instr × Nat) := [(0, .aload_n 0, 1), (1, .getfield 30, 3), (4, .aload_n 0, 1), (5, .getfield 11, 3), (8, .arraylength, 1), (9, .if_icmp .lt 4, 3), (12, .return_, 1), (13, .aload_n 0, 1), (14, .getfield 30, 3), (17, .istore_n 2, 1), (18, .iload_n 2, 1), (19, .ifCond .le 35, 3), (22, .aload_n 0, 1), (23, .getfield 11, 3), (26, .iload_n 2, 1), (27, .iconst 1, 1), (28, .isub, 1), (29, .iaload, 1), (30, .iload_n 1, 1), (31, .if_icmp .ge 23, 3), (34, .aload_n 0, 1), (35, .getfield 11, 3), (38, .iload_n 2, 1), (39, .aload_n 0, 1), (40, .getfield 11, 3), (43, .iload_n 2, 1), (44, .iconst 1, 1), (45, .isub, 1), (46, .iaload, 1), (47, .iastore, 1), (48, .iinc 2 (-1), 3), (51, .goto (-33), 3), (54, .aload_n 0, 1), (55, .getfield 11, 3), (58, .iload_n 2, 1), (59, .iload_n 1, 1), (60, .iastore, 1), (61, .aload_n 0, 1), (62, .dup, 1), (63, .getfield 30, 3), (66, .iconst 1, 1), (67, .iadd, 1), (68, .putfield 30, 3), (71, .return_, 1)]
theorem D_X4_keep : dOK cX4_keep L_X4_keep = true := by decide +kernel
theorem cf_X4_keep : CFV mX4_keep 1 := ⟨wI_X4_keep, wS_X4_keep, wN_WaveRight_Looking, wC_X4_keep, rfl, ⟨by decide +kernel, by decide +kernel, by decide +kernel⟩, le45 rfl⟩
def X4_keep_e18 (n : Nat) (a0 : Int) (e5 : Int) (σ6 : SG) : Option (SG) :=
  rdA 8 e5 fun j7 => lt (up σ6 54 j7 a0) fun σ8 =>
  lt (up σ8 53 2 ((σ8 53 2) + 1)) fun σ9 =>
  some (σ9)
def X4_keep_l18 (n : Nat) (a0 : Int) (z2 : Int) (σ3 : SG) : Option ((Int × SG) ⊕ (Int × SG)) :=
  if w32 z2 ≤ 0 then
    some (.inr (z2, σ3))
  else
    rdA 8 (z2 - 1) fun j10 =>
    if w32 a0 ≤ w32 (σ3 54 j10) then
      some (.inr (z2, σ3))
    else
      rdA 8 (z2 - 1) fun j11 =>
      rdA 8 z2 fun j12 => lt (up σ3 54 j12 (σ3 54 j11)) fun σ13 =>
      lt (z2 + (-1)) fun x14 =>
      some (.inl (x14, σ13))
def X4_keep (n : Nat) (a0 : Int) (σ : SG) : Option (SG) :=
  if w32 (σ 53 2) < 8 then
    lt (σ 53 2) fun x1 =>
    ((iter n (fun s : Int × SG => X4_keep_l18 n a0 s.1 s.2) (x1, σ)) : Option (Int × SG)).bind (fun s => X4_keep_e18 n a0 s.1 s.2)
  else
    some (σ)
set_option maxHeartbeats 4000000 in
set_option maxRecDepth 100000 in
theorem A_X4_keep {Γ : GA} (hΓ : (gl Γ).stackTraces = false) {n : Nat} {a0 : Int} {σ : SG} {τ : SG}  (h : X4_keep n a0 σ = some τ) : AM Γ mX4_keep 1 0 0 [vR 53, vI a0] (85, σ) (0, 0) (85, τ) := by
  refine AM.of pl_X4 rfl wC_X4_keep (le45 rfl) hΓ ?_
  refine AW.to (ls'' := [some (vR 53), some (vI a0), none]) ?_ (lle_s rfl (lle_s rfl (lle_e (lle_z))))
  unfold X4_keep at h
  refine AW.aload_n (n := 1) (dat D_X4_keep 0 rfl) rfl rfl ?_
  refine AW.getI (n := 4) fX4_2 wF_X4_30 ly_53 (le45 rfl) rfl rfl (dat D_X4_keep 1 rfl) rfl ?_
  refine AW.aload_n (n := 5) (dat D_X4_keep 2 rfl) rfl rfl ?_
  refine AW.getR (n := 8) (t := 54) fX4_1 wF_X4_11 ly_53 (le45 rfl) rfl (dat D_X4_keep 3 rfl) rfl ?_
  refine AW.alen20 (n := 9) (x := 8) ly_54 (le45 rfl) rfl (dat D_X4_keep 4 rfl) rfl ?_
  refine AW.icmp_ltH (t := 13) (n := 12) h (dat D_X4_keep 5 rfl) rfl rfl rfl (by decide) (fun h => ?_) (fun h => ?_)
  · refine AW.aload_n (n := 14) (dat D_X4_keep 7 rfl) rfl rfl ?_
    refine AW.getI (n := 17) fX4_2 wF_X4_30 ly_53 (le45 rfl) rfl rfl (dat D_X4_keep 8 rfl) rfl ?_
    refine AW.ltI h (fun x1 h => ?_)
    refine AW.istore_n (n := 18) (ls' := [some (vR 53), some (vI a0), some (vI x1)]) (dat D_X4_keep 9 rfl) rfl (le45 rfl) (le45 rfl) rfl rfl ?_
    obtain ⟨b4, hi4, hq4⟩ := ob_some h
    obtain ⟨e5, σ6⟩ := b4
    have hR4 : AW Γ mX4_keep 1 (0, 0) (85, τ) 0 0 54 [some (vR 53), some (vI a0), some (vI e5)] [] (85, σ6) := by
      have h : X4_keep_e18 n a0 e5 σ6 = some _ := hq4
      unfold X4_keep_e18 at h
      refine AW.aload_n (n := 55) (dat D_X4_keep 32 rfl) rfl rfl ?_
      refine AW.getR (n := 58) (t := 54) fX4_1 wF_X4_11 ly_53 (le45 rfl) rfl (dat D_X4_keep 33 rfl) rfl ?_
      refine AW.iload_n (n := 59) (dat D_X4_keep 34 rfl) rfl rfl ?_
      refine AW.iload_n (n := 60) (dat D_X4_keep 35 rfl) rfl rfl ?_
      refine AW.iastH h (n := 61) rfl ly_54 (le45 rfl) (dat D_X4_keep 36 rfl) rfl (fun j7 h => ?_)
      refine AW.ltS h (fun σ8 h => ?_)
      refine AW.aload_n (n := 62) (dat D_X4_keep 37 rfl) rfl rfl ?_
      refine AW.dup (n := 63) (dat D_X4_keep 38 rfl) rfl (cR _) ?_
      refine AW.getI (n := 66) fX4_2 wF_X4_30 ly_53 (le45 rfl) rfl rfl (dat D_X4_keep 39 rfl) rfl ?_
      refine AW.iconst (n := 67) (dat D_X4_keep 40 rfl) rfl ?_
      refine AW.iadd (n := 68) (dat D_X4_keep 41 rfl) rfl ?_
      refine AW.putI (n := 71) fX4_2 wF_X4_30 ly_53 (le45 rfl) rfl rfl rfl (dat D_X4_keep 42 rfl) rfl ?_
      refine AW.ltS h (fun σ9 h => ?_)
      cases h
      exact AW.vret rfl rfl rfl (dat D_X4_keep 43 rfl)
    refine AW.to (ls'' := [some (vR 53), some (vI a0), some (vI x1)]) ?_ (lle_s rfl (lle_s rfl (lle_s rfl (lle_z))))
    refine aw_iter (fun s : Int × SG => AW Γ mX4_keep 1 (0, 0) (85, τ) 0 0 18 [some (vR 53), some (vI a0), some (vI (s.1))] [] (85, s.2)) (fun s y h hk4 hb4 => ?_) _ _ hi4
    obtain ⟨z2, σ3⟩ := s
    show AW Γ mX4_keep 1 (0, 0) (85, τ) 0 0 18 [some (vR 53), some (vI a0), some (vI z2)] [] (85, σ3)
    have h : X4_keep_l18 n a0 z2 σ3 = some y := h
    unfold X4_keep_l18 at h
    refine AW.iload_n (n := 19) (dat D_X4_keep 10 rfl) rfl rfl ?_
    refine AW.if_leH (t := 54) (n := 22) h (dat D_X4_keep 11 rfl) rfl rfl (fun h => ?_) (fun h => ?_)
    · cases h
      have hb := hb4 _ rfl
      cases hb
      exact AW.to hR4 (lle_s rfl (lle_s rfl (lle_s rfl (lle_z))))
    · refine AW.aload_n (n := 23) (dat D_X4_keep 12 rfl) rfl rfl ?_
      refine AW.getR (n := 26) (t := 54) fX4_1 wF_X4_11 ly_53 (le45 rfl) rfl (dat D_X4_keep 13 rfl) rfl ?_
      refine AW.iload_n (n := 27) (dat D_X4_keep 14 rfl) rfl rfl ?_
      refine AW.iconst (n := 28) (dat D_X4_keep 15 rfl) rfl ?_
      refine AW.isub (n := 29) (dat D_X4_keep 16 rfl) rfl ?_
      refine AW.ialdH h (n := 30) rfl ly_54 (le45 rfl) (dat D_X4_keep 17 rfl) rfl (fun j10 h => ?_)
      refine AW.iload_n (n := 31) (dat D_X4_keep 18 rfl) rfl rfl ?_
      refine AW.icmp_geH (t := 54) (n := 34) h (dat D_X4_keep 19 rfl) rfl rfl rfl rfl (fun h => ?_) (fun h => ?_)
      · cases h
        have hb := hb4 _ rfl
        cases hb
        exact AW.to hR4 (lle_s rfl (lle_s rfl (lle_s rfl (lle_z))))
      · refine AW.aload_n (n := 35) (dat D_X4_keep 20 rfl) rfl rfl ?_
        refine AW.getR (n := 38) (t := 54) fX4_1 wF_X4_11 ly_53 (le45 rfl) rfl (dat D_X4_keep 21 rfl) rfl ?_
        refine AW.iload_n (n := 39) (dat D_X4_keep 22 rfl) rfl rfl ?_
        refine AW.aload_n (n := 40) (dat D_X4_keep 23 rfl) rfl rfl ?_
        refine AW.getR (n := 43) (t := 54) fX4_1 wF_X4_11 ly_53 (le45 rfl) rfl (dat D_X4_keep 24 rfl) rfl ?_
        refine AW.iload_n (n := 44) (dat D_X4_keep 25 rfl) rfl rfl ?_
        refine AW.iconst (n := 45) (dat D_X4_keep 26 rfl) rfl ?_
        refine AW.isub (n := 46) (dat D_X4_keep 27 rfl) rfl ?_
        refine AW.ialdH h (n := 47) rfl ly_54 (le45 rfl) (dat D_X4_keep 28 rfl) rfl (fun j11 h => ?_)
        refine AW.iastH h (n := 48) rfl ly_54 (le45 rfl) (dat D_X4_keep 29 rfl) rfl (fun j12 h => ?_)
        refine AW.ltS h (fun σ13 h => ?_)
        refine AW.iincH h (n := 51) (dat D_X4_keep 30 rfl) rfl rfl (le45 rfl) rfl (fun x14 h => ?_)
        refine AW.lq (ls' := [some (vR 53), some (vI a0), some (vI x14)]) rfl ?_
        refine AW.goto (t := 18) (dat D_X4_keep 31 rfl) rfl ?_
        cases h
        exact AW.to (hk4 _ rfl) (lle_s rfl (lle_s rfl (lle_s rfl (lle_z))))
  · cases h
    exact AW.vret rfl rfl rfl (dat D_X4_keep 6 rfl)
def L_X4_placeOf : List (Nat × Instr × Nat) := [(0, .iconst 0, 1), (1, .istore_n 2, 1), (2, .iload_n 2, 1), (3, .aload_n 0, 1), (4, .getfield 30, 3), (7, .if_icmp .ge 21, 3), (10, .aload_n 0, 1), (11, .getfield 11, 3), (14, .iload_n 2, 1), (15, .iaload, 1), (16, .iload_n 1, 1), (17, .if_icmp .ne 5, 3), (20, .iload_n 2, 1), (21, .ireturn, 1), (22, .iinc 2 1, 3), (25, .goto (-23), 3), (28, .iconst 0, 1), (29, .ireturn, 1)]
theorem D_X4_placeOf : dOK cX4_placeOf L_X4_placeOf = true := by decide +kernel
theorem cf_X4_placeOf : CFV mX4_placeOf 1 := ⟨wI_X4_placeOf, wS_X4_placeOf, wN_WaveRight_Looking, wC_X4_placeOf, rfl, ⟨by decide +kernel, by decide +kernel, by decide +kernel⟩, le45 rfl⟩
def X4_placeOf_e2 (n : Nat) : Option (Int) :=
  some (0)
def X4_placeOf_l2 (n : Nat) (σ : SG) (a0 : Int) (z1 : Int) : Option ((Int) ⊕ ((Unit) ⊕ (Int))) :=
  if w32 (σ 53 2) ≤ w32 z1 then
    some (.inr (.inl ()))
  else
    rdA 8 z1 fun j3 =>
    if w32 (σ 54 j3) = w32 a0 then
      some (.inr (.inr z1))
    else
      lt (z1 + 1) fun x4 =>
      some (.inl x4)
def X4_placeOf (n : Nat) (a0 : Int) (σ : SG) : Option (Int) :=
  ((iter n (fun s : Int => X4_placeOf_l2 n σ a0 s) 0) : Option ((Unit) ⊕ (Int))).bind (orr (fun s => X4_placeOf_e2 n))
set_option maxHeartbeats 4000000 in
set_option maxRecDepth 100000 in
theorem A_X4_placeOf {Γ : GA} (hΓ : (gl Γ).stackTraces = false) {n : Nat} {a0 : Int} {σ : SG} {r : Int}  (h : X4_placeOf n a0 σ = some r) : AM Γ mX4_placeOf 1 0 0 [vR 53, vI a0] (85, σ) (0, r) (85, σ) := by
  refine AM.of pl_X4 rfl wC_X4_placeOf (le45 rfl) hΓ ?_
  refine AW.to (ls'' := [some (vR 53), some (vI a0), none]) ?_ (lle_s rfl (lle_s rfl (lle_e (lle_z))))
  unfold X4_placeOf at h
  refine AW.iconst (n := 1) (dat D_X4_placeOf 0 rfl) rfl ?_
  refine AW.istore_n (n := 2) (ls' := [some (vR 53), some (vI a0), some (vI 0)]) (dat D_X4_placeOf 1 rfl) rfl (le45 rfl) (le45 rfl) rfl rfl ?_
  obtain ⟨b2, hi2, hq2⟩ := ob_some h
  have hR2 : ∀ (_ : Unit), b2 = .inl () → AW Γ mX4_placeOf 1 (0, r) (85, σ) 0 0 28 [none, none, none] [] (85, σ) := by
    intro _ e
    subst e
    have h : X4_placeOf_e2 n = some _ := hq2
    unfold X4_placeOf_e2 at h
    refine AW.iconst (n := 29) (dat D_X4_placeOf 16 rfl) rfl ?_
    cases h
    exact AW.iret rfl rfl rfl (dat D_X4_placeOf 17 rfl)
  refine AW.to (ls'' := [some (vR 53), some (vI a0), some (vI 0)]) ?_ (lle_s rfl (lle_s rfl (lle_s rfl (lle_z))))
  refine aw_iter (fun s : Int => AW Γ mX4_placeOf 1 (0, r) (85, σ) 0 0 2 [some (vR 53), some (vI a0), some (vI s)] [] (85, σ)) (fun s y h hk2 hb2 => ?_) _ _ hi2
  obtain ⟨z1, e2⟩ : ∃ z, z = s := ⟨_, rfl⟩
  subst e2
  show AW Γ mX4_placeOf 1 (0, r) (85, σ) 0 0 2 [some (vR 53), some (vI a0), some (vI z1)] [] (85, σ)
  have h : X4_placeOf_l2 n σ a0 z1 = some y := h
  unfold X4_placeOf_l2 at h
  refine AW.iload_n (n := 3) (dat D_X4_placeOf 2 rfl) rfl rfl ?_
  refine AW.aload_n (n := 4) (dat D_X4_placeOf 3 rfl) rfl rfl ?_
  refine AW.getI (n := 7) fX4_2 wF_X4_30 ly_53 (le45 rfl) rfl rfl (dat D_X4_placeOf 4 rfl) rfl ?_
  refine AW.icmp_geH (t := 28) (n := 10) h (dat D_X4_placeOf 5 rfl) rfl rfl rfl rfl (fun h => ?_) (fun h => ?_)
  · cases h
    have hb := hb2 _ rfl
    exact AW.to (hR2 () hb.symm) (lle_n (lle_n (lle_n (lle_z))))
  · refine AW.aload_n (n := 11) (dat D_X4_placeOf 6 rfl) rfl rfl ?_
    refine AW.getR (n := 14) (t := 54) fX4_1 wF_X4_11 ly_53 (le45 rfl) rfl (dat D_X4_placeOf 7 rfl) rfl ?_
    refine AW.iload_n (n := 15) (dat D_X4_placeOf 8 rfl) rfl rfl ?_
    refine AW.ialdH h (n := 16) rfl ly_54 (le45 rfl) (dat D_X4_placeOf 9 rfl) rfl (fun j3 h => ?_)
    refine AW.iload_n (n := 17) (dat D_X4_placeOf 10 rfl) rfl rfl ?_
    refine AW.icmp_neH (t := 22) (n := 20) h (dat D_X4_placeOf 11 rfl) rfl rfl rfl rfl (fun h => ?_) (fun h => ?_)
    · refine AW.iload_n (n := 21) (dat D_X4_placeOf 12 rfl) rfl rfl ?_
      cases h
      have hb := hb2 _ rfl
      subst hb
      have h := hq2
      have h : some _ = some _ := h
      cases h
      exact AW.iret rfl rfl rfl (dat D_X4_placeOf 13 rfl)
    · refine AW.iincH h (n := 25) (dat D_X4_placeOf 14 rfl) rfl rfl (le45 rfl) rfl (fun x4 h => ?_)
      refine AW.lq (ls' := [some (vR 53), some (vI a0), some (vI x4)]) rfl ?_
      refine AW.goto (t := 2) (dat D_X4_placeOf 15 rfl) rfl ?_
      cases h
      exact AW.to (hk2 _ rfl) (lle_s rfl (lle_s rfl (lle_s rfl (lle_z))))
def L_X4_fillPool : List (Nat × Instr × Nat) := [(0, .aload_n 0, 1), (1, .iconst 0, 1), (2, .putfield 30, 3), (5, .aload_n 0, 1), (6, .iload_n 1, 1), (7, .invokevirtual 63, 3), (10, .aload_n 0, 1), (11, .iload_n 2, 1), (12, .invokevirtual 63, 3), (15, .iconst 0, 1), (16, .istore_n 3, 1), (17, .iload_n 3, 1), (18, .aload_n 0, 1), (19, .getfield 22, 3), (22, .getfield 66, 3), (25, .if_icmp .ge 22, 3), (28, .aload_n 0, 1), (29, .aload_n 0, 1), (30, .getfield 22, 3), (33, .getfield 71, 3), (36, .iload_n 3, 1), (37, .iaload, 1), (38, .invokevirtual 63, 3), (41, .iinc 3 1, 3), (44, .goto (-27), 3), (47, .iconst 0, 1), (48, .istore_n 3, 1), (49, .iload_n 3, 1), (50, .aload_n 0, 1), (51, .getfield 22, 3), (54, .getfield 66, 3), (57, .if_icmp .ge 28, 3), (60, .aload_n 0, 1), (61, .getfield 15, 3), (64, .iload_n 3, 1), (65, .aload_n 0, 1), (66, .aload_n 0, 1), (67, .getfield 22, 3), (70, .getfield 71, 3), (73, .iload_n 3, 1), (74, .iaload, 1), (75, .invokevirtual 42, 3), (78, .iastore, 1), (79, .iinc 3 1, 3), (82, .goto (-33), 3), (85, .return_, 1)]
theorem D_X4_fillPool : dOK cX4_fillPool L_X4_fillPool = true := by decide +kernel
theorem cf_X4_fillPool : CFV mX4_fillPool 2 := ⟨wI_X4_fillPool, wS_X4_fillPool, wN_WaveRight_Looking, wC_X4_fillPool, rfl, ⟨by decide +kernel, by decide +kernel, by decide +kernel⟩, le45 rfl⟩
def X4_fillPool_e49 (n : Nat) (σ13 : SG) : Option (SG) :=
  some (σ13)
def X4_fillPool_l49 (n : Nat) (z10 : Int) (σ11 : SG) : Option ((Int × SG) ⊕ (SG)) :=
  if w32 (σ11 19 6) ≤ w32 z10 then
    some (.inr σ11)
  else
    rdA 6 z10 fun j14 =>
    (X4_placeOf n (σ11 38 j14) σ11).bind fun v16 =>
    rdA 6 z10 fun j17 => lt (up σ11 55 j17 v16) fun σ18 =>
    lt (z10 + 1) fun x19 =>
    some (.inl (x19, σ18))
def X4_fillPool_e17 (n : Nat) (σ9 : SG) : Option (SG) :=
  ((iter n (fun s : Int × SG => X4_fillPool_l49 n s.1 s.2) (0, σ9)) : Option (SG)).bind (fun s => X4_fillPool_e49 n s)
def X4_fillPool_l17 (n : Nat) (z6 : Int) (σ7 : SG) : Option ((Int × SG) ⊕ (SG)) :=
  if w32 (σ7 19 6) ≤ w32 z6 then
    some (.inr σ7)
  else
    rdA 6 z6 fun j20 =>
    (X4_keep n (σ7 38 j20) σ7).bind fun σ22 =>
    lt (z6 + 1) fun x23 =>
    some (.inl (x23, σ22))
def X4_fillPool (n : Nat) (a0 : Int) (a1 : Int) (σ : SG) : Option (SG) :=
  lt (up σ 53 2 0) fun σ1 =>
  (X4_keep n a0 σ1).bind fun σ3 =>
  (X4_keep n a1 σ3).bind fun σ5 =>
  ((iter n (fun s : Int × SG => X4_fillPool_l17 n s.1 s.2) (0, σ5)) : Option (SG)).bind (fun s => X4_fillPool_e17 n s)
set_option maxHeartbeats 4000000 in
set_option maxRecDepth 100000 in
theorem A_X4_fillPool {Γ : GA} (hΓ : (gl Γ).stackTraces = false) {n : Nat} {a0 : Int} {a1 : Int} {σ : SG} {τ : SG}  (h : X4_fillPool n a0 a1 σ = some τ) : AM Γ mX4_fillPool 2 0 0 [vR 53, vI a0, vI a1] (85, σ) (0, 0) (85, τ) := by
  refine AM.of pl_X4 rfl wC_X4_fillPool (le45 rfl) hΓ ?_
  refine AW.to (ls'' := [some (vR 53), some (vI a0), some (vI a1), none]) ?_ (lle_s rfl (lle_s rfl (lle_s rfl (lle_e (lle_z)))))
  unfold X4_fillPool at h
  refine AW.aload_n (n := 1) (dat D_X4_fillPool 0 rfl) rfl rfl ?_
  refine AW.iconst (n := 2) (dat D_X4_fillPool 1 rfl) rfl ?_
  refine AW.putI (n := 5) fX4_2 wF_X4_30 ly_53 (le45 rfl) rfl rfl rfl (dat D_X4_fillPool 2 rfl) rfl ?_
  refine AW.ltS h (fun σ1 h => ?_)
  refine AW.aload_n (n := 6) (dat D_X4_fillPool 3 rfl) rfl rfl ?_
  refine AW.iload_n (n := 7) (dat D_X4_fillPool 4 rfl) rfl rfl ?_
  obtain ⟨σ3, hc2, h⟩ := ob_some h
  refine AW.cV (n := 10) (as := [vI a0]) (st := []) (st' := []) (uc' := 0) (us' := 0) (A_X4_keep hΓ hc2) cf_X4_keep ly_53 (le45 rfl) vc_4 (le45 rfl) wM_X4_63 (le45 rfl) (le45 rfl) (dat D_X4_fillPool 5 rfl) rfl rfl (le45 rfl) (le45 rfl) rfl (fun _ => ?_) nlt0
  refine AW.aload_n (n := 11) (dat D_X4_fillPool 6 rfl) rfl rfl ?_
  refine AW.iload_n (n := 12) (dat D_X4_fillPool 7 rfl) rfl rfl ?_
  obtain ⟨σ5, hc4, h⟩ := ob_some h
  refine AW.cV (n := 15) (as := [vI a1]) (st := []) (st' := []) (uc' := 0) (us' := 0) (A_X4_keep hΓ hc4) cf_X4_keep ly_53 (le45 rfl) vc_4 (le45 rfl) wM_X4_63 (le45 rfl) (le45 rfl) (dat D_X4_fillPool 8 rfl) rfl rfl (le45 rfl) (le45 rfl) rfl (fun _ => ?_) nlt0
  refine AW.iconst (n := 16) (dat D_X4_fillPool 9 rfl) rfl ?_
  refine AW.istore_n (n := 17) (ls' := [some (vR 53), some (vI a0), some (vI a1), some (vI 0)]) (dat D_X4_fillPool 10 rfl) rfl (le45 rfl) (le45 rfl) rfl rfl ?_
  obtain ⟨b8, hi8, hq8⟩ := ob_some h
  obtain ⟨σ9, e8⟩ : ∃ z, z = b8 := ⟨_, rfl⟩
  subst e8
  have hR8 : AW Γ mX4_fillPool 2 (0, 0) (85, τ) 0 0 47 [some (vR 53), none, none, none] [] (85, σ9) := by
    have h : X4_fillPool_e17 n σ9 = some _ := hq8
    unfold X4_fillPool_e17 at h
    refine AW.iconst (n := 48) (dat D_X4_fillPool 25 rfl) rfl ?_
    refine AW.istore_n (n := 49) (ls' := [some (vR 53), none, none, some (vI 0)]) (dat D_X4_fillPool 26 rfl) rfl (le45 rfl) (le45 rfl) rfl rfl ?_
    obtain ⟨b12, hi12, hq12⟩ := ob_some h
    obtain ⟨σ13, e12⟩ : ∃ z, z = b12 := ⟨_, rfl⟩
    subst e12
    have hR12 : AW Γ mX4_fillPool 2 (0, 0) (85, τ) 0 0 85 [none, none, none, none] [] (85, σ13) := by
      have h : X4_fillPool_e49 n σ13 = some _ := hq12
      unfold X4_fillPool_e49 at h
      cases h
      exact AW.vret rfl rfl rfl (dat D_X4_fillPool 45 rfl)
    refine AW.to (ls'' := [some (vR 53), none, none, some (vI 0)]) ?_ (lle_s rfl (lle_n (lle_n (lle_s rfl (lle_z)))))
    refine aw_iter (fun s : Int × SG => AW Γ mX4_fillPool 2 (0, 0) (85, τ) 0 0 49 [some (vR 53), none, none, some (vI (s.1))] [] (85, s.2)) (fun s y h hk12 hb12 => ?_) _ _ hi12
    obtain ⟨z10, σ11⟩ := s
    show AW Γ mX4_fillPool 2 (0, 0) (85, τ) 0 0 49 [some (vR 53), none, none, some (vI z10)] [] (85, σ11)
    have h : X4_fillPool_l49 n z10 σ11 = some y := h
    unfold X4_fillPool_l49 at h
    refine AW.iload_n (n := 50) (dat D_X4_fillPool 27 rfl) rfl rfl ?_
    refine AW.aload_n (n := 51) (dat D_X4_fillPool 28 rfl) rfl rfl ?_
    refine AW.getR (n := 54) (t := 19) fX4_0 wF_X4_22 ly_53 (le45 rfl) rfl (dat D_X4_fillPool 29 rfl) rfl ?_
    refine AW.getI (n := 57) fX1_6 wF_X4_66 ly_19 (le45 rfl) rfl rfl (dat D_X4_fillPool 30 rfl) rfl ?_
    refine AW.icmp_geH (t := 85) (n := 60) h (dat D_X4_fillPool 31 rfl) rfl rfl rfl rfl (fun h => ?_) (fun h => ?_)
    · cases h
      have hb := hb12 _ rfl
      cases hb
      exact AW.to hR12 (lle_n (lle_n (lle_n (lle_n (lle_z)))))
    · refine AW.aload_n (n := 61) (dat D_X4_fillPool 32 rfl) rfl rfl ?_
      refine AW.getR (n := 64) (t := 55) fX4_3 wF_X4_15 ly_53 (le45 rfl) rfl (dat D_X4_fillPool 33 rfl) rfl ?_
      refine AW.iload_n (n := 65) (dat D_X4_fillPool 34 rfl) rfl rfl ?_
      refine AW.aload_n (n := 66) (dat D_X4_fillPool 35 rfl) rfl rfl ?_
      refine AW.aload_n (n := 67) (dat D_X4_fillPool 36 rfl) rfl rfl ?_
      refine AW.getR (n := 70) (t := 19) fX4_0 wF_X4_22 ly_53 (le45 rfl) rfl (dat D_X4_fillPool 37 rfl) rfl ?_
      refine AW.getR (n := 73) (t := 38) fX1_5 wF_X4_71 ly_19 (le45 rfl) rfl (dat D_X4_fillPool 38 rfl) rfl ?_
      refine AW.iload_n (n := 74) (dat D_X4_fillPool 39 rfl) rfl rfl ?_
      refine AW.ialdH h (n := 75) rfl ly_38 (le45 rfl) (dat D_X4_fillPool 40 rfl) rfl (fun j14 h => ?_)
      obtain ⟨v16, hc15, h⟩ := ob_some h
      refine AW.cV (n := 78) (as := [vI (σ11 38 j14)]) (st := [vI z10, vR 55]) (st' := [vI v16, vI z10, vR 55]) (uc' := 0) (us' := 0) (A_X4_placeOf hΓ hc15) cf_X4_placeOf ly_53 (le45 rfl) vc_4 (le45 rfl) wM_X4_42 (le45 rfl) (le45 rfl) (dat D_X4_fillPool 41 rfl) rfl rfl (le45 rfl) (le45 rfl) rfl (fun _ => ?_) nlt0
      refine AW.iastH h (n := 79) rfl ly_55 (le45 rfl) (dat D_X4_fillPool 42 rfl) rfl (fun j17 h => ?_)
      refine AW.ltS h (fun σ18 h => ?_)
      refine AW.iincH h (n := 82) (dat D_X4_fillPool 43 rfl) rfl rfl (le45 rfl) rfl (fun x19 h => ?_)
      refine AW.lq (ls' := [some (vR 53), none, none, some (vI x19)]) rfl ?_
      refine AW.goto (t := 49) (dat D_X4_fillPool 44 rfl) rfl ?_
      cases h
      exact AW.to (hk12 _ rfl) (lle_s rfl (lle_n (lle_n (lle_s rfl (lle_z)))))
  refine AW.to (ls'' := [some (vR 53), none, none, some (vI 0)]) ?_ (lle_s rfl (lle_n (lle_n (lle_s rfl (lle_z)))))
  refine aw_iter (fun s : Int × SG => AW Γ mX4_fillPool 2 (0, 0) (85, τ) 0 0 17 [some (vR 53), none, none, some (vI (s.1))] [] (85, s.2)) (fun s y h hk8 hb8 => ?_) _ _ hi8
  obtain ⟨z6, σ7⟩ := s
  show AW Γ mX4_fillPool 2 (0, 0) (85, τ) 0 0 17 [some (vR 53), none, none, some (vI z6)] [] (85, σ7)
  have h : X4_fillPool_l17 n z6 σ7 = some y := h
  unfold X4_fillPool_l17 at h
  refine AW.iload_n (n := 18) (dat D_X4_fillPool 11 rfl) rfl rfl ?_
  refine AW.aload_n (n := 19) (dat D_X4_fillPool 12 rfl) rfl rfl ?_
  refine AW.getR (n := 22) (t := 19) fX4_0 wF_X4_22 ly_53 (le45 rfl) rfl (dat D_X4_fillPool 13 rfl) rfl ?_
  refine AW.getI (n := 25) fX1_6 wF_X4_66 ly_19 (le45 rfl) rfl rfl (dat D_X4_fillPool 14 rfl) rfl ?_
  refine AW.icmp_geH (t := 47) (n := 28) h (dat D_X4_fillPool 15 rfl) rfl rfl rfl rfl (fun h => ?_) (fun h => ?_)
  · cases h
    have hb := hb8 _ rfl
    cases hb
    exact AW.to hR8 (lle_s rfl (lle_n (lle_n (lle_n (lle_z)))))
  · refine AW.aload_n (n := 29) (dat D_X4_fillPool 16 rfl) rfl rfl ?_
    refine AW.aload_n (n := 30) (dat D_X4_fillPool 17 rfl) rfl rfl ?_
    refine AW.getR (n := 33) (t := 19) fX4_0 wF_X4_22 ly_53 (le45 rfl) rfl (dat D_X4_fillPool 18 rfl) rfl ?_
    refine AW.getR (n := 36) (t := 38) fX1_5 wF_X4_71 ly_19 (le45 rfl) rfl (dat D_X4_fillPool 19 rfl) rfl ?_
    refine AW.iload_n (n := 37) (dat D_X4_fillPool 20 rfl) rfl rfl ?_
    refine AW.ialdH h (n := 38) rfl ly_38 (le45 rfl) (dat D_X4_fillPool 21 rfl) rfl (fun j20 h => ?_)
    obtain ⟨σ22, hc21, h⟩ := ob_some h
    refine AW.cV (n := 41) (as := [vI (σ7 38 j20)]) (st := []) (st' := []) (uc' := 0) (us' := 0) (A_X4_keep hΓ hc21) cf_X4_keep ly_53 (le45 rfl) vc_4 (le45 rfl) wM_X4_63 (le45 rfl) (le45 rfl) (dat D_X4_fillPool 22 rfl) rfl rfl (le45 rfl) (le45 rfl) rfl (fun _ => ?_) nlt0
    refine AW.iincH h (n := 44) (dat D_X4_fillPool 23 rfl) rfl rfl (le45 rfl) rfl (fun x23 h => ?_)
    refine AW.lq (ls' := [some (vR 53), none, none, some (vI x23)]) rfl ?_
    refine AW.goto (t := 17) (dat D_X4_fillPool 24 rfl) rfl ?_
    cases h
    exact AW.to (hk8 _ rfl) (lle_s rfl (lle_n (lle_n (lle_s rfl (lle_z)))))
def L_X4_read : List (Nat × Instr × Nat) := [(0, .iload_n 1, 1), (1, .bipush 8, 2), (3, .imul, 1), (4, .iload_n 2, 1), (5, .iadd, 1), (6, .bipush 8, 2), (8, .imul, 1), (9, .iload_n 3, 1), (10, .iadd, 1), (11, .istore 4, 2), (13, .iload 4, 2), (15, .ifCond .lt 13, 3), (18, .iload 4, 2), (20, .aload_n 0, 1), (21, .getfield 18, 3), (24, .arraylength, 1), (25, .if_icmp .lt 7, 3), (28, .lconst 0, 1), (29, .goto 10, 3), (32, .aload_n 0, 1), (33, .getfield 18, 3), (36, .iload 4, 2), (38, .laload, 1), (39, .lreturn, 1)]
theorem D_X4_read : dOK cX4_read L_X4_read = true := by decide +kernel
theorem cf_X4_read : CFV mX4_read 3 := ⟨wI_X4_read, wS_X4_read, wN_WaveRight_Looking, wC_X4_read, rfl, ⟨by decide +kernel, by decide +kernel, by decide +kernel⟩, le45 rfl⟩
def X4_read (n : Nat) (a0 : Int) (a1 : Int) (a2 : Int) (σ : SG) : Option (Int) :=
  lt ((((a0 * 8) + a1) * 8) + a2) fun x1 =>
  if w32 x1 < 0 then
    some (0)
  else
    if w32 x1 < 448 then
      rdA 448 x1 fun j2 =>
      some ((σ 56 j2))
    else
      some (0)
set_option maxHeartbeats 4000000 in
set_option maxRecDepth 100000 in
theorem A_X4_read {Γ : GA} (hΓ : (gl Γ).stackTraces = false) {n : Nat} {a0 : Int} {a1 : Int} {a2 : Int} {σ : SG} {r : Int}  (h : X4_read n a0 a1 a2 σ = some r) : AM Γ mX4_read 1 0 0 [vR 53, vI a0, vI a1, vI a2] (85, σ) (0, r) (85, σ) := by
  refine AM.of pl_X4 rfl wC_X4_read (le45 rfl) hΓ ?_
  refine AW.to (ls'' := [some (vR 53), some (vI a0), some (vI a1), some (vI a2), none]) ?_ (lle_s rfl (lle_s rfl (lle_s rfl (lle_s rfl (lle_e (lle_z))))))
  unfold X4_read at h
  refine AW.iload_n (n := 1) (dat D_X4_read 0 rfl) rfl rfl ?_
  refine AW.bipush (n := 3) (dat D_X4_read 1 rfl) rfl (by decide) ?_
  refine AW.imul (n := 4) (dat D_X4_read 2 rfl) rfl ?_
  refine AW.iload_n (n := 5) (dat D_X4_read 3 rfl) rfl rfl ?_
  refine AW.iadd (n := 6) (dat D_X4_read 4 rfl) rfl ?_
  refine AW.bipush (n := 8) (dat D_X4_read 5 rfl) rfl (by decide) ?_
  refine AW.imul (n := 9) (dat D_X4_read 6 rfl) rfl ?_
  refine AW.iload_n (n := 10) (dat D_X4_read 7 rfl) rfl rfl ?_
  refine AW.iadd (n := 11) (dat D_X4_read 8 rfl) rfl ?_
  refine AW.ltI h (fun x1 h => ?_)
  refine AW.istore (n := 13) (ls' := [some (vR 53), some (vI a0), some (vI a1), some (vI a2), some (vI x1)]) (dat D_X4_read 9 rfl) rfl (le45 rfl) (le45 rfl) rfl rfl ?_
  refine AW.iload (n := 15) (dat D_X4_read 10 rfl) rfl rfl ?_
  refine AW.if_ltH (t := 28) (n := 18) h (dat D_X4_read 11 rfl) rfl rfl (fun h => ?_) (fun h => ?_)
  · refine AW.lconst (n := 29) (x := 0) (dat D_X4_read 17 rfl) rfl (by decide) ?_
    refine AW.goto (t := 39) (dat D_X4_read 18 rfl) rfl ?_
    cases h
    exact AW.lret rfl rfl rfl (dat D_X4_read 23 rfl)
  · refine AW.iload (n := 20) (dat D_X4_read 12 rfl) rfl rfl ?_
    refine AW.aload_n (n := 21) (dat D_X4_read 13 rfl) rfl rfl ?_
    refine AW.getR (n := 24) (t := 56) fX4_4 wF_X4_18 ly_53 (le45 rfl) rfl (dat D_X4_read 14 rfl) rfl ?_
    refine AW.alen21 (n := 25) (x := 448) ly_56 (le45 rfl) rfl (dat D_X4_read 15 rfl) rfl ?_
    refine AW.icmp_ltH (t := 32) (n := 28) h (dat D_X4_read 16 rfl) rfl rfl rfl (by decide) (fun h => ?_) (fun h => ?_)
    · refine AW.aload_n (n := 33) (dat D_X4_read 19 rfl) rfl rfl ?_
      refine AW.getR (n := 36) (t := 56) fX4_4 wF_X4_18 ly_53 (le45 rfl) rfl (dat D_X4_read 20 rfl) rfl ?_
      refine AW.iload (n := 38) (dat D_X4_read 21 rfl) rfl rfl ?_
      refine AW.laldH h (n := 39) rfl ly_56 (le45 rfl) (dat D_X4_read 22 rfl) rfl (fun j2 h => ?_)
      cases h
      exact AW.lret rfl rfl rfl (dat D_X4_read 23 rfl)
    · refine AW.lconst (n := 29) (x := 0) (dat D_X4_read 17 rfl) rfl (by decide) ?_
      refine AW.goto (t := 39) (dat D_X4_read 18 rfl) rfl ?_
      cases h
      exact AW.lret rfl rfl rfl (dat D_X4_read 23 rfl)
def L_X4_worthOfWave : List (Nat × Instr × Nat) := [(0, .aload_n 0, 1), (1, .iload_n 1, 1), (2, .iload_n 2, 1), (3, .iload_n 3, 1), (4, .invokevirtual 46, 3), (7, .lstore 4, 2), (9, .iload_n 1, 1), (10, .ifCond .ne 15, 3), (13, .lload 4, 2), (15, .aload_n 0, 1), (16, .getfield 22, 3), (19, .getfield 66, 3), (22, .i2l, 1), (23, .lmul, 1), (24, .lreturn, 1), (25, .lconst 0, 1), (26, .lstore 6, 2), (28, .iconst 0, 1), (29, .istore 8, 2), (31, .iload 8, 2), (33, .aload_n 0, 1), (34, .getfield 22, 3), (37, .getfield 66, 3), (40, .if_icmp .ge 65, 3), (43, .aload_n 0, 1), (44, .getfield 15, 3), (47, .iload 8, 2), (49, .iaload, 1), (50, .istore 9, 2), (52, .iload 9, 2), (54, .iload_n 2, 1), (55, .if_icmp .gt 16, 3), (58, .aload_n 0, 1), (59, .iload_n 1, 1), (60, .iconst 1, 1), (61, .isub, 1), (62, .iload 9, 2), (64, .iload_n 2, 1), (65, .invokevirtual 46, 3), (68, .goto 17, 3), (71, .aload_n 0, 1), (72, .iload_n 1, 1), (73, .iconst 1, 1), (74, .isub, 1), (75, .iload_n 2, 1), (76, .iload 9, 2), (78, .iload_n 3, 1), (79, .invokestatic 54, 3), (82, .invokevirtual 46, 3), (85, .lstore 10, 2), (87, .lload 6, 2), (89, .lload 4, 2), (91, .lload 10, 2), (93, .invokestatic 77, 3), (96, .ladd, 1), (97, .lstore 6, 2), (99, .iinc 8 1, 3), (102, .goto (-71), 3), (105, .lload 6, 2), (107, .lreturn, 1)]
theorem D_X4_worthOfWave : dOK cX4_worthOfWave L_X4_worthOfWave = true := by decide +kernel
theorem cf_X4_worthOfWave : CFV mX4_worthOfWave 3 := ⟨wI_X4_worthOfWave, wS_X4_worthOfWave, wN_WaveRight_Looking, wC_X4_worthOfWave, rfl, ⟨by decide +kernel, by decide +kernel, by decide +kernel⟩, le45 rfl⟩
def X4_worthOfWave_e31 (n : Nat) (e6 : Int) : Option (Int) :=
  some (e6)
def X4_worthOfWave_j85 (n : Nat) (z3 : Int) (v2 : Int) (z4 : Int) (y9 : Int) : Option ((Int × Int) ⊕ (Int)) :=
  lt (z3 + (mx64 v2 y9)) fun x11 =>
  lt (z4 + 1) fun x12 =>
  some (.inl (x11, x12))
def X4_worthOfWave_l31 (n : Nat) (σ : SG) (a1 : Int) (a0 : Int) (a2 : Int) (v2 : Int) (z3 : Int) (z4 : Int) : Option ((Int × Int) ⊕ (Int)) :=
  if w32 (σ 19 6) ≤ w32 z4 then
    some (.inr z3)
  else
    rdA 6 z4 fun j7 =>
    lt (σ 55 j7) fun x8 =>
    ((if w32 a1 < w32 x8 then
      (X4_read n (a0 - 1) a1 (mn32 x8 a2) σ).bind fun v14 =>
      some (v14)
    else
      (X4_read n (a0 - 1) x8 a1 σ).bind fun v16 =>
      some (v16)) : Option (Int)).bind (fun s => X4_worthOfWave_j85 n z3 v2 z4 s)
def X4_worthOfWave (n : Nat) (a0 : Int) (a1 : Int) (a2 : Int) (σ : SG) : Option (Int) :=
  (X4_read n a0 a1 a2 σ).bind fun v2 =>
  if w32 a0 = 0 then
    some ((v2 * (w32 (σ 19 6))))
  else
    ((iter n (fun s : Int × Int => X4_worthOfWave_l31 n σ a1 a0 a2 v2 s.1 s.2) (0, 0)) : Option (Int)).bind (fun s => X4_worthOfWave_e31 n s)
set_option maxHeartbeats 4000000 in
set_option maxRecDepth 100000 in
theorem A_X4_worthOfWave {Γ : GA} (hΓ : (gl Γ).stackTraces = false) {n : Nat} {a0 : Int} {a1 : Int} {a2 : Int} {σ : SG} {r : Int}  (h : X4_worthOfWave n a0 a1 a2 σ = some r) : AM Γ mX4_worthOfWave 2 0 0 [vR 53, vI a0, vI a1, vI a2] (85, σ) (0, r) (85, σ) := by
  refine AM.of pl_X4 rfl wC_X4_worthOfWave (le45 rfl) hΓ ?_
  refine AW.to (ls'' := [some (vR 53), some (vI a0), some (vI a1), some (vI a2), none, none, none, none, none, none, none, none]) ?_ (lle_s rfl (lle_s rfl (lle_s rfl (lle_s rfl (lle_e (lle_e (lle_e (lle_e (lle_e (lle_e (lle_e (lle_e (lle_z)))))))))))))
  unfold X4_worthOfWave at h
  refine AW.aload_n (n := 1) (dat D_X4_worthOfWave 0 rfl) rfl rfl ?_
  refine AW.iload_n (n := 2) (dat D_X4_worthOfWave 1 rfl) rfl rfl ?_
  refine AW.iload_n (n := 3) (dat D_X4_worthOfWave 2 rfl) rfl rfl ?_
  refine AW.iload_n (n := 4) (dat D_X4_worthOfWave 3 rfl) rfl rfl ?_
  obtain ⟨v2, hc1, h⟩ := ob_some h
  refine AW.cV (n := 7) (as := [vI a0, vI a1, vI a2]) (st := []) (st' := [vL v2]) (uc' := 0) (us' := 0) (A_X4_read hΓ hc1) cf_X4_read ly_53 (le45 rfl) vc_4 (le45 rfl) wM_X4_46 (le45 rfl) (le45 rfl) (dat D_X4_worthOfWave 4 rfl) rfl rfl (le45 rfl) (le45 rfl) rfl (fun _ => ?_) nlt0
  refine AW.lstore (n := 9) (ls' := [some (vR 53), some (vI a0), some (vI a1), some (vI a2), some (vL v2), none, none, none, none, none, none, none]) (dat D_X4_worthOfWave 5 rfl) rfl (le45 rfl) (le45 rfl) rfl rfl ?_
  refine AW.iload_n (n := 10) (dat D_X4_worthOfWave 6 rfl) rfl rfl ?_
  refine AW.if_neH (t := 25) (n := 13) h (dat D_X4_worthOfWave 7 rfl) rfl rfl (fun h => ?_) (fun h => ?_)
  · refine AW.lload (n := 15) (dat D_X4_worthOfWave 8 rfl) rfl rfl ?_
    refine AW.aload_n (n := 16) (dat D_X4_worthOfWave 9 rfl) rfl rfl ?_
    refine AW.getR (n := 19) (t := 19) fX4_0 wF_X4_22 ly_53 (le45 rfl) rfl (dat D_X4_worthOfWave 10 rfl) rfl ?_
    refine AW.getI (n := 22) fX1_6 wF_X4_66 ly_19 (le45 rfl) rfl rfl (dat D_X4_worthOfWave 11 rfl) rfl ?_
    refine AW.i2l (n := 23) (dat D_X4_worthOfWave 12 rfl) rfl ?_
    refine AW.lmul (n := 24) (dat D_X4_worthOfWave 13 rfl) rfl ?_
    cases h
    exact AW.lret rfl rfl rfl (dat D_X4_worthOfWave 14 rfl)
  · refine AW.lconst (n := 26) (x := 0) (dat D_X4_worthOfWave 15 rfl) rfl (by decide) ?_
    refine AW.lstore (n := 28) (ls' := [some (vR 53), some (vI a0), some (vI a1), some (vI a2), some (vL v2), none, some (vL 0), none, none, none, none, none]) (dat D_X4_worthOfWave 16 rfl) rfl (le45 rfl) (le45 rfl) rfl rfl ?_
    refine AW.iconst (n := 29) (dat D_X4_worthOfWave 17 rfl) rfl ?_
    refine AW.istore (n := 31) (ls' := [some (vR 53), some (vI a0), some (vI a1), some (vI a2), some (vL v2), none, some (vL 0), none, some (vI 0), none, none, none]) (dat D_X4_worthOfWave 18 rfl) rfl (le45 rfl) (le45 rfl) rfl rfl ?_
    obtain ⟨b5, hi5, hq5⟩ := ob_some h
    obtain ⟨e6, e5⟩ : ∃ z, z = b5 := ⟨_, rfl⟩
    subst e5
    have hR5 : AW Γ mX4_worthOfWave 2 (0, r) (85, σ) 0 0 105 [none, none, none, none, none, none, some (vL e6), none, none, none, none, none] [] (85, σ) := by
      have h : X4_worthOfWave_e31 n e6 = some _ := hq5
      unfold X4_worthOfWave_e31 at h
      refine AW.lload (n := 107) (dat D_X4_worthOfWave 58 rfl) rfl rfl ?_
      cases h
      exact AW.lret rfl rfl rfl (dat D_X4_worthOfWave 59 rfl)
    refine AW.to (ls'' := [some (vR 53), some (vI a0), some (vI a1), some (vI a2), some (vL v2), none, some (vL 0), none, some (vI 0), none, none, none]) ?_ (lle_s rfl (lle_s rfl (lle_s rfl (lle_s rfl (lle_s rfl (lle_n (lle_s rfl (lle_n (lle_s rfl (lle_n (lle_n (lle_n (lle_z)))))))))))))
    refine aw_iter (fun s : Int × Int => AW Γ mX4_worthOfWave 2 (0, r) (85, σ) 0 0 31 [some (vR 53), some (vI a0), some (vI a1), some (vI a2), some (vL v2), none, some (vL (s.1)), none, some (vI (s.2)), none, none, none] [] (85, σ)) (fun s y h hk5 hb5 => ?_) _ _ hi5
    obtain ⟨z3, z4⟩ := s
    show AW Γ mX4_worthOfWave 2 (0, r) (85, σ) 0 0 31 [some (vR 53), some (vI a0), some (vI a1), some (vI a2), some (vL v2), none, some (vL z3), none, some (vI z4), none, none, none] [] (85, σ)
    have h : X4_worthOfWave_l31 n σ a1 a0 a2 v2 z3 z4 = some y := h
    unfold X4_worthOfWave_l31 at h
    refine AW.iload (n := 33) (dat D_X4_worthOfWave 19 rfl) rfl rfl ?_
    refine AW.aload_n (n := 34) (dat D_X4_worthOfWave 20 rfl) rfl rfl ?_
    refine AW.getR (n := 37) (t := 19) fX4_0 wF_X4_22 ly_53 (le45 rfl) rfl (dat D_X4_worthOfWave 21 rfl) rfl ?_
    refine AW.getI (n := 40) fX1_6 wF_X4_66 ly_19 (le45 rfl) rfl rfl (dat D_X4_worthOfWave 22 rfl) rfl ?_
    refine AW.icmp_geH (t := 105) (n := 43) h (dat D_X4_worthOfWave 23 rfl) rfl rfl rfl rfl (fun h => ?_) (fun h => ?_)
    · cases h
      have hb := hb5 _ rfl
      cases hb
      exact AW.to hR5 (lle_n (lle_n (lle_n (lle_n (lle_n (lle_n (lle_s rfl (lle_n (lle_n (lle_n (lle_n (lle_n (lle_z)))))))))))))
    · refine AW.aload_n (n := 44) (dat D_X4_worthOfWave 24 rfl) rfl rfl ?_
      refine AW.getR (n := 47) (t := 55) fX4_3 wF_X4_15 ly_53 (le45 rfl) rfl (dat D_X4_worthOfWave 25 rfl) rfl ?_
      refine AW.iload (n := 49) (dat D_X4_worthOfWave 26 rfl) rfl rfl ?_
      refine AW.ialdH h (n := 50) rfl ly_55 (le45 rfl) (dat D_X4_worthOfWave 27 rfl) rfl (fun j7 h => ?_)
      refine AW.ltI h (fun x8 h => ?_)
      refine AW.istore (n := 52) (ls' := [some (vR 53), some (vI a0), some (vI a1), some (vI a2), some (vL v2), none, some (vL z3), none, some (vI z4), some (vI x8), none, none]) (dat D_X4_worthOfWave 28 rfl) rfl (le45 rfl) (le45 rfl) rfl rfl ?_
      refine AW.iload (n := 54) (dat D_X4_worthOfWave 29 rfl) rfl rfl ?_
      refine AW.iload_n (n := 55) (dat D_X4_worthOfWave 30 rfl) rfl rfl ?_
      obtain ⟨s10, h, hq10⟩ := ob_some h
      obtain ⟨y9, e10⟩ : ∃ z, z = s10 := ⟨_, rfl⟩
      subst e10
      have hJ10 : AW Γ mX4_worthOfWave 2 (0, r) (85, σ) 0 0 85 [some (vR 53), some (vI a0), some (vI a1), some (vI a2), some (vL v2), none, some (vL z3), none, some (vI z4), none, none, none] [vL y9] (85, σ) := by
        have h : X4_worthOfWave_j85 n z3 v2 z4 y9 = some _ := hq10
        unfold X4_worthOfWave_j85 at h
        refine AW.lstore (n := 87) (ls' := [some (vR 53), some (vI a0), some (vI a1), some (vI a2), some (vL v2), none, some (vL z3), none, some (vI z4), none, some (vL y9), none]) (dat D_X4_worthOfWave 49 rfl) rfl (le45 rfl) (le45 rfl) rfl rfl ?_
        refine AW.lload (n := 89) (dat D_X4_worthOfWave 50 rfl) rfl rfl ?_
        refine AW.lload (n := 91) (dat D_X4_worthOfWave 51 rfl) rfl rfl ?_
        refine AW.lload (n := 93) (dat D_X4_worthOfWave 52 rfl) rfl rfl ?_
        refine AW.lmax (n := 96) wM_X4_77 (le45 rfl) (le45 rfl) (dat D_X4_worthOfWave 53 rfl) rfl ?_
        refine AW.ladd (n := 97) (dat D_X4_worthOfWave 54 rfl) rfl ?_
        refine AW.ltL h (fun x11 h => ?_)
        refine AW.lstore (n := 99) (ls' := [some (vR 53), some (vI a0), some (vI a1), some (vI a2), some (vL v2), none, some (vL x11), none, some (vI z4), none, some (vL y9), none]) (dat D_X4_worthOfWave 55 rfl) rfl (le45 rfl) (le45 rfl) rfl rfl ?_
        refine AW.iincH h (n := 102) (dat D_X4_worthOfWave 56 rfl) rfl rfl (le45 rfl) rfl (fun x12 h => ?_)
        refine AW.lq (ls' := [some (vR 53), some (vI a0), some (vI a1), some (vI a2), some (vL v2), none, some (vL x11), none, some (vI x12), none, some (vL y9), none]) rfl ?_
        refine AW.goto (t := 31) (dat D_X4_worthOfWave 57 rfl) rfl ?_
        cases h
        exact AW.to (hk5 _ rfl) (lle_s rfl (lle_s rfl (lle_s rfl (lle_s rfl (lle_s rfl (lle_n (lle_s rfl (lle_n (lle_s rfl (lle_n (lle_n (lle_n (lle_z)))))))))))))
      refine AW.icmp_gtH (t := 71) (n := 58) h (dat D_X4_worthOfWave 31 rfl) rfl rfl rfl rfl (fun h => ?_) (fun h => ?_)
      · refine AW.aload_n (n := 72) (dat D_X4_worthOfWave 40 rfl) rfl rfl ?_
        refine AW.iload_n (n := 73) (dat D_X4_worthOfWave 41 rfl) rfl rfl ?_
        refine AW.iconst (n := 74) (dat D_X4_worthOfWave 42 rfl) rfl ?_
        refine AW.isub (n := 75) (dat D_X4_worthOfWave 43 rfl) rfl ?_
        refine AW.iload_n (n := 76) (dat D_X4_worthOfWave 44 rfl) rfl rfl ?_
        refine AW.iload (n := 78) (dat D_X4_worthOfWave 45 rfl) rfl rfl ?_
        refine AW.iload_n (n := 79) (dat D_X4_worthOfWave 46 rfl) rfl rfl ?_
        refine AW.mmin (n := 82) wM_X4_54 (le45 rfl) (le45 rfl) (dat D_X4_worthOfWave 47 rfl) rfl ?_
        obtain ⟨v14, hc13, h⟩ := ob_some h
        refine AW.cV (n := 85) (as := [vI (a0 - 1), vI a1, vI (mn32 x8 a2)]) (st := []) (st' := [vL v14]) (uc' := 0) (us' := 0) (A_X4_read hΓ hc13) cf_X4_read ly_53 (le45 rfl) vc_4 (le45 rfl) wM_X4_46 (le45 rfl) (le45 rfl) (dat D_X4_worthOfWave 48 rfl) rfl rfl (le45 rfl) (le45 rfl) rfl (fun _ => ?_) nlt0
        cases h
        exact AW.to hJ10 (lle_s rfl (lle_s rfl (lle_s rfl (lle_s rfl (lle_s rfl (lle_n (lle_s rfl (lle_n (lle_s rfl (lle_n (lle_n (lle_n (lle_z)))))))))))))
      · refine AW.aload_n (n := 59) (dat D_X4_worthOfWave 32 rfl) rfl rfl ?_
        refine AW.iload_n (n := 60) (dat D_X4_worthOfWave 33 rfl) rfl rfl ?_
        refine AW.iconst (n := 61) (dat D_X4_worthOfWave 34 rfl) rfl ?_
        refine AW.isub (n := 62) (dat D_X4_worthOfWave 35 rfl) rfl ?_
        refine AW.iload (n := 64) (dat D_X4_worthOfWave 36 rfl) rfl rfl ?_
        refine AW.iload_n (n := 65) (dat D_X4_worthOfWave 37 rfl) rfl rfl ?_
        obtain ⟨v16, hc15, h⟩ := ob_some h
        refine AW.cV (n := 68) (as := [vI (a0 - 1), vI x8, vI a1]) (st := []) (st' := [vL v16]) (uc' := 0) (us' := 0) (A_X4_read hΓ hc15) cf_X4_read ly_53 (le45 rfl) vc_4 (le45 rfl) wM_X4_46 (le45 rfl) (le45 rfl) (dat D_X4_worthOfWave 38 rfl) rfl rfl (le45 rfl) (le45 rfl) rfl (fun _ => ?_) nlt0
        refine AW.goto (t := 85) (dat D_X4_worthOfWave 39 rfl) rfl ?_
        cases h
        exact AW.to hJ10 (lle_s rfl (lle_s rfl (lle_s rfl (lle_s rfl (lle_s rfl (lle_n (lle_s rfl (lle_n (lle_s rfl (lle_n (lle_n (lle_n (lle_z)))))))))))))
def L_X4_write : List (Nat × Instr × Nat) := [(0, .iload_n 1, 1), (1, .bipush 8, 2), (3, .imul, 1), (4, .iload_n 2, 1), (5, .iadd, 1), (6, .bipush 8, 2), (8, .imul, 1), (9, .iload_n 3, 1), (10, .iadd, 1), (11, .istore 6, 2), (13, .iload 6, 2), (15, .ifCond .lt 22, 3), (18, .iload 6, 2), (20, .aload_n 0, 1), (21, .getfield 18, 3), (24, .arraylength, 1), (25, .if_icmp .ge 12, 3), (28, .aload_n 0, 1), (29, .getfield 18, 3), (32, .iload 6, 2), (34, .lload 4, 2), (36, .lastore, 1), (37, .return_, 1)]
theorem D_X4_write : dOK cX4_write L_X4_write = true := by decide +kernel
theorem cf_X4_write : CFV mX4_write 4 := ⟨wI_X4_write, wS_X4_write, wN_WaveRight_Looking, wC_X4_write, rfl, ⟨by decide +kernel, by decide +kernel, by decide +kernel⟩, le45 rfl⟩
def X4_write (n : Nat) (a0 : Int) (a1 : Int) (a2 : Int) (a3 : Int) (σ : SG) : Option (SG) :=
  lt ((((a0 * 8) + a1) * 8) + a2) fun x1 =>
  if w32 x1 < 0 then
    some (σ)
  else
    if 448 ≤ w32 x1 then
      some (σ)
    else
      rdA 448 x1 fun j2 => lt (up σ 56 j2 a3) fun σ3 =>
      some (σ3)
set_option maxHeartbeats 4000000 in
set_option maxRecDepth 100000 in
theorem A_X4_write {Γ : GA} (hΓ : (gl Γ).stackTraces = false) {n : Nat} {a0 : Int} {a1 : Int} {a2 : Int} {a3 : Int} {σ : SG} {τ : SG}  (h : X4_write n a0 a1 a2 a3 σ = some τ) : AM Γ mX4_write 1 0 0 [vR 53, vI a0, vI a1, vI a2, vL a3] (85, σ) (0, 0) (85, τ) := by
  refine AM.of pl_X4 rfl wC_X4_write (le45 rfl) hΓ ?_
  refine AW.to (ls'' := [some (vR 53), some (vI a0), some (vI a1), some (vI a2), some (vL a3), none, none]) ?_ (lle_s rfl (lle_s rfl (lle_s rfl (lle_s rfl (lle_s rfl (lle_n (lle_e (lle_z))))))))
  unfold X4_write at h
  refine AW.iload_n (n := 1) (dat D_X4_write 0 rfl) rfl rfl ?_
  refine AW.bipush (n := 3) (dat D_X4_write 1 rfl) rfl (by decide) ?_
  refine AW.imul (n := 4) (dat D_X4_write 2 rfl) rfl ?_
  refine AW.iload_n (n := 5) (dat D_X4_write 3 rfl) rfl rfl ?_
  refine AW.iadd (n := 6) (dat D_X4_write 4 rfl) rfl ?_
  refine AW.bipush (n := 8) (dat D_X4_write 5 rfl) rfl (by decide) ?_
  refine AW.imul (n := 9) (dat D_X4_write 6 rfl) rfl ?_
  refine AW.iload_n (n := 10) (dat D_X4_write 7 rfl) rfl rfl ?_
  refine AW.iadd (n := 11) (dat D_X4_write 8 rfl) rfl ?_
  refine AW.ltI h (fun x1 h => ?_)
  refine AW.istore (n := 13) (ls' := [some (vR 53), some (vI a0), some (vI a1), some (vI a2), some (vL a3), none, some (vI x1)]) (dat D_X4_write 9 rfl) rfl (le45 rfl) (le45 rfl) rfl rfl ?_
  refine AW.iload (n := 15) (dat D_X4_write 10 rfl) rfl rfl ?_
  refine AW.if_ltH (t := 37) (n := 18) h (dat D_X4_write 11 rfl) rfl rfl (fun h => ?_) (fun h => ?_)
  · cases h
    exact AW.vret rfl rfl rfl (dat D_X4_write 22 rfl)
  · refine AW.iload (n := 20) (dat D_X4_write 12 rfl) rfl rfl ?_
    refine AW.aload_n (n := 21) (dat D_X4_write 13 rfl) rfl rfl ?_
    refine AW.getR (n := 24) (t := 56) fX4_4 wF_X4_18 ly_53 (le45 rfl) rfl (dat D_X4_write 14 rfl) rfl ?_
    refine AW.alen21 (n := 25) (x := 448) ly_56 (le45 rfl) rfl (dat D_X4_write 15 rfl) rfl ?_
    refine AW.icmp_geH (t := 37) (n := 28) h (dat D_X4_write 16 rfl) rfl rfl rfl (by decide) (fun h => ?_) (fun h => ?_)
    · cases h
      exact AW.vret rfl rfl rfl (dat D_X4_write 22 rfl)
    · refine AW.aload_n (n := 29) (dat D_X4_write 17 rfl) rfl rfl ?_
      refine AW.getR (n := 32) (t := 56) fX4_4 wF_X4_18 ly_53 (le45 rfl) rfl (dat D_X4_write 18 rfl) rfl ?_
      refine AW.iload (n := 34) (dat D_X4_write 19 rfl) rfl rfl ?_
      refine AW.lload (n := 36) (dat D_X4_write 20 rfl) rfl rfl ?_
      refine AW.lastH h (n := 37) rfl ly_56 (le45 rfl) (dat D_X4_write 21 rfl) rfl (fun j2 h => ?_)
      refine AW.ltS h (fun σ3 h => ?_)
      cases h
      exact AW.vret rfl rfl rfl (dat D_X4_write 22 rfl)
def L_X4_lookAtWave : List (Nat × Instr × Nat) := [(0, .iload_n 1, 1), (1, .istore_n 2, 1), (2, .iload_n 2, 1), (3, .ifCond .lt 59, 3), (6, .iconst 0, 1), (7, .istore_n 3, 1), (8, .iload_n 3, 1), (9, .aload_n 0, 1), (10, .getfield 30, 3), (13, .if_icmp .ge 43, 3), (16, .iload_n 3, 1), (17, .istore 4, 2), (19, .iload 4, 2), (21, .aload_n 0, 1), (22, .getfield 30, 3), (25, .if_icmp .ge 25, 3), (28, .aload_n 0, 1), (29, .iload_n 2, 1), (30, .iload_n 3, 1), (31, .iload 4, 2), (33, .aload_n 0, 1), (34, .iload_n 2, 1), (35, .iload_n 3, 1), (36, .iload 4, 2), (38, .invokevirtual 74, 3), (41, .invokevirtual 34, 3), (44, .iinc 4 1, 3), (47, .goto (-28), 3), (50, .iinc 3 1, 3), (53, .goto (-45), 3), (56, .iinc 2 (-1), 3), (59, .goto (-57), 3), (62, .return_, 1)]
theorem D_X4_lookAtWave : dOK cX4_lookAtWave L_X4_lookAtWave = true := by decide +kernel
theorem cf_X4_lookAtWave : CFV mX4_lookAtWave 1 := ⟨wI_X4_lookAtWave, wS_X4_lookAtWave, wN_WaveRight_Looking, wC_X4_lookAtWave, rfl, ⟨by decide +kernel, by decide +kernel, by decide +kernel⟩, le45 rfl⟩
def X4_lookAtWave_e2 (n : Nat) (σ4 : SG) : Option (SG) :=
  some (σ4)
def X4_lookAtWave_e8 (n : Nat) (z1 : Int) (σ8 : SG) : Option ((Int × SG) ⊕ (SG)) :=
  lt (z1 + (-1)) fun x9 =>
  some (.inl (x9, σ8))
def X4_lookAtWave_e19 (n : Nat) (z5 : Int) (σ13 : SG) : Option ((Int × SG) ⊕ (SG)) :=
  lt (z5 + 1) fun x14 =>
  some (.inl (x14, σ13))
def X4_lookAtWave_l19 (n : Nat) (z1 : Int) (z5 : Int) (z10 : Int) (σ11 : SG) : Option ((Int × SG) ⊕ (SG)) :=
  if w32 (σ11 53 2) ≤ w32 z10 then
    some (.inr σ11)
  else
    (X4_worthOfWave n z1 z5 z10 σ11).bind fun v16 =>
    (X4_write n z1 z5 z10 v16 σ11).bind fun σ18 =>
    lt (z10 + 1) fun x19 =>
    some (.inl (x19, σ18))
def X4_lookAtWave_l8 (n : Nat) (z1 : Int) (z5 : Int) (σ6 : SG) : Option ((Int × SG) ⊕ (SG)) :=
  if w32 (σ6 53 2) ≤ w32 z5 then
    some (.inr σ6)
  else
    ((iter n (fun s : Int × SG => X4_lookAtWave_l19 n z1 z5 s.1 s.2) (z5, σ6)) : Option (SG)).bind (fun s => X4_lookAtWave_e19 n z5 s)
def X4_lookAtWave_l2 (n : Nat) (z1 : Int) (σ2 : SG) : Option ((Int × SG) ⊕ (SG)) :=
  if w32 z1 < 0 then
    some (.inr σ2)
  else
    ((iter n (fun s : Int × SG => X4_lookAtWave_l8 n z1 s.1 s.2) (0, σ2)) : Option (SG)).bind (fun s => X4_lookAtWave_e8 n z1 s)
def X4_lookAtWave (n : Nat) (a0 : Int) (σ : SG) : Option (SG) :=
  ((iter n (fun s : Int × SG => X4_lookAtWave_l2 n s.1 s.2) (a0, σ)) : Option (SG)).bind (fun s => X4_lookAtWave_e2 n s)
set_option maxHeartbeats 4000000 in
set_option maxRecDepth 100000 in
theorem A_X4_lookAtWave {Γ : GA} (hΓ : (gl Γ).stackTraces = false) {n : Nat} {a0 : Int} {σ : SG} {τ : SG}  (h : X4_lookAtWave n a0 σ = some τ) : AM Γ mX4_lookAtWave 3 0 0 [vR 53, vI a0] (85, σ) (0, 0) (85, τ) := by
  refine AM.of pl_X4 rfl wC_X4_lookAtWave (le45 rfl) hΓ ?_
  refine AW.to (ls'' := [some (vR 53), some (vI a0), none, none, none]) ?_ (lle_s rfl (lle_s rfl (lle_e (lle_e (lle_e (lle_z))))))
  unfold X4_lookAtWave at h
  refine AW.iload_n (n := 1) (dat D_X4_lookAtWave 0 rfl) rfl rfl ?_
  refine AW.istore_n (n := 2) (ls' := [some (vR 53), some (vI a0), some (vI a0), none, none]) (dat D_X4_lookAtWave 1 rfl) rfl (le45 rfl) (le45 rfl) rfl rfl ?_
  obtain ⟨b3, hi3, hq3⟩ := ob_some h
  obtain ⟨σ4, e3⟩ : ∃ z, z = b3 := ⟨_, rfl⟩
  subst e3
  have hR3 : AW Γ mX4_lookAtWave 3 (0, 0) (85, τ) 0 0 62 [none, none, none, none, none] [] (85, σ4) := by
    have h : X4_lookAtWave_e2 n σ4 = some _ := hq3
    unfold X4_lookAtWave_e2 at h
    cases h
    exact AW.vret rfl rfl rfl (dat D_X4_lookAtWave 32 rfl)
  refine AW.to (ls'' := [some (vR 53), none, some (vI a0), none, none]) ?_ (lle_s rfl (lle_n (lle_s rfl (lle_n (lle_n (lle_z))))))
  refine aw_iter (fun s : Int × SG => AW Γ mX4_lookAtWave 3 (0, 0) (85, τ) 0 0 2 [some (vR 53), none, some (vI (s.1)), none, none] [] (85, s.2)) (fun s y h hk3 hb3 => ?_) _ _ hi3
  obtain ⟨z1, σ2⟩ := s
  show AW Γ mX4_lookAtWave 3 (0, 0) (85, τ) 0 0 2 [some (vR 53), none, some (vI z1), none, none] [] (85, σ2)
  have h : X4_lookAtWave_l2 n z1 σ2 = some y := h
  unfold X4_lookAtWave_l2 at h
  refine AW.iload_n (n := 3) (dat D_X4_lookAtWave 2 rfl) rfl rfl ?_
  refine AW.if_ltH (t := 62) (n := 6) h (dat D_X4_lookAtWave 3 rfl) rfl rfl (fun h => ?_) (fun h => ?_)
  · cases h
    have hb := hb3 _ rfl
    cases hb
    exact AW.to hR3 (lle_n (lle_n (lle_n (lle_n (lle_n (lle_z))))))
  · refine AW.iconst (n := 7) (dat D_X4_lookAtWave 4 rfl) rfl ?_
    refine AW.istore_n (n := 8) (ls' := [some (vR 53), none, some (vI z1), some (vI 0), none]) (dat D_X4_lookAtWave 5 rfl) rfl (le45 rfl) (le45 rfl) rfl rfl ?_
    obtain ⟨b7, hi7, hq7⟩ := ob_some h
    obtain ⟨σ8, e7⟩ : ∃ z, z = b7 := ⟨_, rfl⟩
    subst e7
    have hR7 : AW Γ mX4_lookAtWave 3 (0, 0) (85, τ) 0 0 56 [some (vR 53), none, some (vI z1), none, none] [] (85, σ8) := by
      have h : X4_lookAtWave_e8 n z1 σ8 = some _ := hq7
      unfold X4_lookAtWave_e8 at h
      refine AW.iincH h (n := 59) (dat D_X4_lookAtWave 30 rfl) rfl rfl (le45 rfl) rfl (fun x9 h => ?_)
      refine AW.lq (ls' := [some (vR 53), none, some (vI x9), none, none]) rfl ?_
      refine AW.goto (t := 2) (dat D_X4_lookAtWave 31 rfl) rfl ?_
      cases h
      exact AW.to (hk3 _ rfl) (lle_s rfl (lle_n (lle_s rfl (lle_n (lle_n (lle_z))))))
    refine AW.to (ls'' := [some (vR 53), none, some (vI z1), some (vI 0), none]) ?_ (lle_s rfl (lle_n (lle_s rfl (lle_s rfl (lle_n (lle_z))))))
    refine aw_iter (fun s : Int × SG => AW Γ mX4_lookAtWave 3 (0, 0) (85, τ) 0 0 8 [some (vR 53), none, some (vI z1), some (vI (s.1)), none] [] (85, s.2)) (fun s y h hk7 hb7 => ?_) _ _ hi7
    obtain ⟨z5, σ6⟩ := s
    show AW Γ mX4_lookAtWave 3 (0, 0) (85, τ) 0 0 8 [some (vR 53), none, some (vI z1), some (vI z5), none] [] (85, σ6)
    have h : X4_lookAtWave_l8 n z1 z5 σ6 = some y := h
    unfold X4_lookAtWave_l8 at h
    refine AW.iload_n (n := 9) (dat D_X4_lookAtWave 6 rfl) rfl rfl ?_
    refine AW.aload_n (n := 10) (dat D_X4_lookAtWave 7 rfl) rfl rfl ?_
    refine AW.getI (n := 13) fX4_2 wF_X4_30 ly_53 (le45 rfl) rfl rfl (dat D_X4_lookAtWave 8 rfl) rfl ?_
    refine AW.icmp_geH (t := 56) (n := 16) h (dat D_X4_lookAtWave 9 rfl) rfl rfl rfl rfl (fun h => ?_) (fun h => ?_)
    · cases h
      have hb := hb7 _ rfl
      cases hb
      exact AW.to hR7 (lle_s rfl (lle_n (lle_s rfl (lle_n (lle_n (lle_z))))))
    · refine AW.iload_n (n := 17) (dat D_X4_lookAtWave 10 rfl) rfl rfl ?_
      refine AW.istore (n := 19) (ls' := [some (vR 53), none, some (vI z1), some (vI z5), some (vI z5)]) (dat D_X4_lookAtWave 11 rfl) rfl (le45 rfl) (le45 rfl) rfl rfl ?_
      obtain ⟨b12, hi12, hq12⟩ := ob_some h
      obtain ⟨σ13, e12⟩ : ∃ z, z = b12 := ⟨_, rfl⟩
      subst e12
      have hR12 : AW Γ mX4_lookAtWave 3 (0, 0) (85, τ) 0 0 50 [some (vR 53), none, some (vI z1), some (vI z5), none] [] (85, σ13) := by
        have h : X4_lookAtWave_e19 n z5 σ13 = some _ := hq12
        unfold X4_lookAtWave_e19 at h
        refine AW.iincH h (n := 53) (dat D_X4_lookAtWave 28 rfl) rfl rfl (le45 rfl) rfl (fun x14 h => ?_)
        refine AW.lq (ls' := [some (vR 53), none, some (vI z1), some (vI x14), none]) rfl ?_
        refine AW.goto (t := 8) (dat D_X4_lookAtWave 29 rfl) rfl ?_
        cases h
        exact AW.to (hk7 _ rfl) (lle_s rfl (lle_n (lle_s rfl (lle_s rfl (lle_n (lle_z))))))
      refine AW.to (ls'' := [some (vR 53), none, some (vI z1), some (vI z5), some (vI z5)]) ?_ (lle_s rfl (lle_n (lle_s rfl (lle_s rfl (lle_s rfl (lle_z))))))
      refine aw_iter (fun s : Int × SG => AW Γ mX4_lookAtWave 3 (0, 0) (85, τ) 0 0 19 [some (vR 53), none, some (vI z1), some (vI z5), some (vI (s.1))] [] (85, s.2)) (fun s y h hk12 hb12 => ?_) _ _ hi12
      obtain ⟨z10, σ11⟩ := s
      show AW Γ mX4_lookAtWave 3 (0, 0) (85, τ) 0 0 19 [some (vR 53), none, some (vI z1), some (vI z5), some (vI z10)] [] (85, σ11)
      have h : X4_lookAtWave_l19 n z1 z5 z10 σ11 = some y := h
      unfold X4_lookAtWave_l19 at h
      refine AW.iload (n := 21) (dat D_X4_lookAtWave 12 rfl) rfl rfl ?_
      refine AW.aload_n (n := 22) (dat D_X4_lookAtWave 13 rfl) rfl rfl ?_
      refine AW.getI (n := 25) fX4_2 wF_X4_30 ly_53 (le45 rfl) rfl rfl (dat D_X4_lookAtWave 14 rfl) rfl ?_
      refine AW.icmp_geH (t := 50) (n := 28) h (dat D_X4_lookAtWave 15 rfl) rfl rfl rfl rfl (fun h => ?_) (fun h => ?_)
      · cases h
        have hb := hb12 _ rfl
        cases hb
        exact AW.to hR12 (lle_s rfl (lle_n (lle_s rfl (lle_s rfl (lle_n (lle_z))))))
      · refine AW.aload_n (n := 29) (dat D_X4_lookAtWave 16 rfl) rfl rfl ?_
        refine AW.iload_n (n := 30) (dat D_X4_lookAtWave 17 rfl) rfl rfl ?_
        refine AW.iload_n (n := 31) (dat D_X4_lookAtWave 18 rfl) rfl rfl ?_
        refine AW.iload (n := 33) (dat D_X4_lookAtWave 19 rfl) rfl rfl ?_
        refine AW.aload_n (n := 34) (dat D_X4_lookAtWave 20 rfl) rfl rfl ?_
        refine AW.iload_n (n := 35) (dat D_X4_lookAtWave 21 rfl) rfl rfl ?_
        refine AW.iload_n (n := 36) (dat D_X4_lookAtWave 22 rfl) rfl rfl ?_
        refine AW.iload (n := 38) (dat D_X4_lookAtWave 23 rfl) rfl rfl ?_
        obtain ⟨v16, hc15, h⟩ := ob_some h
        refine AW.cV (n := 41) (as := [vI z1, vI z5, vI z10]) (st := [vI z10, vI z5, vI z1, vR 53]) (st' := [vL v16, vI z10, vI z5, vI z1, vR 53]) (uc' := 0) (us' := 0) (A_X4_worthOfWave hΓ hc15) cf_X4_worthOfWave ly_53 (le45 rfl) vc_4 (le45 rfl) wM_X4_74 (le45 rfl) (le45 rfl) (dat D_X4_lookAtWave 24 rfl) rfl rfl (le45 rfl) (le45 rfl) rfl (fun _ => ?_) nlt0
        obtain ⟨σ18, hc17, h⟩ := ob_some h
        refine AW.cV (n := 44) (as := [vI z1, vI z5, vI z10, vL v16]) (st := []) (st' := []) (uc' := 0) (us' := 0) (A_X4_write hΓ hc17) cf_X4_write ly_53 (le45 rfl) vc_4 (le45 rfl) wM_X4_34 (le45 rfl) (le45 rfl) (dat D_X4_lookAtWave 25 rfl) rfl rfl (le45 rfl) (le45 rfl) rfl (fun _ => ?_) nlt0
        refine AW.iincH h (n := 47) (dat D_X4_lookAtWave 26 rfl) rfl rfl (le45 rfl) rfl (fun x19 h => ?_)
        refine AW.lq (ls' := [some (vR 53), none, some (vI z1), some (vI z5), some (vI x19)]) rfl ?_
        refine AW.goto (t := 19) (dat D_X4_lookAtWave 27 rfl) rfl ?_
        cases h
        exact AW.to (hk12 _ rfl) (lle_s rfl (lle_n (lle_s rfl (lle_s rfl (lle_s rfl (lle_z))))))
