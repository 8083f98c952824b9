/-! ===== methods as functions, and their bytecode beside them (printed by wip/whole/gen/emit.py) ===== -/
def L_X12_ride : List (Nat × Instr × Nat) := [(0, .aload_n 0, 1), (1, .iconst 0, 1), (2, .putfield 105, 3), (5, .aload_n 0, 1), (6, .iload_n 1, 1), (7, .invokevirtual 435, 3), (10, .ifCond .ne 42, 3), (13, .aload_n 0, 1), (14, .iload_n 2, 1), (15, .iconst 0, 1), (16, .aload_n 0, 1), (17, .getfield 68, 3), (20, .iload_n 1, 1), (21, .iaload, 1), (22, .iconst 1, 1), (23, .isub, 1), (24, .invokestatic 164, 3), (27, .ifCond .eq 13, 3), (30, .iload_n 3, 1), (31, .iconst 0, 1), (32, .bipush 6, 2), (34, .invokestatic 164, 3), (37, .ifCond .ne 7, 3), (40, .iconst 1, 1), (41, .goto 4, 3), (44, .iconst 0, 1), (45, .iconst 2, 1), (46, .invokevirtual 230, 3), (49, .ifCond .eq 5, 3), (52, .iconst 0, 1), (53, .ireturn, 1), (54, .aload_n 0, 1), (55, .getfield 90, 3), (58, .bipush 7, 2), (60, .bipush 20, 2), (62, .iload_n 1, 1), (63, .imul, 1), (64, .iload_n 2, 1), (65, .iadd, 1), (66, .imul, 1), (67, .iload_n 3, 1), (68, .iadd, 1), (69, .iaload, 1), (70, .ireturn, 1)]
theorem D_X12_ride : dOK cX12_ride L_X12_ride = true := by decide +kernel
theorem cf_X12_ride : CFV mX12_ride 3 := ⟨wI_X12_ride, wS_X12_ride, wN_WaveRightModel, wC_X12_ride, rfl, ⟨by decide +kernel, by decide +kernel, by decide +kernel⟩, le45 rfl⟩
def X12_ride_j45 (n : Nat) (σ4 : SG) (a0 : Int) (a1 : Int) (a2 : Int) (y8 : Int) : Option (Int × SG) :=
  bnd2 (X12_throwsIf n y8 2 σ4) fun v11 σ12 =>
  if w32 v11 = 0 then
    rdA 700 ((7 * ((20 * a0) + a1)) + a2) fun j13 =>
    some (((σ12 79 j13), σ12))
  else
    some ((0, σ12))
def X12_ride (n : Nat) (a0 : Int) (a1 : Int) (a2 : Int) (σ : SG) : Option (Int × SG) :=
  lt (up σ 57 0 0) fun σ1 =>
  bnd2 (X12_noSurfer n a0 σ1) fun v3 σ4 =>
  if w32 v3 = 0 then
    rdA 5 a0 fun j5 =>
    (X12_in n a1 0 ((σ4 72 j5) - 1) σ4).bind fun v7 =>
    ((if w32 v7 = 0 then
      some (1)
    else
      (X12_in n a2 0 6 σ4).bind fun v15 =>
      if w32 v15 = 0 then
        some (1)
      else
        some (0)) : Option (Int)).bind (fun s => X12_ride_j45 n σ4 a0 a1 a2 s)
  else
    some ((0, σ4))
set_option maxHeartbeats 4000000 in
set_option maxRecDepth 100000 in
theorem A_X12_ride {Γ : GA} (hΓ : (gl Γ).stackTraces = false) {n : Nat} {a0 : Int} {a1 : Int} {a2 : Int} {σ : SG} {r : Int} {τ : SG}  (h : X12_ride n a0 a1 a2 σ = some (r, τ)) : AM Γ mX12_ride 3 0 0 [vR 57, vI a0, vI a1, vI a2] (85, σ) (0, r) (85, τ) := by
  refine AM.of pl_X12 rfl wC_X12_ride (le45 rfl) hΓ ?_
  refine AW.to (ls'' := [some (vR 57), some (vI a0), some (vI a1), some (vI a2)]) ?_ (lle_s rfl (lle_s rfl (lle_s rfl (lle_s rfl (lle_z)))))
  unfold X12_ride at h
  refine AW.aload_n (n := 1) (dat D_X12_ride 0 rfl) rfl rfl ?_
  refine AW.iconst (n := 2) (dat D_X12_ride 1 rfl) rfl ?_
  refine AW.putI (n := 5) fX12_0 wF_X12_105 ly_57 (le45 rfl) rfl rfl rfl (dat D_X12_ride 2 rfl) rfl ?_
  refine AW.ltS h (fun σ1 h => ?_)
  refine AW.aload_n (n := 6) (dat D_X12_ride 3 rfl) rfl rfl ?_
  refine AW.iload_n (n := 7) (dat D_X12_ride 4 rfl) rfl rfl ?_
  obtain ⟨v3, σ4, hc2, h⟩ := bnd2_some h
  refine AW.cV (n := 10) (as := [vI a0]) (st := []) (st' := [vI v3]) (uc' := 0) (us' := 0) (A_X12_noSurfer hΓ hc2) cf_X12_noSurfer ly_57 (le45 rfl) vc_12 (le45 rfl) wM_X12_435 (le45 rfl) (le45 rfl) (dat D_X12_ride 5 rfl) rfl rfl (le45 rfl) (le45 rfl) rfl (fun _ => ?_) nlt0
  refine AW.if_neH (t := 52) (n := 13) h (dat D_X12_ride 6 rfl) rfl rfl (fun h => ?_) (fun h => ?_)
  · refine AW.aload_n (n := 14) (dat D_X12_ride 7 rfl) rfl rfl ?_
    refine AW.iload_n (n := 15) (dat D_X12_ride 8 rfl) rfl rfl ?_
    refine AW.iconst (n := 16) (dat D_X12_ride 9 rfl) rfl ?_
    refine AW.aload_n (n := 17) (dat D_X12_ride 10 rfl) rfl rfl ?_
    refine AW.getR (n := 20) (t := 72) fX12_42 wF_X12_68 ly_57 (le45 rfl) rfl (dat D_X12_ride 11 rfl) rfl ?_
    refine AW.iload_n (n := 21) (dat D_X12_ride 12 rfl) rfl rfl ?_
    refine AW.ialdH h (n := 22) rfl ly_72 (le45 rfl) (dat D_X12_ride 13 rfl) rfl (fun j5 h => ?_)
    refine AW.iconst (n := 23) (dat D_X12_ride 14 rfl) rfl ?_
    refine AW.isub (n := 24) (dat D_X12_ride 15 rfl) rfl ?_
    obtain ⟨v7, hc6, h⟩ := ob_some h
    refine AW.cS (n := 27) (as := [vI a1, vI 0, vI ((σ4 72 j5) - 1)]) (st := [vR 57]) (st' := [vI v7, vR 57]) (uc' := 0) (us' := 0) (A_X12_in hΓ hc6) cf_X12_in rfl wM_X12_164 (le45 rfl) (le45 rfl) (dat D_X12_ride 16 rfl) rfl rfl (le45 rfl) (le45 rfl) rfl (fun _ => ?_) nlt0
    obtain ⟨s9, h, hq9⟩ := ob_some h
    obtain ⟨y8, e9⟩ : ∃ z, z = s9 := ⟨_, rfl⟩
    subst e9
    have hJ9 : AW Γ mX12_ride 3 (0, r) (85, τ) 0 0 45 [some (vR 57), some (vI a0), some (vI a1), some (vI a2)] [vI y8, vR 57] (85, σ4) := by
      have h : X12_ride_j45 n σ4 a0 a1 a2 y8 = some _ := hq9
      unfold X12_ride_j45 at h
      refine AW.iconst (n := 46) (dat D_X12_ride 26 rfl) rfl ?_
      obtain ⟨v11, σ12, hc10, h⟩ := bnd2_some h
      refine AW.cV (n := 49) (as := [vI y8, vI 2]) (st := []) (st' := [vI v11]) (uc' := 0) (us' := 0) (A_X12_throwsIf hΓ hc10) cf_X12_throwsIf ly_57 (le45 rfl) vc_12 (le45 rfl) wM_X12_230 (le45 rfl) (le45 rfl) (dat D_X12_ride 27 rfl) rfl rfl (le45 rfl) (le45 rfl) rfl (fun _ => ?_) nlt0
      refine AW.if_eqH (t := 54) (n := 52) h (dat D_X12_ride 28 rfl) rfl rfl (fun h => ?_) (fun h => ?_)
      · refine AW.aload_n (n := 55) (dat D_X12_ride 31 rfl) rfl rfl ?_
        refine AW.getR (n := 58) (t := 79) fX12_49 wF_X12_90 ly_57 (le45 rfl) rfl (dat D_X12_ride 32 rfl) rfl ?_
        refine AW.bipush (n := 60) (dat D_X12_ride 33 rfl) rfl (by decide) ?_
        refine AW.bipush (n := 62) (dat D_X12_ride 34 rfl) rfl (by decide) ?_
        refine AW.iload_n (n := 63) (dat D_X12_ride 35 rfl) rfl rfl ?_
        refine AW.imul (n := 64) (dat D_X12_ride 36 rfl) rfl ?_
        refine AW.iload_n (n := 65) (dat D_X12_ride 37 rfl) rfl rfl ?_
        refine AW.iadd (n := 66) (dat D_X12_ride 38 rfl) rfl ?_
        refine AW.imul (n := 67) (dat D_X12_ride 39 rfl) rfl ?_
        refine AW.iload_n (n := 68) (dat D_X12_ride 40 rfl) rfl rfl ?_
        refine AW.iadd (n := 69) (dat D_X12_ride 41 rfl) rfl ?_
        refine AW.ialdH h (n := 70) rfl ly_79 (le45 rfl) (dat D_X12_ride 42 rfl) rfl (fun j13 h => ?_)
        cases h
        exact AW.iret rfl rfl rfl (dat D_X12_ride 43 rfl)
      · refine AW.iconst (n := 53) (dat D_X12_ride 29 rfl) rfl ?_
        cases h
        exact AW.iret rfl rfl rfl (dat D_X12_ride 30 rfl)
    refine AW.if_eqH (t := 40) (n := 30) h (dat D_X12_ride 17 rfl) rfl rfl (fun h => ?_) (fun h => ?_)
    · refine AW.iconst (n := 41) (dat D_X12_ride 23 rfl) rfl ?_
      refine AW.goto (t := 45) (dat D_X12_ride 24 rfl) rfl ?_
      cases h
      exact AW.to hJ9 (lle_s rfl (lle_s rfl (lle_s rfl (lle_s rfl (lle_z)))))
    · refine AW.iload_n (n := 31) (dat D_X12_ride 18 rfl) rfl rfl ?_
      refine AW.iconst (n := 32) (dat D_X12_ride 19 rfl) rfl ?_
      refine AW.bipush (n := 34) (dat D_X12_ride 20 rfl) rfl (by decide) ?_
      obtain ⟨v15, hc14, h⟩ := ob_some h
      refine AW.cS (n := 37) (as := [vI a2, vI 0, vI 6]) (st := [vR 57]) (st' := [vI v15, vR 57]) (uc' := 0) (us' := 0) (A_X12_in hΓ hc14) cf_X12_in rfl wM_X12_164 (le45 rfl) (le45 rfl) (dat D_X12_ride 21 rfl) rfl rfl (le45 rfl) (le45 rfl) rfl (fun _ => ?_) nlt0
      refine AW.if_neH (t := 44) (n := 40) h (dat D_X12_ride 22 rfl) rfl rfl (fun h => ?_) (fun h => ?_)
      · refine AW.iconst (n := 41) (dat D_X12_ride 23 rfl) rfl ?_
        refine AW.goto (t := 45) (dat D_X12_ride 24 rfl) rfl ?_
        cases h
        exact AW.to hJ9 (lle_s rfl (lle_s rfl (lle_s rfl (lle_s rfl (lle_z)))))
      · refine AW.iconst (n := 45) (dat D_X12_ride 25 rfl) rfl ?_
        cases h
        exact AW.to hJ9 (lle_s rfl (lle_s rfl (lle_s rfl (lle_s rfl (lle_z)))))
  · refine AW.iconst (n := 53) (dat D_X12_ride 29 rfl) rfl ?_
    cases h
    exact AW.iret rfl rfl rfl (dat D_X12_ride 30 rfl)
def L_X12_would : List (Nat × Instr × Nat) := [(0, .aload_n 0, 1), (1, .iconst 0, 1), (2, .putfield 105, 3), (5, .aload_n 0, 1), (6, .iload_n 1, 1), (7, .invokevirtual 435, 3), (10, .ifCond .ne 77, 3), (13, .aload_n 0, 1), (14, .iload_n 2, 1), (15, .iconst 0, 1), (16, .aload_n 0, 1), (17, .getfield 21, 3), (20, .iconst 1, 1), (21, .iaload, 1), (22, .iconst 1, 1), (23, .isub, 1), (24, .invokestatic 164, 3), (27, .ifCond .ne 7, 3), (30, .iconst 1, 1), (31, .goto 4, 3), (34, .iconst 0, 1), (35, .iconst 1, 1), (36, .invokevirtual 230, 3), (39, .ifCond .ne 48, 3), (42, .aload_n 0, 1), (43, .iload_n 3, 1), (44, .iconst 0, 1), (45, .bipush 40, 2), (47, .invokestatic 164, 3), (50, .ifCond .eq 25, 3), (53, .iload 4, 2), (55, .iconst 1, 1), (56, .bipush 20, 2), (58, .invokestatic 164, 3), (61, .ifCond .eq 14, 3), (64, .iload 5, 2), (66, .iconst 0, 1), (67, .bipush 9, 2), (69, .invokestatic 164, 3), (72, .ifCond .ne 7, 3), (75, .iconst 1, 1), (76, .goto 4, 3), (79, .iconst 0, 1), (80, .iconst 2, 1), (81, .invokevirtual 230, 3), (84, .ifCond .eq 5, 3), (87, .iconst 0, 1), (88, .ireturn, 1), (89, .aload_n 0, 1), (90, .iload_n 1, 1), (91, .iload_n 2, 1), (92, .iload_n 3, 1), (93, .iload 4, 2), (95, .iload 5, 2), (97, .invokevirtual 409, 3), (100, .istore 6, 2), (102, .aload_n 0, 1), (103, .getfield 304, 3), (106, .ifCond .le 11, 3), (109, .aload_n 0, 1), (110, .getfield 304, 3), (113, .ineg, 1), (114, .goto 5, 3), (117, .iload 6, 2), (119, .ireturn, 1)]
theorem D_X12_would : dOK cX12_would L_X12_would = true := by decide +kernel
theorem cf_X12_would : CFV mX12_would 5 := ⟨wI_X12_would, wS_X12_would, wN_WaveRightModel, wC_X12_would, rfl, ⟨by decide +kernel, by decide +kernel, by decide +kernel⟩, le45 rfl⟩
def X12_would_j80 (n : Nat) (σ12 : SG) (a0 : Int) (a1 : Int) (a2 : Int) (a3 : Int) (a4 : Int) (y15 : Int) : Option (Int × SG) :=
  bnd2 (X12_throwsIf n y15 2 σ12) fun v18 σ19 =>
  if w32 v18 = 0 then
    bnd2 (X12_scoreBy n a0 a1 a2 a3 a4 σ19) fun v21 σ22 =>
    if w32 (σ22 57 23) ≤ 0 then
      some ((v21, σ22))
    else
      some (((-(σ22 57 23)), σ22))
  else
    some ((0, σ19))
def X12_would_j35 (n : Nat) (σ4 : SG) (a2 : Int) (a3 : Int) (a4 : Int) (a0 : Int) (a1 : Int) (y8 : Int) : Option (Int × SG) :=
  bnd2 (X12_throwsIf n y8 1 σ4) fun v11 σ12 =>
  if w32 v11 = 0 then
    (X12_in n a2 0 40 σ12).bind fun v14 =>
    ((if w32 v14 = 0 then
      some (1)
    else
      (X12_in n a3 1 20 σ12).bind fun v24 =>
      if w32 v24 = 0 then
        some (1)
      else
        (X12_in n a4 0 9 σ12).bind fun v26 =>
        if w32 v26 = 0 then
          some (1)
        else
          some (0)) : Option (Int)).bind (fun s => X12_would_j80 n σ12 a0 a1 a2 a3 a4 s)
  else
    some ((0, σ12))
def X12_would (n : Nat) (a0 : Int) (a1 : Int) (a2 : Int) (a3 : Int) (a4 : Int) (σ : SG) : Option (Int × SG) :=
  lt (up σ 57 0 0) fun σ1 =>
  bnd2 (X12_noSurfer n a0 σ1) fun v3 σ4 =>
  if w32 v3 = 0 then
    rdA 144 1 fun j5 =>
    (X12_in n a1 0 ((σ4 60 j5) - 1) σ4).bind fun v7 =>
    ((if w32 v7 = 0 then
      some (1)
    else
      some (0)) : Option (Int)).bind (fun s => X12_would_j35 n σ4 a2 a3 a4 a0 a1 s)
  else
    some ((0, σ4))
set_option maxHeartbeats 4000000 in
set_option maxRecDepth 100000 in
theorem A_X12_would {Γ : GA} (hΓ : (gl Γ).stackTraces = false) {n : Nat} {a0 : Int} {a1 : Int} {a2 : Int} {a3 : Int} {a4 : Int} {σ : SG} {r : Int} {τ : SG}  (h : X12_would n a0 a1 a2 a3 a4 σ = some (r, τ)) : AM Γ mX12_would 6 0 0 [vR 57, vI a0, vI a1, vI a2, vI a3, vI a4] (85, σ) (0, r) (85, τ) := by
  refine AM.of pl_X12 rfl wC_X12_would (le45 rfl) hΓ ?_
  refine AW.to (ls'' := [some (vR 57), some (vI a0), some (vI a1), some (vI a2), some (vI a3), some (vI a4), none]) ?_ (lle_s rfl (lle_s rfl (lle_s rfl (lle_s rfl (lle_s rfl (lle_s rfl (lle_e (lle_z))))))))
  unfold X12_would at h
  refine AW.aload_n (n := 1) (dat D_X12_would 0 rfl) rfl rfl ?_
  refine AW.iconst (n := 2) (dat D_X12_would 1 rfl) rfl ?_
  refine AW.putI (n := 5) fX12_0 wF_X12_105 ly_57 (le45 rfl) rfl rfl rfl (dat D_X12_would 2 rfl) rfl ?_
  refine AW.ltS h (fun σ1 h => ?_)
  refine AW.aload_n (n := 6) (dat D_X12_would 3 rfl) rfl rfl ?_
  refine AW.iload_n (n := 7) (dat D_X12_would 4 rfl) rfl rfl ?_
  obtain ⟨v3, σ4, hc2, h⟩ := bnd2_some h
  refine AW.cV (n := 10) (as := [vI a0]) (st := []) (st' := [vI v3]) (uc' := 0) (us' := 0) (A_X12_noSurfer hΓ hc2) cf_X12_noSurfer ly_57 (le45 rfl) vc_12 (le45 rfl) wM_X12_435 (le45 rfl) (le45 rfl) (dat D_X12_would 5 rfl) rfl rfl (le45 rfl) (le45 rfl) rfl (fun _ => ?_) nlt0
  refine AW.if_neH (t := 87) (n := 13) h (dat D_X12_would 6 rfl) rfl rfl (fun h => ?_) (fun h => ?_)
  · refine AW.aload_n (n := 14) (dat D_X12_would 7 rfl) rfl rfl ?_
    refine AW.iload_n (n := 15) (dat D_X12_would 8 rfl) rfl rfl ?_
    refine AW.iconst (n := 16) (dat D_X12_would 9 rfl) rfl ?_
    refine AW.aload_n (n := 17) (dat D_X12_would 10 rfl) rfl rfl ?_
    refine AW.getR (n := 20) (t := 60) fX12_9 wF_X12_21 ly_57 (le45 rfl) rfl (dat D_X12_would 11 rfl) rfl ?_
    refine AW.iconst (n := 21) (dat D_X12_would 12 rfl) rfl ?_
    refine AW.ialdH h (n := 22) rfl ly_60 (le45 rfl) (dat D_X12_would 13 rfl) rfl (fun j5 h => ?_)
    refine AW.iconst (n := 23) (dat D_X12_would 14 rfl) rfl ?_
    refine AW.isub (n := 24) (dat D_X12_would 15 rfl) rfl ?_
    obtain ⟨v7, hc6, h⟩ := ob_some h
    refine AW.cS (n := 27) (as := [vI a1, vI 0, vI ((σ4 60 j5) - 1)]) (st := [vR 57]) (st' := [vI v7, vR 57]) (uc' := 0) (us' := 0) (A_X12_in hΓ hc6) cf_X12_in rfl wM_X12_164 (le45 rfl) (le45 rfl) (dat D_X12_would 16 rfl) rfl rfl (le45 rfl) (le45 rfl) rfl (fun _ => ?_) nlt0
    obtain ⟨s9, h, hq9⟩ := ob_some h
    obtain ⟨y8, e9⟩ : ∃ z, z = s9 := ⟨_, rfl⟩
    subst e9
    have hJ9 : AW Γ mX12_would 6 (0, r) (85, τ) 0 0 35 [some (vR 57), some (vI a0), some (vI a1), some (vI a2), some (vI a3), some (vI a4), none] [vI y8, vR 57] (85, σ4) := by
      have h : X12_would_j35 n σ4 a2 a3 a4 a0 a1 y8 = some _ := hq9
      unfold X12_would_j35 at h
      refine AW.iconst (n := 36) (dat D_X12_would 21 rfl) rfl ?_
      obtain ⟨v11, σ12, hc10, h⟩ := bnd2_some h
      refine AW.cV (n := 39) (as := [vI y8, vI 1]) (st := []) (st' := [vI v11]) (uc' := 0) (us' := 0) (A_X12_throwsIf hΓ hc10) cf_X12_throwsIf ly_57 (le45 rfl) vc_12 (le45 rfl) wM_X12_230 (le45 rfl) (le45 rfl) (dat D_X12_would 22 rfl) rfl rfl (le45 rfl) (le45 rfl) rfl (fun _ => ?_) nlt0
      refine AW.if_neH (t := 87) (n := 42) h (dat D_X12_would 23 rfl) rfl rfl (fun h => ?_) (fun h => ?_)
      · refine AW.aload_n (n := 43) (dat D_X12_would 24 rfl) rfl rfl ?_
        refine AW.iload_n (n := 44) (dat D_X12_would 25 rfl) rfl rfl ?_
        refine AW.iconst (n := 45) (dat D_X12_would 26 rfl) rfl ?_
        refine AW.bipush (n := 47) (dat D_X12_would 27 rfl) rfl (by decide) ?_
        obtain ⟨v14, hc13, h⟩ := ob_some h
        refine AW.cS (n := 50) (as := [vI a2, vI 0, vI 40]) (st := [vR 57]) (st' := [vI v14, vR 57]) (uc' := 0) (us' := 0) (A_X12_in hΓ hc13) cf_X12_in rfl wM_X12_164 (le45 rfl) (le45 rfl) (dat D_X12_would 28 rfl) rfl rfl (le45 rfl) (le45 rfl) rfl (fun _ => ?_) nlt0
        obtain ⟨s16, h, hq16⟩ := ob_some h
        obtain ⟨y15, e16⟩ : ∃ z, z = s16 := ⟨_, rfl⟩
        subst e16
        have hJ16 : AW Γ mX12_would 6 (0, r) (85, τ) 0 0 80 [some (vR 57), some (vI a0), some (vI a1), some (vI a2), some (vI a3), some (vI a4), none] [vI y15, vR 57] (85, σ12) := by
          have h : X12_would_j80 n σ12 a0 a1 a2 a3 a4 y15 = some _ := hq16
          unfold X12_would_j80 at h
          refine AW.iconst (n := 81) (dat D_X12_would 43 rfl) rfl ?_
          obtain ⟨v18, σ19, hc17, h⟩ := bnd2_some h
          refine AW.cV (n := 84) (as := [vI y15, vI 2]) (st := []) (st' := [vI v18]) (uc' := 0) (us' := 0) (A_X12_throwsIf hΓ hc17) cf_X12_throwsIf ly_57 (le45 rfl) vc_12 (le45 rfl) wM_X12_230 (le45 rfl) (le45 rfl) (dat D_X12_would 44 rfl) rfl rfl (le45 rfl) (le45 rfl) rfl (fun _ => ?_) nlt0
          refine AW.if_eqH (t := 89) (n := 87) h (dat D_X12_would 45 rfl) rfl rfl (fun h => ?_) (fun h => ?_)
          · refine AW.aload_n (n := 90) (dat D_X12_would 48 rfl) rfl rfl ?_
            refine AW.iload_n (n := 91) (dat D_X12_would 49 rfl) rfl rfl ?_
            refine AW.iload_n (n := 92) (dat D_X12_would 50 rfl) rfl rfl ?_
            refine AW.iload_n (n := 93) (dat D_X12_would 51 rfl) rfl rfl ?_
            refine AW.iload (n := 95) (dat D_X12_would 52 rfl) rfl rfl ?_
            refine AW.iload (n := 97) (dat D_X12_would 53 rfl) rfl rfl ?_
            obtain ⟨v21, σ22, hc20, h⟩ := bnd2_some h
            refine AW.cV (n := 100) (as := [vI a0, vI a1, vI a2, vI a3, vI a4]) (st := []) (st' := [vI v21]) (uc' := 0) (us' := 0) (A_X12_scoreBy hΓ hc20) cf_X12_scoreBy ly_57 (le45 rfl) vc_12 (le45 rfl) wM_X12_409 (le45 rfl) (le45 rfl) (dat D_X12_would 54 rfl) rfl rfl (le45 rfl) (le45 rfl) rfl (fun _ => ?_) nlt0
            refine AW.istore (n := 102) (ls' := [some (vR 57), some (vI a0), some (vI a1), some (vI a2), some (vI a3), some (vI a4), some (vI v21)]) (dat D_X12_would 55 rfl) rfl (le45 rfl) (le45 rfl) rfl rfl ?_
            refine AW.aload_n (n := 103) (dat D_X12_would 56 rfl) rfl rfl ?_
            refine AW.getI (n := 106) fX12_23 wF_X12_304 ly_57 (le45 rfl) rfl rfl (dat D_X12_would 57 rfl) rfl ?_
            refine AW.if_leH (t := 117) (n := 109) h (dat D_X12_would 58 rfl) rfl rfl (fun h => ?_) (fun h => ?_)
            · refine AW.iload (n := 119) (dat D_X12_would 63 rfl) rfl rfl ?_
              cases h
              exact AW.iret rfl rfl rfl (dat D_X12_would 64 rfl)
            · refine AW.aload_n (n := 110) (dat D_X12_would 59 rfl) rfl rfl ?_
              refine AW.getI (n := 113) fX12_23 wF_X12_304 ly_57 (le45 rfl) rfl rfl (dat D_X12_would 60 rfl) rfl ?_
              refine AW.ineg (n := 114) (dat D_X12_would 61 rfl) rfl ?_
              refine AW.goto (t := 119) (dat D_X12_would 62 rfl) rfl ?_
              cases h
              exact AW.iret rfl rfl rfl (dat D_X12_would 64 rfl)
          · refine AW.iconst (n := 88) (dat D_X12_would 46 rfl) rfl ?_
            cases h
            exact AW.iret rfl rfl rfl (dat D_X12_would 47 rfl)
        refine AW.if_eqH (t := 75) (n := 53) h (dat D_X12_would 29 rfl) rfl rfl (fun h => ?_) (fun h => ?_)
        · refine AW.iconst (n := 76) (dat D_X12_would 40 rfl) rfl ?_
          refine AW.goto (t := 80) (dat D_X12_would 41 rfl) rfl ?_
          cases h
          exact AW.to hJ16 (lle_s rfl (lle_s rfl (lle_s rfl (lle_s rfl (lle_s rfl (lle_s rfl (lle_n (lle_z))))))))
        · refine AW.iload (n := 55) (dat D_X12_would 30 rfl) rfl rfl ?_
          refine AW.iconst (n := 56) (dat D_X12_would 31 rfl) rfl ?_
          refine AW.bipush (n := 58) (dat D_X12_would 32 rfl) rfl (by decide) ?_
          obtain ⟨v24, hc23, h⟩ := ob_some h
          refine AW.cS (n := 61) (as := [vI a3, vI 1, vI 20]) (st := [vR 57]) (st' := [vI v24, vR 57]) (uc' := 0) (us' := 0) (A_X12_in hΓ hc23) cf_X12_in rfl wM_X12_164 (le45 rfl) (le45 rfl) (dat D_X12_would 33 rfl) rfl rfl (le45 rfl) (le45 rfl) rfl (fun _ => ?_) nlt0
          refine AW.if_eqH (t := 75) (n := 64) h (dat D_X12_would 34 rfl) rfl rfl (fun h => ?_) (fun h => ?_)
          · refine AW.iconst (n := 76) (dat D_X12_would 40 rfl) rfl ?_
            refine AW.goto (t := 80) (dat D_X12_would 41 rfl) rfl ?_
            cases h
            exact AW.to hJ16 (lle_s rfl (lle_s rfl (lle_s rfl (lle_s rfl (lle_s rfl (lle_s rfl (lle_n (lle_z))))))))
          · refine AW.iload (n := 66) (dat D_X12_would 35 rfl) rfl rfl ?_
            refine AW.iconst (n := 67) (dat D_X12_would 36 rfl) rfl ?_
            refine AW.bipush (n := 69) (dat D_X12_would 37 rfl) rfl (by decide) ?_
            obtain ⟨v26, hc25, h⟩ := ob_some h
            refine AW.cS (n := 72) (as := [vI a4, vI 0, vI 9]) (st := [vR 57]) (st' := [vI v26, vR 57]) (uc' := 0) (us' := 0) (A_X12_in hΓ hc25) cf_X12_in rfl wM_X12_164 (le45 rfl) (le45 rfl) (dat D_X12_would 38 rfl) rfl rfl (le45 rfl) (le45 rfl) rfl (fun _ => ?_) nlt0
            refine AW.if_neH (t := 79) (n := 75) h (dat D_X12_would 39 rfl) rfl rfl (fun h => ?_) (fun h => ?_)
            · refine AW.iconst (n := 76) (dat D_X12_would 40 rfl) rfl ?_
              refine AW.goto (t := 80) (dat D_X12_would 41 rfl) rfl ?_
              cases h
              exact AW.to hJ16 (lle_s rfl (lle_s rfl (lle_s rfl (lle_s rfl (lle_s rfl (lle_s rfl (lle_n (lle_z))))))))
            · refine AW.iconst (n := 80) (dat D_X12_would 42 rfl) rfl ?_
              cases h
              exact AW.to hJ16 (lle_s rfl (lle_s rfl (lle_s rfl (lle_s rfl (lle_s rfl (lle_s rfl (lle_n (lle_z))))))))
      · refine AW.iconst (n := 88) (dat D_X12_would 46 rfl) rfl ?_
        cases h
        exact AW.iret rfl rfl rfl (dat D_X12_would 47 rfl)
    refine AW.if_neH (t := 34) (n := 30) h (dat D_X12_would 17 rfl) rfl rfl (fun h => ?_) (fun h => ?_)
    · refine AW.iconst (n := 31) (dat D_X12_would 18 rfl) rfl ?_
      refine AW.goto (t := 35) (dat D_X12_would 19 rfl) rfl ?_
      cases h
      exact AW.to hJ9 (lle_s rfl (lle_s rfl (lle_s rfl (lle_s rfl (lle_s rfl (lle_s rfl (lle_n (lle_z))))))))
    · refine AW.iconst (n := 35) (dat D_X12_would 20 rfl) rfl ?_
      cases h
      exact AW.to hJ9 (lle_s rfl (lle_s rfl (lle_s rfl (lle_s rfl (lle_s rfl (lle_s rfl (lle_n (lle_z))))))))
  · refine AW.iconst (n := 88) (dat D_X12_would 46 rfl) rfl ?_
    cases h
    exact AW.iret rfl rfl rfl (dat D_X12_would 47 rfl)
def L_X12_ranked : List (Nat × Instr × Nat) := [(0, .aload_n 0, 1), (1, .iconst 0, 1), (2, .putfield 105, 3), (5, .iconst 0, 1), (6, .istore_n 2, 1), (7, .iload_n 2, 1), (8, .aload_n 0, 1), (9, .invokevirtual 378, 3), (12, .if_icmp .ge 20, 3), (15, .aload_n 0, 1), (16, .iload_n 2, 1), (17, .invokevirtual 438, 3), (20, .iload_n 1, 1), (21, .if_icmp .ne 5, 3), (24, .iload_n 2, 1), (25, .ireturn, 1), (26, .iinc 2 1, 3), (29, .goto (-22), 3), (32, .aload_n 0, 1), (33, .iconst 1, 1), (34, .putfield 105, 3), (37, .iconst 0, 1), (38, .ireturn, 1)]
theorem D_X12_ranked : dOK cX12_ranked L_X12_ranked = true := by decide +kernel
theorem cf_X12_ranked : CFV mX12_ranked 1 := ⟨wI_X12_ranked, wS_X12_ranked, wN_WaveRightModel, wC_X12_ranked, rfl, ⟨by decide +kernel, by decide +kernel, by decide +kernel⟩, le45 rfl⟩
def X12_ranked_e7 (n : Nat) (σ1 : SG) : Option (Int × SG) :=
  lt (up σ1 57 0 1) fun σ4 =>
  some ((0, σ4))
def X12_ranked_l7 (n : Nat) (σ1 : SG) (a0 : Int) (z2 : Int) : Option ((Int) ⊕ ((Unit) ⊕ (Int × SG))) :=
  (X12_surfers n σ1).bind fun v6 =>
  if w32 v6 ≤ w32 z2 then
    some (.inr (.inl ()))
  else
    (X12_rankNow n z2 σ1).bind fun v8 =>
    if w32 v8 = w32 a0 then
      some (.inr (.inr (z2, σ1)))
    else
      lt (z2 + 1) fun x9 =>
      some (.inl x9)
def X12_ranked (n : Nat) (a0 : Int) (σ : SG) : Option (Int × SG) :=
  lt (up σ 57 0 0) fun σ1 =>
  ((iter n (fun s : Int => X12_ranked_l7 n σ1 a0 s) 0) : Option ((Unit) ⊕ (Int × SG))).bind (orr (fun s => X12_ranked_e7 n σ1))
set_option maxHeartbeats 4000000 in
set_option maxRecDepth 100000 in
theorem A_X12_ranked {Γ : GA} (hΓ : (gl Γ).stackTraces = false) {n : Nat} {a0 : Int} {σ : SG} {r : Int} {τ : SG}  (h : X12_ranked n a0 σ = some (r, τ)) : AM Γ mX12_ranked 6 0 0 [vR 57, vI a0] (85, σ) (0, r) (85, τ) := by
  refine AM.of pl_X12 rfl wC_X12_ranked (le45 rfl) hΓ ?_
  refine AW.to (ls'' := [some (vR 57), some (vI a0), none]) ?_ (lle_s rfl (lle_s rfl (lle_e (lle_z))))
  unfold X12_ranked at h
  refine AW.aload_n (n := 1) (dat D_X12_ranked 0 rfl) rfl rfl ?_
  refine AW.iconst (n := 2) (dat D_X12_ranked 1 rfl) rfl ?_
  refine AW.putI (n := 5) fX12_0 wF_X12_105 ly_57 (le45 rfl) rfl rfl rfl (dat D_X12_ranked 2 rfl) rfl ?_
  refine AW.ltS h (fun σ1 h => ?_)
  refine AW.iconst (n := 6) (dat D_X12_ranked 3 rfl) rfl ?_
  refine AW.istore_n (n := 7) (ls' := [some (vR 57), some (vI a0), some (vI 0)]) (dat D_X12_ranked 4 rfl) rfl (le45 rfl) (le45 rfl) rfl rfl ?_
  obtain ⟨b3, hi3, hq3⟩ := ob_some h
  have hR3 : ∀ (_ : Unit), b3 = .inl () → AW Γ mX12_ranked 6 (0, r) (85, τ) 0 0 32 [some (vR 57), none, none] [] (85, σ1) := by
    intro _ e
    subst e
    have h : X12_ranked_e7 n σ1 = some _ := hq3
    unfold X12_ranked_e7 at h
    refine AW.aload_n (n := 33) (dat D_X12_ranked 18 rfl) rfl rfl ?_
    refine AW.iconst (n := 34) (dat D_X12_ranked 19 rfl) rfl ?_
    refine AW.putI (n := 37) fX12_0 wF_X12_105 ly_57 (le45 rfl) rfl rfl rfl (dat D_X12_ranked 20 rfl) rfl ?_
    refine AW.ltS h (fun σ4 h => ?_)
    refine AW.iconst (n := 38) (dat D_X12_ranked 21 rfl) rfl ?_
    cases h
    exact AW.iret rfl rfl rfl (dat D_X12_ranked 22 rfl)
  refine AW.to (ls'' := [some (vR 57), some (vI a0), some (vI 0)]) ?_ (lle_s rfl (lle_s rfl (lle_s rfl (lle_z))))
  refine aw_iter (fun s : Int => AW Γ mX12_ranked 6 (0, r) (85, τ) 0 0 7 [some (vR 57), some (vI a0), some (vI s)] [] (85, σ1)) (fun s y h hk3 hb3 => ?_) _ _ hi3
  obtain ⟨z2, e3⟩ : ∃ z, z = s := ⟨_, rfl⟩
  subst e3
  show AW Γ mX12_ranked 6 (0, r) (85, τ) 0 0 7 [some (vR 57), some (vI a0), some (vI z2)] [] (85, σ1)
  have h : X12_ranked_l7 n σ1 a0 z2 = some y := h
  unfold X12_ranked_l7 at h
  refine AW.iload_n (n := 8) (dat D_X12_ranked 5 rfl) rfl rfl ?_
  refine AW.aload_n (n := 9) (dat D_X12_ranked 6 rfl) rfl rfl ?_
  obtain ⟨v6, hc5, h⟩ := ob_some h
  refine AW.cV (n := 12) (as := []) (st := [vI z2]) (st' := [vI v6, vI z2]) (uc' := 0) (us' := 0) (A_X12_surfers hΓ hc5) cf_X12_surfers ly_57 (le45 rfl) vc_12 (le45 rfl) wM_X12_378 (le45 rfl) (le45 rfl) (dat D_X12_ranked 7 rfl) rfl rfl (le45 rfl) (le45 rfl) rfl (fun _ => ?_) nlt0
  refine AW.icmp_geH (t := 32) (n := 15) h (dat D_X12_ranked 8 rfl) rfl rfl rfl rfl (fun h => ?_) (fun h => ?_)
  · cases h
    have hb := hb3 _ rfl
    exact AW.to (hR3 () hb.symm) (lle_s rfl (lle_n (lle_n (lle_z))))
  · refine AW.aload_n (n := 16) (dat D_X12_ranked 9 rfl) rfl rfl ?_
    refine AW.iload_n (n := 17) (dat D_X12_ranked 10 rfl) rfl rfl ?_
    obtain ⟨v8, hc7, h⟩ := ob_some h
    refine AW.cV (n := 20) (as := [vI z2]) (st := []) (st' := [vI v8]) (uc' := 0) (us' := 0) (A_X12_rankNow hΓ hc7) cf_X12_rankNow ly_57 (le45 rfl) vc_12 (le45 rfl) wM_X12_438 (le45 rfl) (le45 rfl) (dat D_X12_ranked 11 rfl) rfl rfl (le45 rfl) (le45 rfl) rfl (fun _ => ?_) nlt0
    refine AW.iload_n (n := 21) (dat D_X12_ranked 12 rfl) rfl rfl ?_
    refine AW.icmp_neH (t := 26) (n := 24) h (dat D_X12_ranked 13 rfl) rfl rfl rfl rfl (fun h => ?_) (fun h => ?_)
    · refine AW.iload_n (n := 25) (dat D_X12_ranked 14 rfl) rfl rfl ?_
      cases h
      have hb := hb3 _ rfl
      subst hb
      have h := hq3
      have h : some _ = some _ := h
      cases h
      exact AW.iret rfl rfl rfl (dat D_X12_ranked 15 rfl)
    · refine AW.iincH h (n := 29) (dat D_X12_ranked 16 rfl) rfl rfl (le45 rfl) rfl (fun x9 h => ?_)
      refine AW.lq (ls' := [some (vR 57), some (vI a0), some (vI x9)]) rfl ?_
      refine AW.goto (t := 7) (dat D_X12_ranked 17 rfl) rfl ?_
      cases h
      exact AW.to (hk3 _ rfl) (lle_s rfl (lle_s rfl (lle_s rfl (lle_z))))
def L_X12_totalWith : List (Nat × Instr × Nat) := [(0, .aload_n 0, 1), (1, .iload_n 1, 1), (2, .iconst 0, 1), (3, .invokevirtual 343, 3), (6, .istore_n 3, 1), (7, .aload_n 0, 1), (8, .iload_n 1, 1), (9, .iconst 1, 1), (10, .invokevirtual 343, 3), (13, .istore 4, 2), (15, .iload_n 3, 1), (16, .iload_n 2, 1), (17, .invokestatic 427, 3), (20, .istore 5, 2), (22, .iload 4, 2), (24, .iload_n 3, 1), (25, .iload_n 2, 1), (26, .invokestatic 315, 3), (29, .invokestatic 427, 3), (32, .istore 6, 2), (34, .iload 5, 2), (36, .aload_n 0, 1), (37, .getfield 65, 3), (40, .iload_n 1, 1), (41, .iaload, 1), (42, .ifCond .le 7, 3), (45, .iconst 0, 1), (46, .goto 5, 3), (49, .iload 6, 2), (51, .iadd, 1), (52, .ireturn, 1)]
theorem D_X12_totalWith : dOK cX12_totalWith L_X12_totalWith = true := by decide +kernel
theorem cf_X12_totalWith : CFV mX12_totalWith 2 := ⟨wI_X12_totalWith, wS_X12_totalWith, wN_WaveRightModel, wC_X12_totalWith, rfl, ⟨by decide +kernel, by decide +kernel, by decide +kernel⟩, le45 rfl⟩
def X12_totalWith (n : Nat) (a0 : Int) (a1 : Int) (σ : SG) : Option (Int) :=
  (X12_bestOf n a0 0 σ).bind fun v2 =>
  (X12_bestOf n a0 1 σ).bind fun v4 =>
  lt (mx32 v2 a1) fun x5 =>
  lt (mx32 v4 (mn32 v2 a1)) fun x6 =>
  rdA 5 a0 fun j7 =>
  if w32 (σ 71 j7) ≤ 0 then
    some ((x5 + x6))
  else
    some ((x5 + 0))
set_option maxHeartbeats 4000000 in
set_option maxRecDepth 100000 in
theorem A_X12_totalWith {Γ : GA} (hΓ : (gl Γ).stackTraces = false) {n : Nat} {a0 : Int} {a1 : Int} {σ : SG} {r : Int}  (h : X12_totalWith n a0 a1 σ = some r) : AM Γ mX12_totalWith 3 0 0 [vR 57, vI a0, vI a1] (85, σ) (0, r) (85, σ) := by
  refine AM.of pl_X12 rfl wC_X12_totalWith (le45 rfl) hΓ ?_
  refine AW.to (ls'' := [some (vR 57), some (vI a0), some (vI a1), none, none, none, none]) ?_ (lle_s rfl (lle_s rfl (lle_s rfl (lle_e (lle_e (lle_e (lle_e (lle_z))))))))
  unfold X12_totalWith at h
  refine AW.aload_n (n := 1) (dat D_X12_totalWith 0 rfl) rfl rfl ?_
  refine AW.iload_n (n := 2) (dat D_X12_totalWith 1 rfl) rfl rfl ?_
  refine AW.iconst (n := 3) (dat D_X12_totalWith 2 rfl) rfl ?_
  obtain ⟨v2, hc1, h⟩ := ob_some h
  refine AW.cV (n := 6) (as := [vI a0, vI 0]) (st := []) (st' := [vI v2]) (uc' := 0) (us' := 0) (A_X12_bestOf hΓ hc1) cf_X12_bestOf ly_57 (le45 rfl) vc_12 (le45 rfl) wM_X12_343 (le45 rfl) (le45 rfl) (dat D_X12_totalWith 3 rfl) rfl rfl (le45 rfl) (le45 rfl) rfl (fun _ => ?_) nlt0
  refine AW.istore_n (n := 7) (ls' := [some (vR 57), some (vI a0), some (vI a1), some (vI v2), none, none, none]) (dat D_X12_totalWith 4 rfl) rfl (le45 rfl) (le45 rfl) rfl rfl ?_
  refine AW.aload_n (n := 8) (dat D_X12_totalWith 5 rfl) rfl rfl ?_
  refine AW.iload_n (n := 9) (dat D_X12_totalWith 6 rfl) rfl rfl ?_
  refine AW.iconst (n := 10) (dat D_X12_totalWith 7 rfl) rfl ?_
  obtain ⟨v4, hc3, h⟩ := ob_some h
  refine AW.cV (n := 13) (as := [vI a0, vI 1]) (st := []) (st' := [vI v4]) (uc' := 0) (us' := 0) (A_X12_bestOf hΓ hc3) cf_X12_bestOf ly_57 (le45 rfl) vc_12 (le45 rfl) wM_X12_343 (le45 rfl) (le45 rfl) (dat D_X12_totalWith 8 rfl) rfl rfl (le45 rfl) (le45 rfl) rfl (fun _ => ?_) nlt0
  refine AW.istore (n := 15) (ls' := [some (vR 57), some (vI a0), some (vI a1), some (vI v2), some (vI v4), none, none]) (dat D_X12_totalWith 9 rfl) rfl (le45 rfl) (le45 rfl) rfl rfl ?_
  refine AW.iload_n (n := 16) (dat D_X12_totalWith 10 rfl) rfl rfl ?_
  refine AW.iload_n (n := 17) (dat D_X12_totalWith 11 rfl) rfl rfl ?_
  refine AW.mmax (n := 20) wM_X12_427 (le45 rfl) (le45 rfl) (dat D_X12_totalWith 12 rfl) rfl ?_
  refine AW.ltI h (fun x5 h => ?_)
  refine AW.istore (n := 22) (ls' := [some (vR 57), some (vI a0), some (vI a1), some (vI v2), some (vI v4), some (vI x5), none]) (dat D_X12_totalWith 13 rfl) rfl (le45 rfl) (le45 rfl) rfl rfl ?_
  refine AW.iload (n := 24) (dat D_X12_totalWith 14 rfl) rfl rfl ?_
  refine AW.iload_n (n := 25) (dat D_X12_totalWith 15 rfl) rfl rfl ?_
  refine AW.iload_n (n := 26) (dat D_X12_totalWith 16 rfl) rfl rfl ?_
  refine AW.mmin (n := 29) wM_X12_315 (le45 rfl) (le45 rfl) (dat D_X12_totalWith 17 rfl) rfl ?_
  refine AW.mmax (n := 32) wM_X12_427 (le45 rfl) (le45 rfl) (dat D_X12_totalWith 18 rfl) rfl ?_
  refine AW.ltI h (fun x6 h => ?_)
  refine AW.istore (n := 34) (ls' := [some (vR 57), some (vI a0), some (vI a1), some (vI v2), some (vI v4), some (vI x5), some (vI x6)]) (dat D_X12_totalWith 19 rfl) rfl (le45 rfl) (le45 rfl) rfl rfl ?_
  refine AW.iload (n := 36) (dat D_X12_totalWith 20 rfl) rfl rfl ?_
  refine AW.aload_n (n := 37) (dat D_X12_totalWith 21 rfl) rfl rfl ?_
  refine AW.getR (n := 40) (t := 71) fX12_41 wF_X12_65 ly_57 (le45 rfl) rfl (dat D_X12_totalWith 22 rfl) rfl ?_
  refine AW.iload_n (n := 41) (dat D_X12_totalWith 23 rfl) rfl rfl ?_
  refine AW.ialdH h (n := 42) rfl ly_71 (le45 rfl) (dat D_X12_totalWith 24 rfl) rfl (fun j7 h => ?_)
  refine AW.if_leH (t := 49) (n := 45) h (dat D_X12_totalWith 25 rfl) rfl rfl (fun h => ?_) (fun h => ?_)
  · refine AW.iload (n := 51) (dat D_X12_totalWith 28 rfl) rfl rfl ?_
    refine AW.iadd (n := 52) (dat D_X12_totalWith 29 rfl) rfl ?_
    cases h
    exact AW.iret rfl rfl rfl (dat D_X12_totalWith 30 rfl)
  · refine AW.iconst (n := 46) (dat D_X12_totalWith 26 rfl) rfl ?_
    refine AW.goto (t := 51) (dat D_X12_totalWith 27 rfl) rfl ?_
    refine AW.iadd (n := 52) (dat D_X12_totalWith 29 rfl) rfl ?_
    cases h
    exact AW.iret rfl rfl rfl (dat D_X12_totalWith 30 rfl)
def L_X12_need : List (Nat × Instr × Nat) := [(0, .aload_n 0, 1), (1, .iconst 0, 1), (2, .putfield 105, 3), (5, .aload_n 0, 1), (6, .iload_n 1, 1), (7, .invokevirtual 435, 3), (10, .ifCond .eq 5, 3), (13, .iconst 0, 1), (14, .ireturn, 1), (15, .iconst 0, 1), (16, .istore_n 2, 1), (17, .iload_n 2, 1), (18, .bipush 100, 2), (20, .if_icmp .gt 35, 3), (23, .aload_n 0, 1), (24, .iload_n 1, 1), (25, .aload_n 0, 1), (26, .iload_n 1, 1), (27, .iload_n 2, 1), (28, .invokevirtual 445, 3), (31, .iload_n 2, 1), (32, .aload_n 0, 1), (33, .iload_n 1, 1), (34, .iconst 0, 1), (35, .invokevirtual 343, 3), (38, .invokestatic 427, 3), (41, .invokevirtual 432, 3), (44, .ifCond .ne 5, 3), (47, .iload_n 2, 1), (48, .ireturn, 1), (49, .iinc 2 1, 3), (52, .goto (-35), 3), (55, .iconst (-1), 1), (56, .ireturn, 1)]
theorem D_X12_need : dOK cX12_need L_X12_need = true := by decide +kernel
theorem cf_X12_need : CFV mX12_need 1 := ⟨wI_X12_need, wS_X12_need, wN_WaveRightModel, wC_X12_need, rfl, ⟨by decide +kernel, by decide +kernel, by decide +kernel⟩, le45 rfl⟩
def X12_need_e17 (n : Nat) (σ4 : SG) : Option (Int × SG) :=
  some (((-1), σ4))
def X12_need_l17 (n : Nat) (a0 : Int) (σ4 : SG) (z5 : Int) : Option ((Int) ⊕ ((Unit) ⊕ (Int × SG))) :=
  if 100 < w32 z5 then
    some (.inr (.inl ()))
  else
    (X12_totalWith n a0 z5 σ4).bind fun v8 =>
    (X12_bestOf n a0 0 σ4).bind fun v10 =>
    (X12_rankOf n a0 v8 (mx32 z5 v10) σ4).bind fun v12 =>
    if w32 v12 = 0 then
      some (.inr (.inr (z5, σ4)))
    else
      lt (z5 + 1) fun x13 =>
      some (.inl x13)
def X12_need (n : Nat) (a0 : Int) (σ : SG) : Option (Int × SG) :=
  lt (up σ 57 0 0) fun σ1 =>
  bnd2 (X12_noSurfer n a0 σ1) fun v3 σ4 =>
  if w32 v3 = 0 then
    ((iter n (fun s : Int => X12_need_l17 n a0 σ4 s) 0) : Option ((Unit) ⊕ (Int × SG))).bind (orr (fun s => X12_need_e17 n σ4))
  else
    some ((0, σ4))
set_option maxHeartbeats 4000000 in
set_option maxRecDepth 100000 in
theorem A_X12_need {Γ : GA} (hΓ : (gl Γ).stackTraces = false) {n : Nat} {a0 : Int} {σ : SG} {r : Int} {τ : SG}  (h : X12_need n a0 σ = some (r, τ)) : AM Γ mX12_need 5 0 0 [vR 57, vI a0] (85, σ) (0, r) (85, τ) := by
  refine AM.of pl_X12 rfl wC_X12_need (le45 rfl) hΓ ?_
  refine AW.to (ls'' := [some (vR 57), some (vI a0), none]) ?_ (lle_s rfl (lle_s rfl (lle_e (lle_z))))
  unfold X12_need at h
  refine AW.aload_n (n := 1) (dat D_X12_need 0 rfl) rfl rfl ?_
  refine AW.iconst (n := 2) (dat D_X12_need 1 rfl) rfl ?_
  refine AW.putI (n := 5) fX12_0 wF_X12_105 ly_57 (le45 rfl) rfl rfl rfl (dat D_X12_need 2 rfl) rfl ?_
  refine AW.ltS h (fun σ1 h => ?_)
  refine AW.aload_n (n := 6) (dat D_X12_need 3 rfl) rfl rfl ?_
  refine AW.iload_n (n := 7) (dat D_X12_need 4 rfl) rfl rfl ?_
  obtain ⟨v3, σ4, hc2, h⟩ := bnd2_some h
  refine AW.cV (n := 10) (as := [vI a0]) (st := []) (st' := [vI v3]) (uc' := 0) (us' := 0) (A_X12_noSurfer hΓ hc2) cf_X12_noSurfer ly_57 (le45 rfl) vc_12 (le45 rfl) wM_X12_435 (le45 rfl) (le45 rfl) (dat D_X12_need 5 rfl) rfl rfl (le45 rfl) (le45 rfl) rfl (fun _ => ?_) nlt0
  refine AW.if_eqH (t := 15) (n := 13) h (dat D_X12_need 6 rfl) rfl rfl (fun h => ?_) (fun h => ?_)
  · refine AW.iconst (n := 16) (dat D_X12_need 9 rfl) rfl ?_
    refine AW.istore_n (n := 17) (ls' := [some (vR 57), some (vI a0), some (vI 0)]) (dat D_X12_need 10 rfl) rfl (le45 rfl) (le45 rfl) rfl rfl ?_
    obtain ⟨b6, hi6, hq6⟩ := ob_some h
    have hR6 : ∀ (_ : Unit), b6 = .inl () → AW Γ mX12_need 5 (0, r) (85, τ) 0 0 55 [none, none, none] [] (85, σ4) := by
      intro _ e
      subst e
      have h : X12_need_e17 n σ4 = some _ := hq6
      unfold X12_need_e17 at h
      refine AW.iconst (n := 56) (dat D_X12_need 32 rfl) rfl ?_
      cases h
      exact AW.iret rfl rfl rfl (dat D_X12_need 33 rfl)
    refine AW.to (ls'' := [some (vR 57), some (vI a0), some (vI 0)]) ?_ (lle_s rfl (lle_s rfl (lle_s rfl (lle_z))))
    refine aw_iter (fun s : Int => AW Γ mX12_need 5 (0, r) (85, τ) 0 0 17 [some (vR 57), some (vI a0), some (vI s)] [] (85, σ4)) (fun s y h hk6 hb6 => ?_) _ _ hi6
    obtain ⟨z5, e6⟩ : ∃ z, z = s := ⟨_, rfl⟩
    subst e6
    show AW Γ mX12_need 5 (0, r) (85, τ) 0 0 17 [some (vR 57), some (vI a0), some (vI z5)] [] (85, σ4)
    have h : X12_need_l17 n a0 σ4 z5 = some y := h
    unfold X12_need_l17 at h
    refine AW.iload_n (n := 18) (dat D_X12_need 11 rfl) rfl rfl ?_
    refine AW.bipush (n := 20) (dat D_X12_need 12 rfl) rfl (by decide) ?_
    refine AW.icmp_gtH (t := 55) (n := 23) h (dat D_X12_need 13 rfl) rfl rfl rfl (by decide) (fun h => ?_) (fun h => ?_)
    · cases h
      have hb := hb6 _ rfl
      exact AW.to (hR6 () hb.symm) (lle_n (lle_n (lle_n (lle_z))))
    · refine AW.aload_n (n := 24) (dat D_X12_need 14 rfl) rfl rfl ?_
      refine AW.iload_n (n := 25) (dat D_X12_need 15 rfl) rfl rfl ?_
      refine AW.aload_n (n := 26) (dat D_X12_need 16 rfl) rfl rfl ?_
      refine AW.iload_n (n := 27) (dat D_X12_need 17 rfl) rfl rfl ?_
      refine AW.iload_n (n := 28) (dat D_X12_need 18 rfl) rfl rfl ?_
      obtain ⟨v8, hc7, h⟩ := ob_some h
      refine AW.cV (n := 31) (as := [vI a0, vI z5]) (st := [vI a0, vR 57]) (st' := [vI v8, vI a0, vR 57]) (uc' := 0) (us' := 0) (A_X12_totalWith hΓ hc7) cf_X12_totalWith ly_57 (le45 rfl) vc_12 (le45 rfl) wM_X12_445 (le45 rfl) (le45 rfl) (dat D_X12_need 19 rfl) rfl rfl (le45 rfl) (le45 rfl) rfl (fun _ => ?_) nlt0
      refine AW.iload_n (n := 32) (dat D_X12_need 20 rfl) rfl rfl ?_
      refine AW.aload_n (n := 33) (dat D_X12_need 21 rfl) rfl rfl ?_
      refine AW.iload_n (n := 34) (dat D_X12_need 22 rfl) rfl rfl ?_
      refine AW.iconst (n := 35) (dat D_X12_need 23 rfl) rfl ?_
      obtain ⟨v10, hc9, h⟩ := ob_some h
      refine AW.cV (n := 38) (as := [vI a0, vI 0]) (st := [vI z5, vI v8, vI a0, vR 57]) (st' := [vI v10, vI z5, vI v8, vI a0, vR 57]) (uc' := 0) (us' := 0) (A_X12_bestOf hΓ hc9) cf_X12_bestOf ly_57 (le45 rfl) vc_12 (le45 rfl) wM_X12_343 (le45 rfl) (le45 rfl) (dat D_X12_need 24 rfl) rfl rfl (le45 rfl) (le45 rfl) rfl (fun _ => ?_) nlt0
      refine AW.mmax (n := 41) wM_X12_427 (le45 rfl) (le45 rfl) (dat D_X12_need 25 rfl) rfl ?_
      obtain ⟨v12, hc11, h⟩ := ob_some h
      refine AW.cV (n := 44) (as := [vI a0, vI v8, vI (mx32 z5 v10)]) (st := []) (st' := [vI v12]) (uc' := 0) (us' := 0) (A_X12_rankOf hΓ hc11) cf_X12_rankOf ly_57 (le45 rfl) vc_12 (le45 rfl) wM_X12_432 (le45 rfl) (le45 rfl) (dat D_X12_need 26 rfl) rfl rfl (le45 rfl) (le45 rfl) rfl (fun _ => ?_) nlt0
      refine AW.if_neH (t := 49) (n := 47) h (dat D_X12_need 27 rfl) rfl rfl (fun h => ?_) (fun h => ?_)
      · refine AW.iload_n (n := 48) (dat D_X12_need 28 rfl) rfl rfl ?_
        cases h
        have hb := hb6 _ rfl
        subst hb
        have h := hq6
        have h : some _ = some _ := h
        cases h
        exact AW.iret rfl rfl rfl (dat D_X12_need 29 rfl)
      · refine AW.iincH h (n := 52) (dat D_X12_need 30 rfl) rfl rfl (le45 rfl) rfl (fun x13 h => ?_)
        refine AW.lq (ls' := [some (vR 57), some (vI a0), some (vI x13)]) rfl ?_
        refine AW.goto (t := 17) (dat D_X12_need 31 rfl) rfl ?_
        cases h
        exact AW.to (hk6 _ rfl) (lle_s rfl (lle_s rfl (lle_s rfl (lle_z))))
  · refine AW.iconst (n := 14) (dat D_X12_need 7 rfl) rfl ?_
    cases h
    exact AW.iret rfl rfl rfl (dat D_X12_need 8 rfl)
def L_X12_laysBest : List (Nat × Instr × Nat) := [(0, .aload_n 0, 1), (1, .getfield 96, 3), (4, .iconst 0, 1), (5, .iconst (-1), 1), (6, .iastore, 1), (7, .aload_n 0, 1), (8, .getfield 96, 3), (11, .iconst 1, 1), (12, .iconst (-1), 1), (13, .iastore, 1), (14, .aload_n 0, 1), (15, .getfield 96, 3), (18, .iconst 2, 1), (19, .iconst (-1), 1), (20, .iastore, 1), (21, .iconst 1, 1), (22, .istore 4, 2), (24, .iload 4, 2), (26, .bipush 20, 2), (28, .if_icmp .gt 116, 3), (31, .iconst 0, 1), (32, .istore 5, 2), (34, .iload 5, 2), (36, .iconst 2, 1), (37, .if_icmp .ge 101, 3), (40, .aload_n 0, 1), (41, .iload_n 2, 1), (42, .aload_n 0, 1), (43, .getfield 56, 3), (46, .iload_n 1, 1), (47, .iaload, 1), (48, .iload 5, 2), (50, .iload 4, 2), (52, .invokevirtual 441, 3), (55, .ifCond .eq 77, 3), (58, .iload_n 3, 1), (59, .ifCond .ne 18, 3), (62, .aload_n 0, 1), (63, .iload_n 1, 1), (64, .iload 5, 2), (66, .iload 4, 2), (68, .invokevirtual 397, 3), (71, .ifCond .eq 6, 3), (74, .goto 58, 3), (77, .aload_n 0, 1), (78, .iload_n 1, 1), (79, .iload_n 2, 1), (80, .aload_n 0, 1), (81, .getfield 56, 3), (84, .iload_n 1, 1), (85, .iaload, 1), (86, .iload 4, 2), (88, .iconst 0, 1), (89, .invokevirtual 409, 3), (92, .istore 6, 2), (94, .iload 6, 2), (96, .aload_n 0, 1), (97, .getfield 96, 3), (100, .iconst 2, 1), (101, .iaload, 1), (102, .if_icmp .gt 6, 3), (105, .goto 27, 3), (108, .aload_n 0, 1), (109, .getfield 96, 3), (112, .iconst 0, 1), (113, .iload 4, 2), (115, .iastore, 1), (116, .aload_n 0, 1), (117, .getfield 96, 3), (120, .iconst 1, 1), (121, .iload 5, 2), (123, .iastore, 1), (124, .aload_n 0, 1), (125, .getfield 96, 3), (128, .iconst 2, 1), (129, .iload 6, 2), (131, .iastore, 1), (132, .iinc 5 1, 3), (135, .goto (-101), 3), (138, .iinc 4 1, 3), (141, .goto (-117), 3), (144, .return_, 1)]
theorem D_X12_laysBest : dOK cX12_laysBest L_X12_laysBest = true := by decide +kernel
theorem cf_X12_laysBest : CFV mX12_laysBest 3 := ⟨wI_X12_laysBest, wS_X12_laysBest, wN_WaveRightModel, wC_X12_laysBest, rfl, ⟨by decide +kernel, by decide +kernel, by decide +kernel⟩, le45 rfl⟩
def X12_laysBest_e24 (n : Nat) (σ10 : SG) : Option (SG) :=
  some (σ10)
def X12_laysBest_e34 (n : Nat) (z7 : Int) (σ14 : SG) : Option ((Int × SG) ⊕ (SG)) :=
  lt (z7 + 1) fun x15 =>
  some (.inl (x15, σ14))
def X12_laysBest_j132 (n : Nat) (z11 : Int) (σ19 : SG) : Option ((Int × SG) ⊕ (SG)) :=
  lt (z11 + 1) fun x21 =>
  some (.inl (x21, σ19))
def X12_laysBest_l34 (n : Nat) (a0 : Int) (a1 : Int) (z7 : Int) (a2 : Int) (z11 : Int) (σ12 : SG) : Option ((Int × SG) ⊕ (SG)) :=
  if 2 ≤ w32 z11 then
    some (.inr σ12)
  else
    rdA 5 a0 fun j16 =>
    (X12_canRide n a1 (σ12 68 j16) z11 z7 σ12).bind fun v18 =>
    ((if w32 v18 = 0 then
      some (σ12)
    else
      if w32 a2 = 0 then
        (X12_hindersBy n a0 z11 z7 σ12).bind fun v34 =>
        if w32 v34 = 0 then
          rdA 5 a0 fun j35 =>
          bnd2 (X12_scoreBy n a0 a1 (σ12 68 j35) z7 0 σ12) fun v37 σ38 =>
          rdA 3 2 fun j39 =>
          if w32 (σ38 81 j39) < w32 v37 then
            rdA 3 0 fun j40 => lt (up σ38 81 j40 z7) fun σ41 =>
            rdA 3 1 fun j42 => lt (up σ41 81 j42 z11) fun σ43 =>
            rdA 3 2 fun j44 => lt (up σ43 81 j44 v37) fun σ45 =>
            some (σ45)
          else
            some (σ38)
        else
          some (σ12)
      else
        rdA 5 a0 fun j22 =>
        bnd2 (X12_scoreBy n a0 a1 (σ12 68 j22) z7 0 σ12) fun v24 σ25 =>
        rdA 3 2 fun j26 =>
        if w32 (σ25 81 j26) < w32 v24 then
          rdA 3 0 fun j27 => lt (up σ25 81 j27 z7) fun σ28 =>
          rdA 3 1 fun j29 => lt (up σ28 81 j29 z11) fun σ30 =>
          rdA 3 2 fun j31 => lt (up σ30 81 j31 v24) fun σ32 =>
          some (σ32)
        else
          some (σ25)) : Option (SG)).bind (fun s => X12_laysBest_j132 n z11 s)
def X12_laysBest_l24 (n : Nat) (a0 : Int) (a1 : Int) (a2 : Int) (z7 : Int) (σ8 : SG) : Option ((Int × SG) ⊕ (SG)) :=
  if 20 < w32 z7 then
    some (.inr σ8)
  else
    ((iter n (fun s : Int × SG => X12_laysBest_l34 n a0 a1 z7 a2 s.1 s.2) (0, σ8)) : Option (SG)).bind (fun s => X12_laysBest_e34 n z7 s)
def X12_laysBest (n : Nat) (a0 : Int) (a1 : Int) (a2 : Int) (σ : SG) : Option (SG) :=
  rdA 3 0 fun j1 => lt (up σ 81 j1 (-1)) fun σ2 =>
  rdA 3 1 fun j3 => lt (up σ2 81 j3 (-1)) fun σ4 =>
  rdA 3 2 fun j5 => lt (up σ4 81 j5 (-1)) fun σ6 =>
  ((iter n (fun s : Int × SG => X12_laysBest_l24 n a0 a1 a2 s.1 s.2) (1, σ6)) : Option (SG)).bind (fun s => X12_laysBest_e24 n s)
set_option maxHeartbeats 4000000 in
set_option maxRecDepth 100000 in
theorem A_X12_laysBest {Γ : GA} (hΓ : (gl Γ).stackTraces = false) {n : Nat} {a0 : Int} {a1 : Int} {a2 : Int} {σ : SG} {τ : SG}  (h : X12_laysBest n a0 a1 a2 σ = some τ) : AM Γ mX12_laysBest 6 0 0 [vR 57, vI a0, vI a1, vI a2] (85, σ) (0, 0) (85, τ) := by
  refine AM.of pl_X12 rfl wC_X12_laysBest (le45 rfl) hΓ ?_
  refine AW.to (ls'' := [some (vR 57), some (vI a0), some (vI a1), some (vI a2), none, none, none]) ?_ (lle_s rfl (lle_s rfl (lle_s rfl (lle_s rfl (lle_e (lle_e (lle_e (lle_z))))))))
  unfold X12_laysBest at h
  refine AW.aload_n (n := 1) (dat D_X12_laysBest 0 rfl) rfl rfl ?_
  refine AW.getR (n := 4) (t := 81) fX12_51 wF_X12_96 ly_57 (le45 rfl) rfl (dat D_X12_laysBest 1 rfl) rfl ?_
  refine AW.iconst (n := 5) (dat D_X12_laysBest 2 rfl) rfl ?_
  refine AW.iconst (n := 6) (dat D_X12_laysBest 3 rfl) rfl ?_
  refine AW.iastH h (n := 7) rfl ly_81 (le45 rfl) (dat D_X12_laysBest 4 rfl) rfl (fun j1 h => ?_)
  refine AW.ltS h (fun σ2 h => ?_)
  refine AW.aload_n (n := 8) (dat D_X12_laysBest 5 rfl) rfl rfl ?_
  refine AW.getR (n := 11) (t := 81) fX12_51 wF_X12_96 ly_57 (le45 rfl) rfl (dat D_X12_laysBest 6 rfl) rfl ?_
  refine AW.iconst (n := 12) (dat D_X12_laysBest 7 rfl) rfl ?_
  refine AW.iconst (n := 13) (dat D_X12_laysBest 8 rfl) rfl ?_
  refine AW.iastH h (n := 14) rfl ly_81 (le45 rfl) (dat D_X12_laysBest 9 rfl) rfl (fun j3 h => ?_)
  refine AW.ltS h (fun σ4 h => ?_)
  refine AW.aload_n (n := 15) (dat D_X12_laysBest 10 rfl) rfl rfl ?_
  refine AW.getR (n := 18) (t := 81) fX12_51 wF_X12_96 ly_57 (le45 rfl) rfl (dat D_X12_laysBest 11 rfl) rfl ?_
  refine AW.iconst (n := 19) (dat D_X12_laysBest 12 rfl) rfl ?_
  refine AW.iconst (n := 20) (dat D_X12_laysBest 13 rfl) rfl ?_
  refine AW.iastH h (n := 21) rfl ly_81 (le45 rfl) (dat D_X12_laysBest 14 rfl) rfl (fun j5 h => ?_)
  refine AW.ltS h (fun σ6 h => ?_)
  refine AW.iconst (n := 22) (dat D_X12_laysBest 15 rfl) rfl ?_
  refine AW.istore (n := 24) (ls' := [some (vR 57), some (vI a0), some (vI a1), some (vI a2), some (vI 1), none, none]) (dat D_X12_laysBest 16 rfl) rfl (le45 rfl) (le45 rfl) rfl rfl ?_
  obtain ⟨b9, hi9, hq9⟩ := ob_some h
  obtain ⟨σ10, e9⟩ : ∃ z, z = b9 := ⟨_, rfl⟩
  subst e9
  have hR9 : AW Γ mX12_laysBest 6 (0, 0) (85, τ) 0 0 144 [none, none, none, none, none, none, none] [] (85, σ10) := by
    have h : X12_laysBest_e24 n σ10 = some _ := hq9
    unfold X12_laysBest_e24 at h
    cases h
    exact AW.vret rfl rfl rfl (dat D_X12_laysBest 81 rfl)
  refine AW.to (ls'' := [some (vR 57), some (vI a0), some (vI a1), some (vI a2), some (vI 1), none, none]) ?_ (lle_s rfl (lle_s rfl (lle_s rfl (lle_s rfl (lle_s rfl (lle_n (lle_n (lle_z))))))))
  refine aw_iter (fun s : Int × SG => AW Γ mX12_laysBest 6 (0, 0) (85, τ) 0 0 24 [some (vR 57), some (vI a0), some (vI a1), some (vI a2), some (vI (s.1)), none, none] [] (85, s.2)) (fun s y h hk9 hb9 => ?_) _ _ hi9
  obtain ⟨z7, σ8⟩ := s
  show AW Γ mX12_laysBest 6 (0, 0) (85, τ) 0 0 24 [some (vR 57), some (vI a0), some (vI a1), some (vI a2), some (vI z7), none, none] [] (85, σ8)
  have h : X12_laysBest_l24 n a0 a1 a2 z7 σ8 = some y := h
  unfold X12_laysBest_l24 at h
  refine AW.iload (n := 26) (dat D_X12_laysBest 17 rfl) rfl rfl ?_
  refine AW.bipush (n := 28) (dat D_X12_laysBest 18 rfl) rfl (by decide) ?_
  refine AW.icmp_gtH (t := 144) (n := 31) h (dat D_X12_laysBest 19 rfl) rfl rfl rfl (by decide) (fun h => ?_) (fun h => ?_)
  · cases h
    have hb := hb9 _ rfl
    cases hb
    exact AW.to hR9 (lle_n (lle_n (lle_n (lle_n (lle_n (lle_n (lle_n (lle_z))))))))
  · refine AW.iconst (n := 32) (dat D_X12_laysBest 20 rfl) rfl ?_
    refine AW.istore (n := 34) (ls' := [some (vR 57), some (vI a0), some (vI a1), some (vI a2), some (vI z7), some (vI 0), none]) (dat D_X12_laysBest 21 rfl) rfl (le45 rfl) (le45 rfl) rfl rfl ?_
    obtain ⟨b13, hi13, hq13⟩ := ob_some h
    obtain ⟨σ14, e13⟩ : ∃ z, z = b13 := ⟨_, rfl⟩
    subst e13
    have hR13 : AW Γ mX12_laysBest 6 (0, 0) (85, τ) 0 0 138 [some (vR 57), some (vI a0), some (vI a1), some (vI a2), some (vI z7), none, none] [] (85, σ14) := by
      have h : X12_laysBest_e34 n z7 σ14 = some _ := hq13
      unfold X12_laysBest_e34 at h
      refine AW.iincH h (n := 141) (dat D_X12_laysBest 79 rfl) rfl rfl (le45 rfl) rfl (fun x15 h => ?_)
      refine AW.lq (ls' := [some (vR 57), some (vI a0), some (vI a1), some (vI a2), some (vI x15), none, none]) rfl ?_
      refine AW.goto (t := 24) (dat D_X12_laysBest 80 rfl) rfl ?_
      cases h
      exact AW.to (hk9 _ rfl) (lle_s rfl (lle_s rfl (lle_s rfl (lle_s rfl (lle_s rfl (lle_n (lle_n (lle_z))))))))
    refine AW.to (ls'' := [some (vR 57), some (vI a0), some (vI a1), some (vI a2), some (vI z7), some (vI 0), none]) ?_ (lle_s rfl (lle_s rfl (lle_s rfl (lle_s rfl (lle_s rfl (lle_s rfl (lle_n (lle_z))))))))
    refine aw_iter (fun s : Int × SG => AW Γ mX12_laysBest 6 (0, 0) (85, τ) 0 0 34 [some (vR 57), some (vI a0), some (vI a1), some (vI a2), some (vI z7), some (vI (s.1)), none] [] (85, s.2)) (fun s y h hk13 hb13 => ?_) _ _ hi13
    obtain ⟨z11, σ12⟩ := s
    show AW Γ mX12_laysBest 6 (0, 0) (85, τ) 0 0 34 [some (vR 57), some (vI a0), some (vI a1), some (vI a2), some (vI z7), some (vI z11), none] [] (85, σ12)
    have h : X12_laysBest_l34 n a0 a1 z7 a2 z11 σ12 = some y := h
    unfold X12_laysBest_l34 at h
    refine AW.iload (n := 36) (dat D_X12_laysBest 22 rfl) rfl rfl ?_
    refine AW.iconst (n := 37) (dat D_X12_laysBest 23 rfl) rfl ?_
    refine AW.icmp_geH (t := 138) (n := 40) h (dat D_X12_laysBest 24 rfl) rfl rfl rfl (by decide) (fun h => ?_) (fun h => ?_)
    · cases h
      have hb := hb13 _ rfl
      cases hb
      exact AW.to hR13 (lle_s rfl (lle_s rfl (lle_s rfl (lle_s rfl (lle_s rfl (lle_n (lle_n (lle_z))))))))
    · refine AW.aload_n (n := 41) (dat D_X12_laysBest 25 rfl) rfl rfl ?_
      refine AW.iload_n (n := 42) (dat D_X12_laysBest 26 rfl) rfl rfl ?_
      refine AW.aload_n (n := 43) (dat D_X12_laysBest 27 rfl) rfl rfl ?_
      refine AW.getR (n := 46) (t := 68) fX12_38 wF_X12_56 ly_57 (le45 rfl) rfl (dat D_X12_laysBest 28 rfl) rfl ?_
      refine AW.iload_n (n := 47) (dat D_X12_laysBest 29 rfl) rfl rfl ?_
      refine AW.ialdH h (n := 48) rfl ly_68 (le45 rfl) (dat D_X12_laysBest 30 rfl) rfl (fun j16 h => ?_)
      refine AW.iload (n := 50) (dat D_X12_laysBest 31 rfl) rfl rfl ?_
      refine AW.iload (n := 52) (dat D_X12_laysBest 32 rfl) rfl rfl ?_
      obtain ⟨v18, hc17, h⟩ := ob_some h
      refine AW.cV (n := 55) (as := [vI a1, vI (σ12 68 j16), vI z11, vI z7]) (st := []) (st' := [vI v18]) (uc' := 0) (us' := 0) (A_X12_canRide hΓ hc17) cf_X12_canRide ly_57 (le45 rfl) vc_12 (le45 rfl) wM_X12_441 (le45 rfl) (le45 rfl) (dat D_X12_laysBest 33 rfl) rfl rfl (le45 rfl) (le45 rfl) rfl (fun _ => ?_) nlt0
      obtain ⟨s20, h, hq20⟩ := ob_some h
      obtain ⟨σ19, e20⟩ : ∃ z, z = s20 := ⟨_, rfl⟩
      subst e20
      have hJ20 : AW Γ mX12_laysBest 6 (0, 0) (85, τ) 0 0 132 [some (vR 57), some (vI a0), some (vI a1), some (vI a2), some (vI z7), some (vI z11), none] [] (85, σ19) := by
        have h : X12_laysBest_j132 n z11 σ19 = some _ := hq20
        unfold X12_laysBest_j132 at h
        refine AW.iincH h (n := 135) (dat D_X12_laysBest 77 rfl) rfl rfl (le45 rfl) rfl (fun x21 h => ?_)
        refine AW.lq (ls' := [some (vR 57), some (vI a0), some (vI a1), some (vI a2), some (vI z7), some (vI x21), none]) rfl ?_
        refine AW.goto (t := 34) (dat D_X12_laysBest 78 rfl) rfl ?_
        cases h
        exact AW.to (hk13 _ rfl) (lle_s rfl (lle_s rfl (lle_s rfl (lle_s rfl (lle_s rfl (lle_s rfl (lle_n (lle_z))))))))
      refine AW.if_eqH (t := 132) (n := 58) h (dat D_X12_laysBest 34 rfl) rfl rfl (fun h => ?_) (fun h => ?_)
      · cases h
        exact AW.to hJ20 (lle_s rfl (lle_s rfl (lle_s rfl (lle_s rfl (lle_s rfl (lle_s rfl (lle_n (lle_z))))))))
      · refine AW.iload_n (n := 59) (dat D_X12_laysBest 35 rfl) rfl rfl ?_
        refine AW.if_neH (t := 77) (n := 62) h (dat D_X12_laysBest 36 rfl) rfl rfl (fun h => ?_) (fun h => ?_)
        · refine AW.aload_n (n := 63) (dat D_X12_laysBest 37 rfl) rfl rfl ?_
          refine AW.iload_n (n := 64) (dat D_X12_laysBest 38 rfl) rfl rfl ?_
          refine AW.iload (n := 66) (dat D_X12_laysBest 39 rfl) rfl rfl ?_
          refine AW.iload (n := 68) (dat D_X12_laysBest 40 rfl) rfl rfl ?_
          obtain ⟨v34, hc33, h⟩ := ob_some h
          refine AW.cV (n := 71) (as := [vI a0, vI z11, vI z7]) (st := []) (st' := [vI v34]) (uc' := 0) (us' := 0) (A_X12_hindersBy hΓ hc33) cf_X12_hindersBy ly_57 (le45 rfl) vc_12 (le45 rfl) wM_X12_397 (le45 rfl) (le45 rfl) (dat D_X12_laysBest 41 rfl) rfl rfl (le45 rfl) (le45 rfl) rfl (fun _ => ?_) nlt0
          refine AW.if_eqH (t := 77) (n := 74) h (dat D_X12_laysBest 42 rfl) rfl rfl (fun h => ?_) (fun h => ?_)
          · refine AW.aload_n (n := 78) (dat D_X12_laysBest 44 rfl) rfl rfl ?_
            refine AW.iload_n (n := 79) (dat D_X12_laysBest 45 rfl) rfl rfl ?_
            refine AW.iload_n (n := 80) (dat D_X12_laysBest 46 rfl) rfl rfl ?_
            refine AW.aload_n (n := 81) (dat D_X12_laysBest 47 rfl) rfl rfl ?_
            refine AW.getR (n := 84) (t := 68) fX12_38 wF_X12_56 ly_57 (le45 rfl) rfl (dat D_X12_laysBest 48 rfl) rfl ?_
            refine AW.iload_n (n := 85) (dat D_X12_laysBest 49 rfl) rfl rfl ?_
            refine AW.ialdH h (n := 86) rfl ly_68 (le45 rfl) (dat D_X12_laysBest 50 rfl) rfl (fun j35 h => ?_)
            refine AW.iload (n := 88) (dat D_X12_laysBest 51 rfl) rfl rfl ?_
            refine AW.iconst (n := 89) (dat D_X12_laysBest 52 rfl) rfl ?_
            obtain ⟨v37, σ38, hc36, h⟩ := bnd2_some h
            refine AW.cV (n := 92) (as := [vI a0, vI a1, vI (σ12 68 j35), vI z7, vI 0]) (st := []) (st' := [vI v37]) (uc' := 0) (us' := 0) (A_X12_scoreBy hΓ hc36) cf_X12_scoreBy ly_57 (le45 rfl) vc_12 (le45 rfl) wM_X12_409 (le45 rfl) (le45 rfl) (dat D_X12_laysBest 53 rfl) rfl rfl (le45 rfl) (le45 rfl) rfl (fun _ => ?_) nlt0
            refine AW.istore (n := 94) (ls' := [some (vR 57), some (vI a0), some (vI a1), some (vI a2), some (vI z7), some (vI z11), some (vI v37)]) (dat D_X12_laysBest 54 rfl) rfl (le45 rfl) (le45 rfl) rfl rfl ?_
            refine AW.iload (n := 96) (dat D_X12_laysBest 55 rfl) rfl rfl ?_
            refine AW.aload_n (n := 97) (dat D_X12_laysBest 56 rfl) rfl rfl ?_
            refine AW.getR (n := 100) (t := 81) fX12_51 wF_X12_96 ly_57 (le45 rfl) rfl (dat D_X12_laysBest 57 rfl) rfl ?_
            refine AW.iconst (n := 101) (dat D_X12_laysBest 58 rfl) rfl ?_
            refine AW.ialdH h (n := 102) rfl ly_81 (le45 rfl) (dat D_X12_laysBest 59 rfl) rfl (fun j39 h => ?_)
            refine AW.icmp_gtH (t := 108) (n := 105) h (dat D_X12_laysBest 60 rfl) rfl rfl rfl rfl (fun h => ?_) (fun h => ?_)
            · refine AW.aload_n (n := 109) (dat D_X12_laysBest 62 rfl) rfl rfl ?_
              refine AW.getR (n := 112) (t := 81) fX12_51 wF_X12_96 ly_57 (le45 rfl) rfl (dat D_X12_laysBest 63 rfl) rfl ?_
              refine AW.iconst (n := 113) (dat D_X12_laysBest 64 rfl) rfl ?_
              refine AW.iload (n := 115) (dat D_X12_laysBest 65 rfl) rfl rfl ?_
              refine AW.iastH h (n := 116) rfl ly_81 (le45 rfl) (dat D_X12_laysBest 66 rfl) rfl (fun j40 h => ?_)
              refine AW.ltS h (fun σ41 h => ?_)
              refine AW.aload_n (n := 117) (dat D_X12_laysBest 67 rfl) rfl rfl ?_
              refine AW.getR (n := 120) (t := 81) fX12_51 wF_X12_96 ly_57 (le45 rfl) rfl (dat D_X12_laysBest 68 rfl) rfl ?_
              refine AW.iconst (n := 121) (dat D_X12_laysBest 69 rfl) rfl ?_
              refine AW.iload (n := 123) (dat D_X12_laysBest 70 rfl) rfl rfl ?_
              refine AW.iastH h (n := 124) rfl ly_81 (le45 rfl) (dat D_X12_laysBest 71 rfl) rfl (fun j42 h => ?_)
              refine AW.ltS h (fun σ43 h => ?_)
              refine AW.aload_n (n := 125) (dat D_X12_laysBest 72 rfl) rfl rfl ?_
              refine AW.getR (n := 128) (t := 81) fX12_51 wF_X12_96 ly_57 (le45 rfl) rfl (dat D_X12_laysBest 73 rfl) rfl ?_
              refine AW.iconst (n := 129) (dat D_X12_laysBest 74 rfl) rfl ?_
              refine AW.iload (n := 131) (dat D_X12_laysBest 75 rfl) rfl rfl ?_
              refine AW.iastH h (n := 132) rfl ly_81 (le45 rfl) (dat D_X12_laysBest 76 rfl) rfl (fun j44 h => ?_)
              refine AW.ltS h (fun σ45 h => ?_)
              cases h
              exact AW.to hJ20 (lle_s rfl (lle_s rfl (lle_s rfl (lle_s rfl (lle_s rfl (lle_s rfl (lle_n (lle_z))))))))
            · refine AW.goto (t := 132) (dat D_X12_laysBest 61 rfl) rfl ?_
              cases h
              exact AW.to hJ20 (lle_s rfl (lle_s rfl (lle_s rfl (lle_s rfl (lle_s rfl (lle_s rfl (lle_n (lle_z))))))))
          · refine AW.goto (t := 132) (dat D_X12_laysBest 43 rfl) rfl ?_
            cases h
            exact AW.to hJ20 (lle_s rfl (lle_s rfl (lle_s rfl (lle_s rfl (lle_s rfl (lle_s rfl (lle_n (lle_z))))))))
        · refine AW.aload_n (n := 78) (dat D_X12_laysBest 44 rfl) rfl rfl ?_
          refine AW.iload_n (n := 79) (dat D_X12_laysBest 45 rfl) rfl rfl ?_
          refine AW.iload_n (n := 80) (dat D_X12_laysBest 46 rfl) rfl rfl ?_
          refine AW.aload_n (n := 81) (dat D_X12_laysBest 47 rfl) rfl rfl ?_
          refine AW.getR (n := 84) (t := 68) fX12_38 wF_X12_56 ly_57 (le45 rfl) rfl (dat D_X12_laysBest 48 rfl) rfl ?_
          refine AW.iload_n (n := 85) (dat D_X12_laysBest 49 rfl) rfl rfl ?_
          refine AW.ialdH h (n := 86) rfl ly_68 (le45 rfl) (dat D_X12_laysBest 50 rfl) rfl (fun j22 h => ?_)
          refine AW.iload (n := 88) (dat D_X12_laysBest 51 rfl) rfl rfl ?_
          refine AW.iconst (n := 89) (dat D_X12_laysBest 52 rfl) rfl ?_
          obtain ⟨v24, σ25, hc23, h⟩ := bnd2_some h
          refine AW.cV (n := 92) (as := [vI a0, vI a1, vI (σ12 68 j22), vI z7, vI 0]) (st := []) (st' := [vI v24]) (uc' := 0) (us' := 0) (A_X12_scoreBy hΓ hc23) cf_X12_scoreBy ly_57 (le45 rfl) vc_12 (le45 rfl) wM_X12_409 (le45 rfl) (le45 rfl) (dat D_X12_laysBest 53 rfl) rfl rfl (le45 rfl) (le45 rfl) rfl (fun _ => ?_) nlt0
          refine AW.istore (n := 94) (ls' := [some (vR 57), some (vI a0), some (vI a1), some (vI a2), some (vI z7), some (vI z11), some (vI v24)]) (dat D_X12_laysBest 54 rfl) rfl (le45 rfl) (le45 rfl) rfl rfl ?_
          refine AW.iload (n := 96) (dat D_X12_laysBest 55 rfl) rfl rfl ?_
          refine AW.aload_n (n := 97) (dat D_X12_laysBest 56 rfl) rfl rfl ?_
          refine AW.getR (n := 100) (t := 81) fX12_51 wF_X12_96 ly_57 (le45 rfl) rfl (dat D_X12_laysBest 57 rfl) rfl ?_
          refine AW.iconst (n := 101) (dat D_X12_laysBest 58 rfl) rfl ?_
          refine AW.ialdH h (n := 102) rfl ly_81 (le45 rfl) (dat D_X12_laysBest 59 rfl) rfl (fun j26 h => ?_)
          refine AW.icmp_gtH (t := 108) (n := 105) h (dat D_X12_laysBest 60 rfl) rfl rfl rfl rfl (fun h => ?_) (fun h => ?_)
          · refine AW.aload_n (n := 109) (dat D_X12_laysBest 62 rfl) rfl rfl ?_
            refine AW.getR (n := 112) (t := 81) fX12_51 wF_X12_96 ly_57 (le45 rfl) rfl (dat D_X12_laysBest 63 rfl) rfl ?_
            refine AW.iconst (n := 113) (dat D_X12_laysBest 64 rfl) rfl ?_
            refine AW.iload (n := 115) (dat D_X12_laysBest 65 rfl) rfl rfl ?_
            refine AW.iastH h (n := 116) rfl ly_81 (le45 rfl) (dat D_X12_laysBest 66 rfl) rfl (fun j27 h => ?_)
            refine AW.ltS h (fun σ28 h => ?_)
            refine AW.aload_n (n := 117) (dat D_X12_laysBest 67 rfl) rfl rfl ?_
            refine AW.getR (n := 120) (t := 81) fX12_51 wF_X12_96 ly_57 (le45 rfl) rfl (dat D_X12_laysBest 68 rfl) rfl ?_
            refine AW.iconst (n := 121) (dat D_X12_laysBest 69 rfl) rfl ?_
            refine AW.iload (n := 123) (dat D_X12_laysBest 70 rfl) rfl rfl ?_
            refine AW.iastH h (n := 124) rfl ly_81 (le45 rfl) (dat D_X12_laysBest 71 rfl) rfl (fun j29 h => ?_)
            refine AW.ltS h (fun σ30 h => ?_)
            refine AW.aload_n (n := 125) (dat D_X12_laysBest 72 rfl) rfl rfl ?_
            refine AW.getR (n := 128) (t := 81) fX12_51 wF_X12_96 ly_57 (le45 rfl) rfl (dat D_X12_laysBest 73 rfl) rfl ?_
            refine AW.iconst (n := 129) (dat D_X12_laysBest 74 rfl) rfl ?_
            refine AW.iload (n := 131) (dat D_X12_laysBest 75 rfl) rfl rfl ?_
            refine AW.iastH h (n := 132) rfl ly_81 (le45 rfl) (dat D_X12_laysBest 76 rfl) rfl (fun j31 h => ?_)
            refine AW.ltS h (fun σ32 h => ?_)
            cases h
            exact AW.to hJ20 (lle_s rfl (lle_s rfl (lle_s rfl (lle_s rfl (lle_s rfl (lle_s rfl (lle_n (lle_z))))))))
          · refine AW.goto (t := 132) (dat D_X12_laysBest 61 rfl) rfl ?_
            cases h
            exact AW.to hJ20 (lle_s rfl (lle_s rfl (lle_s rfl (lle_s rfl (lle_s rfl (lle_s rfl (lle_n (lle_z))))))))
def L_X12_best : List (Nat × Instr × Nat) := [(0, .aload_n 0, 1), (1, .iconst 0, 1), (2, .putfield 105, 3), (5, .aload_n 0, 1), (6, .iload_n 1, 1), (7, .invokevirtual 435, 3), (10, .ifCond .ne 55, 3), (13, .aload_n 0, 1), (14, .iload_n 2, 1), (15, .iconst 0, 1), (16, .iconst 2, 1), (17, .invokestatic 164, 3), (20, .ifCond .ne 7, 3), (23, .iconst 1, 1), (24, .goto 4, 3), (27, .iconst 0, 1), (28, .iconst 2, 1), (29, .invokevirtual 230, 3), (32, .ifCond .ne 33, 3), (35, .aload_n 0, 1), (36, .aload_n 0, 1), (37, .getfield 49, 3), (40, .iconst (-1), 1), (41, .if_icmp .eq 12, 3), (44, .aload_n 0, 1), (45, .getfield 86, 3), (48, .iload_n 1, 1), (49, .baload, 1), (50, .ifCond .ne 7, 3), (53, .iconst 1, 1), (54, .goto 4, 3), (57, .iconst 0, 1), (58, .iconst 3, 1), (59, .invokevirtual 230, 3), (62, .ifCond .eq 5, 3), (65, .iconst 0, 1), (66, .ireturn, 1), (67, .aload_n 0, 1), (68, .iload_n 1, 1), (69, .aload_n 0, 1), (70, .getfield 49, 3), (73, .iconst 0, 1), (74, .invokevirtual 448, 3), (77, .aload_n 0, 1), (78, .getfield 96, 3), (81, .iload_n 2, 1), (82, .iaload, 1), (83, .ireturn, 1)]
theorem D_X12_best : dOK cX12_best L_X12_best = true := by decide +kernel
theorem cf_X12_best : CFV mX12_best 2 := ⟨wI_X12_best, wS_X12_best, wN_WaveRightModel, wC_X12_best, rfl, ⟨by decide +kernel, by decide +kernel, by decide +kernel⟩, le45 rfl⟩
def X12_best_j58 (n : Nat) (σ11 : SG) (a0 : Int) (a1 : Int) (y12 : Int) : Option (Int × SG) :=
  bnd2 (X12_throwsIf n y12 3 σ11) fun v15 σ16 =>
  if w32 v15 = 0 then
    (X12_laysBest n a0 (σ16 57 27) 0 σ16).bind fun σ18 =>
    rdA 3 a1 fun j19 =>
    some (((σ18 81 j19), σ18))
  else
    some ((0, σ16))
def X12_best_j28 (n : Nat) (σ4 : SG) (a0 : Int) (a1 : Int) (y7 : Int) : Option (Int × SG) :=
  bnd2 (X12_throwsIf n y7 2 σ4) fun v10 σ11 =>
  if w32 v10 = 0 then
    ((if w32 (σ11 57 27) = (-1) then
      some (1)
    else
      rdA 5 a0 fun j20 =>
      if w32 (σ11 78 j20) = 0 then
        some (1)
      else
        some (0)) : Option (Int)).bind (fun s => X12_best_j58 n σ11 a0 a1 s)
  else
    some ((0, σ11))
def X12_best (n : Nat) (a0 : Int) (a1 : Int) (σ : SG) : Option (Int × SG) :=
  lt (up σ 57 0 0) fun σ1 =>
  bnd2 (X12_noSurfer n a0 σ1) fun v3 σ4 =>
  if w32 v3 = 0 then
    (X12_in n a1 0 2 σ4).bind fun v6 =>
    ((if w32 v6 = 0 then
      some (1)
    else
      some (0)) : Option (Int)).bind (fun s => X12_best_j28 n σ4 a0 a1 s)
  else
    some ((0, σ4))
set_option maxHeartbeats 4000000 in
set_option maxRecDepth 100000 in
theorem A_X12_best {Γ : GA} (hΓ : (gl Γ).stackTraces = false) {n : Nat} {a0 : Int} {a1 : Int} {σ : SG} {r : Int} {τ : SG}  (h : X12_best n a0 a1 σ = some (r, τ)) : AM Γ mX12_best 7 0 0 [vR 57, vI a0, vI a1] (85, σ) (0, r) (85, τ) := by
  refine AM.of pl_X12 rfl wC_X12_best (le45 rfl) hΓ ?_
  refine AW.to (ls'' := [some (vR 57), some (vI a0), some (vI a1)]) ?_ (lle_s rfl (lle_s rfl (lle_s rfl (lle_z))))
  unfold X12_best at h
  refine AW.aload_n (n := 1) (dat D_X12_best 0 rfl) rfl rfl ?_
  refine AW.iconst (n := 2) (dat D_X12_best 1 rfl) rfl ?_
  refine AW.putI (n := 5) fX12_0 wF_X12_105 ly_57 (le45 rfl) rfl rfl rfl (dat D_X12_best 2 rfl) rfl ?_
  refine AW.ltS h (fun σ1 h => ?_)
  refine AW.aload_n (n := 6) (dat D_X12_best 3 rfl) rfl rfl ?_
  refine AW.iload_n (n := 7) (dat D_X12_best 4 rfl) rfl rfl ?_
  obtain ⟨v3, σ4, hc2, h⟩ := bnd2_some h
  refine AW.cV (n := 10) (as := [vI a0]) (st := []) (st' := [vI v3]) (uc' := 0) (us' := 0) (A_X12_noSurfer hΓ hc2) cf_X12_noSurfer ly_57 (le45 rfl) vc_12 (le45 rfl) wM_X12_435 (le45 rfl) (le45 rfl) (dat D_X12_best 5 rfl) rfl rfl (le45 rfl) (le45 rfl) rfl (fun _ => ?_) nlt0
  refine AW.if_neH (t := 65) (n := 13) h (dat D_X12_best 6 rfl) rfl rfl (fun h => ?_) (fun h => ?_)
  · refine AW.aload_n (n := 14) (dat D_X12_best 7 rfl) rfl rfl ?_
    refine AW.iload_n (n := 15) (dat D_X12_best 8 rfl) rfl rfl ?_
    refine AW.iconst (n := 16) (dat D_X12_best 9 rfl) rfl ?_
    refine AW.iconst (n := 17) (dat D_X12_best 10 rfl) rfl ?_
    obtain ⟨v6, hc5, h⟩ := ob_some h
    refine AW.cS (n := 20) (as := [vI a1, vI 0, vI 2]) (st := [vR 57]) (st' := [vI v6, vR 57]) (uc' := 0) (us' := 0) (A_X12_in hΓ hc5) cf_X12_in rfl wM_X12_164 (le45 rfl) (le45 rfl) (dat D_X12_best 11 rfl) rfl rfl (le45 rfl) (le45 rfl) rfl (fun _ => ?_) nlt0
    obtain ⟨s8, h, hq8⟩ := ob_some h
    obtain ⟨y7, e8⟩ : ∃ z, z = s8 := ⟨_, rfl⟩
    subst e8
    have hJ8 : AW Γ mX12_best 7 (0, r) (85, τ) 0 0 28 [some (vR 57), some (vI a0), some (vI a1)] [vI y7, vR 57] (85, σ4) := by
      have h : X12_best_j28 n σ4 a0 a1 y7 = some _ := hq8
      unfold X12_best_j28 at h
      refine AW.iconst (n := 29) (dat D_X12_best 16 rfl) rfl ?_
      obtain ⟨v10, σ11, hc9, h⟩ := bnd2_some h
      refine AW.cV (n := 32) (as := [vI y7, vI 2]) (st := []) (st' := [vI v10]) (uc' := 0) (us' := 0) (A_X12_throwsIf hΓ hc9) cf_X12_throwsIf ly_57 (le45 rfl) vc_12 (le45 rfl) wM_X12_230 (le45 rfl) (le45 rfl) (dat D_X12_best 17 rfl) rfl rfl (le45 rfl) (le45 rfl) rfl (fun _ => ?_) nlt0
      refine AW.if_neH (t := 65) (n := 35) h (dat D_X12_best 18 rfl) rfl rfl (fun h => ?_) (fun h => ?_)
      · refine AW.aload_n (n := 36) (dat D_X12_best 19 rfl) rfl rfl ?_
        refine AW.aload_n (n := 37) (dat D_X12_best 20 rfl) rfl rfl ?_
        refine AW.getI (n := 40) fX12_27 wF_X12_49 ly_57 (le45 rfl) rfl rfl (dat D_X12_best 21 rfl) rfl ?_
        refine AW.iconst (n := 41) (dat D_X12_best 22 rfl) rfl ?_
        obtain ⟨s13, h, hq13⟩ := ob_some h
        obtain ⟨y12, e13⟩ : ∃ z, z = s13 := ⟨_, rfl⟩
        subst e13
        have hJ13 : AW Γ mX12_best 7 (0, r) (85, τ) 0 0 58 [some (vR 57), some (vI a0), some (vI a1)] [vI y12, vR 57] (85, σ11) := by
          have h : X12_best_j58 n σ11 a0 a1 y12 = some _ := hq13
          unfold X12_best_j58 at h
          refine AW.iconst (n := 59) (dat D_X12_best 32 rfl) rfl ?_
          obtain ⟨v15, σ16, hc14, h⟩ := bnd2_some h
          refine AW.cV (n := 62) (as := [vI y12, vI 3]) (st := []) (st' := [vI v15]) (uc' := 0) (us' := 0) (A_X12_throwsIf hΓ hc14) cf_X12_throwsIf ly_57 (le45 rfl) vc_12 (le45 rfl) wM_X12_230 (le45 rfl) (le45 rfl) (dat D_X12_best 33 rfl) rfl rfl (le45 rfl) (le45 rfl) rfl (fun _ => ?_) nlt0
          refine AW.if_eqH (t := 67) (n := 65) h (dat D_X12_best 34 rfl) rfl rfl (fun h => ?_) (fun h => ?_)
          · refine AW.aload_n (n := 68) (dat D_X12_best 37 rfl) rfl rfl ?_
            refine AW.iload_n (n := 69) (dat D_X12_best 38 rfl) rfl rfl ?_
            refine AW.aload_n (n := 70) (dat D_X12_best 39 rfl) rfl rfl ?_
            refine AW.getI (n := 73) fX12_27 wF_X12_49 ly_57 (le45 rfl) rfl rfl (dat D_X12_best 40 rfl) rfl ?_
            refine AW.iconst (n := 74) (dat D_X12_best 41 rfl) rfl ?_
            obtain ⟨σ18, hc17, h⟩ := ob_some h
            refine AW.cV (n := 77) (as := [vI a0, vI (σ16 57 27), vI 0]) (st := []) (st' := []) (uc' := 0) (us' := 0) (A_X12_laysBest hΓ hc17) cf_X12_laysBest ly_57 (le45 rfl) vc_12 (le45 rfl) wM_X12_448 (le45 rfl) (le45 rfl) (dat D_X12_best 42 rfl) rfl rfl (le45 rfl) (le45 rfl) rfl (fun _ => ?_) nlt0
            refine AW.aload_n (n := 78) (dat D_X12_best 43 rfl) rfl rfl ?_
            refine AW.getR (n := 81) (t := 81) fX12_51 wF_X12_96 ly_57 (le45 rfl) rfl (dat D_X12_best 44 rfl) rfl ?_
            refine AW.iload_n (n := 82) (dat D_X12_best 45 rfl) rfl rfl ?_
            refine AW.ialdH h (n := 83) rfl ly_81 (le45 rfl) (dat D_X12_best 46 rfl) rfl (fun j19 h => ?_)
            cases h
            exact AW.iret rfl rfl rfl (dat D_X12_best 47 rfl)
          · refine AW.iconst (n := 66) (dat D_X12_best 35 rfl) rfl ?_
            cases h
            exact AW.iret rfl rfl rfl (dat D_X12_best 36 rfl)
        refine AW.icmp_eqH (t := 53) (n := 44) h (dat D_X12_best 23 rfl) rfl rfl rfl (by decide) (fun h => ?_) (fun h => ?_)
        · refine AW.iconst (n := 54) (dat D_X12_best 29 rfl) rfl ?_
          refine AW.goto (t := 58) (dat D_X12_best 30 rfl) rfl ?_
          cases h
          exact AW.to hJ13 (lle_s rfl (lle_s rfl (lle_s rfl (lle_z))))
        · refine AW.aload_n (n := 45) (dat D_X12_best 24 rfl) rfl rfl ?_
          refine AW.getR (n := 48) (t := 78) fX12_48 wF_X12_86 ly_57 (le45 rfl) rfl (dat D_X12_best 25 rfl) rfl ?_
          refine AW.iload_n (n := 49) (dat D_X12_best 26 rfl) rfl rfl ?_
          refine AW.zaldH h (n := 50) rfl ly_78 (le45 rfl) (dat D_X12_best 27 rfl) rfl (fun j20 h => ?_)
          refine AW.if_neH (t := 57) (n := 53) h (dat D_X12_best 28 rfl) rfl rfl (fun h => ?_) (fun h => ?_)
          · refine AW.iconst (n := 54) (dat D_X12_best 29 rfl) rfl ?_
            refine AW.goto (t := 58) (dat D_X12_best 30 rfl) rfl ?_
            cases h
            exact AW.to hJ13 (lle_s rfl (lle_s rfl (lle_s rfl (lle_z))))
          · refine AW.iconst (n := 58) (dat D_X12_best 31 rfl) rfl ?_
            cases h
            exact AW.to hJ13 (lle_s rfl (lle_s rfl (lle_s rfl (lle_z))))
      · refine AW.iconst (n := 66) (dat D_X12_best 35 rfl) rfl ?_
        cases h
        exact AW.iret rfl rfl rfl (dat D_X12_best 36 rfl)
    refine AW.if_neH (t := 27) (n := 23) h (dat D_X12_best 12 rfl) rfl rfl (fun h => ?_) (fun h => ?_)
    · refine AW.iconst (n := 24) (dat D_X12_best 13 rfl) rfl ?_
      refine AW.goto (t := 28) (dat D_X12_best 14 rfl) rfl ?_
      cases h
      exact AW.to hJ8 (lle_s rfl (lle_s rfl (lle_s rfl (lle_z))))
    · refine AW.iconst (n := 28) (dat D_X12_best 15 rfl) rfl ?_
      cases h
      exact AW.to hJ8 (lle_s rfl (lle_s rfl (lle_s rfl (lle_z))))
  · refine AW.iconst (n := 66) (dat D_X12_best 35 rfl) rfl ?_
    cases h
    exact AW.iret rfl rfl rfl (dat D_X12_best 36 rfl)
def L_X12_totalBy : List (Nat × Instr × Nat) := [(0, .aload_n 0, 1), (1, .iload_n 1, 1), (2, .iconst 0, 1), (3, .invokevirtual 343, 3), (6, .istore 4, 2), (8, .aload_n 0, 1), (9, .iload_n 1, 1), (10, .iconst 1, 1), (11, .invokevirtual 343, 3), (14, .istore 5, 2), (16, .iconst 0, 1), (17, .istore 6, 2), (19, .iload 6, 2), (21, .iconst 2, 1), (22, .if_icmp .ge 48, 3), (25, .iload 6, 2), (27, .ifCond .ne 7, 3), (30, .iload_n 2, 1), (31, .goto 4, 3), (34, .iload_n 3, 1), (35, .istore 7, 2), (37, .iload 7, 2), (39, .iload 4, 2), (41, .if_icmp .le 14, 3), (44, .iload 4, 2), (46, .istore 5, 2), (48, .iload 7, 2), (50, .istore 4, 2), (52, .goto 12, 3), (55, .iload 5, 2), (57, .iload 7, 2), (59, .invokestatic 427, 3), (62, .istore 5, 2), (64, .iinc 6 1, 3), (67, .goto (-48), 3), (70, .iload 4, 2), (72, .aload_n 0, 1), (73, .getfield 65, 3), (76, .iload_n 1, 1), (77, .iaload, 1), (78, .ifCond .le 7, 3), (81, .iconst 0, 1), (82, .goto 5, 3), (85, .iload 5, 2), (87, .iadd, 1), (88, .ireturn, 1)]
theorem D_X12_totalBy : dOK cX12_totalBy L_X12_totalBy = true := by decide +kernel
theorem cf_X12_totalBy : CFV mX12_totalBy 3 := ⟨wI_X12_totalBy, wS_X12_totalBy, wN_WaveRightModel, wC_X12_totalBy, rfl, ⟨by decide +kernel, by decide +kernel, by decide +kernel⟩, le45 rfl⟩
def X12_totalBy_e19 (n : Nat) (a0 : Int) (σ : SG) (e9 : Int) (e10 : Int) : Option (Int) :=
  rdA 5 a0 fun j11 =>
  if w32 (σ 71 j11) ≤ 0 then
    some ((e9 + e10))
  else
    some ((e9 + 0))
def X12_totalBy_j64 (n : Nat) (z7 : Int) (y14 : Int) (y15 : Int) : Option ((Int × Int × Int) ⊕ (Int × Int)) :=
  lt (z7 + 1) fun x17 =>
  some (.inl (y14, y15, x17))
def X12_totalBy_j35 (n : Nat) (z5 : Int) (z6 : Int) (z7 : Int) (y12 : Int) : Option ((Int × Int × Int) ⊕ (Int × Int)) :=
  ((if w32 y12 ≤ w32 z5 then
    lt (mx32 z6 y12) fun x18 =>
    some ((z5, x18))
  else
    some ((y12, z5))) : Option (Int × Int)).bind (fun s => X12_totalBy_j64 n z7 s.1 s.2)
def X12_totalBy_l19 (n : Nat) (a1 : Int) (a2 : Int) (z5 : Int) (z6 : Int) (z7 : Int) : Option ((Int × Int × Int) ⊕ (Int × Int)) :=
  if 2 ≤ w32 z7 then
    some (.inr (z5, z6))
  else
    ((if w32 z7 = 0 then
      some (a1)
    else
      some (a2)) : Option (Int)).bind (fun s => X12_totalBy_j35 n z5 z6 z7 s)
def X12_totalBy (n : Nat) (a0 : Int) (a1 : Int) (a2 : Int) (σ : SG) : Option (Int) :=
  (X12_bestOf n a0 0 σ).bind fun v2 =>
  (X12_bestOf n a0 1 σ).bind fun v4 =>
  ((iter n (fun s : Int × Int × Int => X12_totalBy_l19 n a1 a2 s.1 s.2.1 s.2.2) (v2, v4, 0)) : Option (Int × Int)).bind (fun s => X12_totalBy_e19 n a0 σ s.1 s.2)
set_option maxHeartbeats 4000000 in
set_option maxRecDepth 100000 in
theorem A_X12_totalBy {Γ : GA} (hΓ : (gl Γ).stackTraces = false) {n : Nat} {a0 : Int} {a1 : Int} {a2 : Int} {σ : SG} {r : Int}  (h : X12_totalBy n a0 a1 a2 σ = some r) : AM Γ mX12_totalBy 3 0 0 [vR 57, vI a0, vI a1, vI a2] (85, σ) (0, r) (85, σ) := by
  refine AM.of pl_X12 rfl wC_X12_totalBy (le45 rfl) hΓ ?_
  refine AW.to (ls'' := [some (vR 57), some (vI a0), some (vI a1), some (vI a2), none, none, none, none]) ?_ (lle_s rfl (lle_s rfl (lle_s rfl (lle_s rfl (lle_e (lle_e (lle_e (lle_e (lle_z)))))))))
  unfold X12_totalBy at h
  refine AW.aload_n (n := 1) (dat D_X12_totalBy 0 rfl) rfl rfl ?_
  refine AW.iload_n (n := 2) (dat D_X12_totalBy 1 rfl) rfl rfl ?_
  refine AW.iconst (n := 3) (dat D_X12_totalBy 2 rfl) rfl ?_
  obtain ⟨v2, hc1, h⟩ := ob_some h
  refine AW.cV (n := 6) (as := [vI a0, vI 0]) (st := []) (st' := [vI v2]) (uc' := 0) (us' := 0) (A_X12_bestOf hΓ hc1) cf_X12_bestOf ly_57 (le45 rfl) vc_12 (le45 rfl) wM_X12_343 (le45 rfl) (le45 rfl) (dat D_X12_totalBy 3 rfl) rfl rfl (le45 rfl) (le45 rfl) rfl (fun _ => ?_) nlt0
  refine AW.istore (n := 8) (ls' := [some (vR 57), some (vI a0), some (vI a1), some (vI a2), some (vI v2), none, none, none]) (dat D_X12_totalBy 4 rfl) rfl (le45 rfl) (le45 rfl) rfl rfl ?_
  refine AW.aload_n (n := 9) (dat D_X12_totalBy 5 rfl) rfl rfl ?_
  refine AW.iload_n (n := 10) (dat D_X12_totalBy 6 rfl) rfl rfl ?_
  refine AW.iconst (n := 11) (dat D_X12_totalBy 7 rfl) rfl ?_
  obtain ⟨v4, hc3, h⟩ := ob_some h
  refine AW.cV (n := 14) (as := [vI a0, vI 1]) (st := []) (st' := [vI v4]) (uc' := 0) (us' := 0) (A_X12_bestOf hΓ hc3) cf_X12_bestOf ly_57 (le45 rfl) vc_12 (le45 rfl) wM_X12_343 (le45 rfl) (le45 rfl) (dat D_X12_totalBy 8 rfl) rfl rfl (le45 rfl) (le45 rfl) rfl (fun _ => ?_) nlt0
  refine AW.istore (n := 16) (ls' := [some (vR 57), some (vI a0), some (vI a1), some (vI a2), some (vI v2), some (vI v4), none, none]) (dat D_X12_totalBy 9 rfl) rfl (le45 rfl) (le45 rfl) rfl rfl ?_
  refine AW.iconst (n := 17) (dat D_X12_totalBy 10 rfl) rfl ?_
  refine AW.istore (n := 19) (ls' := [some (vR 57), some (vI a0), some (vI a1), some (vI a2), some (vI v2), some (vI v4), some (vI 0), none]) (dat D_X12_totalBy 11 rfl) rfl (le45 rfl) (le45 rfl) rfl rfl ?_
  obtain ⟨b8, hi8, hq8⟩ := ob_some h
  obtain ⟨e9, e10⟩ := b8
  have hR8 : AW Γ mX12_totalBy 3 (0, r) (85, σ) 0 0 70 [some (vR 57), some (vI a0), none, none, some (vI e9), some (vI e10), none, none] [] (85, σ) := by
    have h : X12_totalBy_e19 n a0 σ e9 e10 = some _ := hq8
    unfold X12_totalBy_e19 at h
    refine AW.iload (n := 72) (dat D_X12_totalBy 35 rfl) rfl rfl ?_
    refine AW.aload_n (n := 73) (dat D_X12_totalBy 36 rfl) rfl rfl ?_
    refine AW.getR (n := 76) (t := 71) fX12_41 wF_X12_65 ly_57 (le45 rfl) rfl (dat D_X12_totalBy 37 rfl) rfl ?_
    refine AW.iload_n (n := 77) (dat D_X12_totalBy 38 rfl) rfl rfl ?_
    refine AW.ialdH h (n := 78) rfl ly_71 (le45 rfl) (dat D_X12_totalBy 39 rfl) rfl (fun j11 h => ?_)
    refine AW.if_leH (t := 85) (n := 81) h (dat D_X12_totalBy 40 rfl) rfl rfl (fun h => ?_) (fun h => ?_)
    · refine AW.iload (n := 87) (dat D_X12_totalBy 43 rfl) rfl rfl ?_
      refine AW.iadd (n := 88) (dat D_X12_totalBy 44 rfl) rfl ?_
      cases h
      exact AW.iret rfl rfl rfl (dat D_X12_totalBy 45 rfl)
    · refine AW.iconst (n := 82) (dat D_X12_totalBy 41 rfl) rfl ?_
      refine AW.goto (t := 87) (dat D_X12_totalBy 42 rfl) rfl ?_
      refine AW.iadd (n := 88) (dat D_X12_totalBy 44 rfl) rfl ?_
      cases h
      exact AW.iret rfl rfl rfl (dat D_X12_totalBy 45 rfl)
  refine AW.to (ls'' := [some (vR 57), some (vI a0), some (vI a1), some (vI a2), some (vI v2), some (vI v4), some (vI 0), none]) ?_ (lle_s rfl (lle_s rfl (lle_s rfl (lle_s rfl (lle_s rfl (lle_s rfl (lle_s rfl (lle_n (lle_z)))))))))
  refine aw_iter (fun s : Int × Int × Int => AW Γ mX12_totalBy 3 (0, r) (85, σ) 0 0 19 [some (vR 57), some (vI a0), some (vI a1), some (vI a2), some (vI (s.1)), some (vI (s.2.1)), some (vI (s.2.2)), none] [] (85, σ)) (fun s y h hk8 hb8 => ?_) _ _ hi8
  obtain ⟨z5, z6, z7⟩ := s
  show AW Γ mX12_totalBy 3 (0, r) (85, σ) 0 0 19 [some (vR 57), some (vI a0), some (vI a1), some (vI a2), some (vI z5), some (vI z6), some (vI z7), none] [] (85, σ)
  have h : X12_totalBy_l19 n a1 a2 z5 z6 z7 = some y := h
  unfold X12_totalBy_l19 at h
  refine AW.iload (n := 21) (dat D_X12_totalBy 12 rfl) rfl rfl ?_
  refine AW.iconst (n := 22) (dat D_X12_totalBy 13 rfl) rfl ?_
  refine AW.icmp_geH (t := 70) (n := 25) h (dat D_X12_totalBy 14 rfl) rfl rfl rfl (by decide) (fun h => ?_) (fun h => ?_)
  · cases h
    have hb := hb8 _ rfl
    cases hb
    exact AW.to hR8 (lle_s rfl (lle_s rfl (lle_n (lle_n (lle_s rfl (lle_s rfl (lle_n (lle_n (lle_z)))))))))
  · refine AW.iload (n := 27) (dat D_X12_totalBy 15 rfl) rfl rfl ?_
    obtain ⟨s13, h, hq13⟩ := ob_some h
    obtain ⟨y12, e13⟩ : ∃ z, z = s13 := ⟨_, rfl⟩
    subst e13
    have hJ13 : AW Γ mX12_totalBy 3 (0, r) (85, σ) 0 0 35 [some (vR 57), some (vI a0), some (vI a1), some (vI a2), some (vI z5), some (vI z6), some (vI z7), none] [vI y12] (85, σ) := by
      have h : X12_totalBy_j35 n z5 z6 z7 y12 = some _ := hq13
      unfold X12_totalBy_j35 at h
      refine AW.istore (n := 37) (ls' := [some (vR 57), some (vI a0), some (vI a1), some (vI a2), some (vI z5), some (vI z6), some (vI z7), some (vI y12)]) (dat D_X12_totalBy 20 rfl) rfl (le45 rfl) (le45 rfl) rfl rfl ?_
      refine AW.iload (n := 39) (dat D_X12_totalBy 21 rfl) rfl rfl ?_
      refine AW.iload (n := 41) (dat D_X12_totalBy 22 rfl) rfl rfl ?_
      obtain ⟨s16, h, hq16⟩ := ob_some h
      obtain ⟨y14, y15⟩ := s16
      have hJ16 : AW Γ mX12_totalBy 3 (0, r) (85, σ) 0 0 64 [some (vR 57), some (vI a0), some (vI a1), some (vI a2), some (vI y14), some (vI y15), some (vI z7), none] [] (85, σ) := by
        have h : X12_totalBy_j64 n z7 y14 y15 = some _ := hq16
        unfold X12_totalBy_j64 at h
        refine AW.iincH h (n := 67) (dat D_X12_totalBy 33 rfl) rfl rfl (le45 rfl) rfl (fun x17 h => ?_)
        refine AW.lq (ls' := [some (vR 57), some (vI a0), some (vI a1), some (vI a2), some (vI y14), some (vI y15), some (vI x17), none]) rfl ?_
        refine AW.goto (t := 19) (dat D_X12_totalBy 34 rfl) rfl ?_
        cases h
        exact AW.to (hk8 _ rfl) (lle_s rfl (lle_s rfl (lle_s rfl (lle_s rfl (lle_s rfl (lle_s rfl (lle_s rfl (lle_n (lle_z)))))))))
      refine AW.icmp_leH (t := 55) (n := 44) h (dat D_X12_totalBy 23 rfl) rfl rfl rfl rfl (fun h => ?_) (fun h => ?_)
      · refine AW.iload (n := 57) (dat D_X12_totalBy 29 rfl) rfl rfl ?_
        refine AW.iload (n := 59) (dat D_X12_totalBy 30 rfl) rfl rfl ?_
        refine AW.mmax (n := 62) wM_X12_427 (le45 rfl) (le45 rfl) (dat D_X12_totalBy 31 rfl) rfl ?_
        refine AW.ltI h (fun x18 h => ?_)
        refine AW.istore (n := 64) (ls' := [some (vR 57), some (vI a0), some (vI a1), some (vI a2), some (vI z5), some (vI x18), some (vI z7), some (vI y12)]) (dat D_X12_totalBy 32 rfl) rfl (le45 rfl) (le45 rfl) rfl rfl ?_
        cases h
        exact AW.to hJ16 (lle_s rfl (lle_s rfl (lle_s rfl (lle_s rfl (lle_s rfl (lle_s rfl (lle_s rfl (lle_n (lle_z)))))))))
      · refine AW.iload (n := 46) (dat D_X12_totalBy 24 rfl) rfl rfl ?_
        refine AW.istore (n := 48) (ls' := [some (vR 57), some (vI a0), some (vI a1), some (vI a2), some (vI z5), some (vI z5), some (vI z7), some (vI y12)]) (dat D_X12_totalBy 25 rfl) rfl (le45 rfl) (le45 rfl) rfl rfl ?_
        refine AW.iload (n := 50) (dat D_X12_totalBy 26 rfl) rfl rfl ?_
        refine AW.istore (n := 52) (ls' := [some (vR 57), some (vI a0), some (vI a1), some (vI a2), some (vI y12), some (vI z5), some (vI z7), some (vI y12)]) (dat D_X12_totalBy 27 rfl) rfl (le45 rfl) (le45 rfl) rfl rfl ?_
        refine AW.goto (t := 64) (dat D_X12_totalBy 28 rfl) rfl ?_
        cases h
        exact AW.to hJ16 (lle_s rfl (lle_s rfl (lle_s rfl (lle_s rfl (lle_s rfl (lle_s rfl (lle_s rfl (lle_n (lle_z)))))))))
    refine AW.if_neH (t := 34) (n := 30) h (dat D_X12_totalBy 16 rfl) rfl rfl (fun h => ?_) (fun h => ?_)
    · refine AW.iload_n (n := 31) (dat D_X12_totalBy 17 rfl) rfl rfl ?_
      refine AW.goto (t := 35) (dat D_X12_totalBy 18 rfl) rfl ?_
      cases h
      exact AW.to hJ13 (lle_s rfl (lle_s rfl (lle_s rfl (lle_s rfl (lle_s rfl (lle_s rfl (lle_s rfl (lle_n (lle_z)))))))))
    · refine AW.iload_n (n := 35) (dat D_X12_totalBy 19 rfl) rfl rfl ?_
      cases h
      exact AW.to hJ13 (lle_s rfl (lle_s rfl (lle_s rfl (lle_s rfl (lle_s rfl (lle_s rfl (lle_s rfl (lle_n (lle_z)))))))))
def L_X12_plan : List (Nat × Instr × Nat) := [(0, .aload_n 0, 1), (1, .iconst 0, 1), (2, .putfield 105, 3), (5, .aload_n 0, 1), (6, .iload_n 1, 1), (7, .invokevirtual 435, 3), (10, .ifCond .ne 61, 3), (13, .aload_n 0, 1), (14, .iload_n 2, 1), (15, .iconst 0, 1), (16, .iconst 2, 1), (17, .invokestatic 164, 3), (20, .ifCond .ne 7, 3), (23, .iconst 1, 1), (24, .goto 4, 3), (27, .iconst 0, 1), (28, .iconst 2, 1), (29, .invokevirtual 230, 3), (32, .ifCond .ne 39, 3), (35, .aload_n 0, 1), (36, .aload_n 0, 1), (37, .iload_n 1, 1), (38, .invokevirtual 416, 3), (41, .ifCond .ne 18, 3), (44, .aload_n 0, 1), (45, .iload_n 1, 1), (46, .invokevirtual 387, 3), (49, .ifCond .ne 10, 3), (52, .aload_n 0, 1), (53, .getfield 52, 3), (56, .ifCond .eq 7, 3), (59, .iconst 1, 1), (60, .goto 4, 3), (63, .iconst 0, 1), (64, .iconst 3, 1), (65, .invokevirtual 230, 3), (68, .ifCond .eq 5, 3), (71, .iconst 0, 1), (72, .ireturn, 1), (73, .aload_n 0, 1), (74, .getfield 354, 3), (77, .istore_n 3, 1), (78, .iload_n 3, 1), (79, .aload_n 0, 1), (80, .getfield 21, 3), (83, .iconst 1, 1), (84, .iaload, 1), (85, .if_icmp .ge 150, 3), (88, .aload_n 0, 1), (89, .iload_n 1, 1), (90, .iload_n 3, 1), (91, .iconst 1, 1), (92, .invokevirtual 448, 3), (95, .aload_n 0, 1), (96, .getfield 96, 3), (99, .iconst 0, 1), (100, .iaload, 1), (101, .iconst (-1), 1), (102, .if_icmp .eq 51, 3), (105, .aload_n 0, 1), (106, .iload_n 3, 1), (107, .iconst 0, 1), (108, .invokevirtual 333, 3), (111, .aload_n 0, 1), (112, .getfield 340, 3), (115, .aload_n 0, 1), (116, .getfield 21, 3), (119, .iconst 2, 1), (120, .iaload, 1), (121, .iadd, 1), (122, .if_icmp .gt 31, 3), (125, .aload_n 0, 1), (126, .getfield 86, 3), (129, .iload_n 1, 1), (130, .baload, 1), (131, .ifCond .ne 18, 3), (134, .aload_n 0, 1), (135, .iload_n 3, 1), (136, .iconst 0, 1), (137, .invokevirtual 333, 3), (140, .aload_n 0, 1), (141, .getfield 62, 3), (144, .iload_n 1, 1), (145, .iaload, 1), (146, .if_icmp .lt 7, 3), (149, .iconst 1, 1), (150, .goto 4, 3), (153, .iconst 0, 1), (154, .istore 4, 2), (156, .aload_n 0, 1), (157, .getfield 99, 3), (160, .iload_n 3, 1), (161, .iload 4, 2), (163, .ifCond .eq 12, 3), (166, .aload_n 0, 1), (167, .getfield 96, 3), (170, .iconst 2, 1), (171, .iaload, 1), (172, .goto 4, 3), (175, .iconst (-1), 1), (176, .iastore, 1), (177, .aload_n 0, 1), (178, .getfield 102, 3), (181, .iload_n 3, 1), (182, .iload 4, 2), (184, .ifCond .eq 43, 3), (187, .aload_n 0, 1), (188, .iload_n 3, 1), (189, .iconst 0, 1), (190, .invokevirtual 333, 3), (193, .iconst 1, 1), (194, .iadd, 1), (195, .aload_n 0, 1), (196, .getfield 96, 3), (199, .iconst 0, 1), (200, .iaload, 1), (201, .aload_n 0, 1), (202, .getfield 21, 3), (205, .bipush 39, 2), (207, .iload_n 1, 1), (208, .iadd, 1), (209, .iaload, 1), (210, .iadd, 1), (211, .iconst 1, 1), (212, .isub, 1), (213, .aload_n 0, 1), (214, .getfield 21, 3), (217, .bipush 39, 2), (219, .iload_n 1, 1), (220, .iadd, 1), (221, .iaload, 1), (222, .idiv, 1), (223, .iadd, 1), (224, .goto 4, 3), (227, .iconst 0, 1), (228, .iastore, 1), (229, .iinc 3 1, 3), (232, .goto (-154), 3), (235, .aload_n 0, 1), (236, .iload_n 1, 1), (237, .invokevirtual 429, 3), (240, .istore_n 3, 1), (241, .iconst (-1), 1), (242, .istore 4, 2), (244, .iconst (-1), 1), (245, .istore 5, 2), (247, .aload_n 0, 1), (248, .getfield 354, 3), (251, .istore 6, 2), (253, .iload 6, 2), (255, .aload_n 0, 1), (256, .getfield 21, 3), (259, .iconst 1, 1), (260, .iaload, 1), (261, .if_icmp .ge 58, 3), (264, .aload_n 0, 1), (265, .getfield 99, 3), (268, .iload 6, 2), (270, .iaload, 1), (271, .iconst (-1), 1), (272, .if_icmp .eq 41, 3), (275, .aload_n 0, 1), (276, .iload_n 1, 1), (277, .aload_n 0, 1), (278, .getfield 99, 3), (281, .iload 6, 2), (283, .iaload, 1), (284, .iconst (-1), 1), (285, .invokevirtual 452, 3), (288, .iload_n 3, 1), (289, .if_icmp .gt 6, 3), (292, .goto 21, 3), (295, .aload_n 0, 1), (296, .iload_n 1, 1), (297, .aload_n 0, 1), (298, .getfield 99, 3), (301, .iload 6, 2), (303, .iaload, 1), (304, .iconst (-1), 1), (305, .invokevirtual 452, 3), (308, .istore_n 3, 1), (309, .iload 6, 2), (311, .istore 4, 2), (313, .iinc 6 1, 3), (316, .goto (-63), 3), (319, .aload_n 0, 1), (320, .getfield 354, 3), (323, .istore 6, 2), (325, .iload 6, 2), (327, .aload_n 0, 1), (328, .getfield 21, 3), (331, .iconst 1, 1), (332, .iaload, 1), (333, .if_icmp .ge 125, 3), (336, .iload 6, 2), (338, .iconst 1, 1), (339, .iadd, 1), (340, .istore 7, 2), (342, .iload 7, 2), (344, .aload_n 0, 1), (345, .getfield 21, 3), (348, .iconst 1, 1), (349, .iaload, 1), (350, .if_icmp .ge 102, 3), (353, .aload_n 0, 1), (354, .getfield 99, 3), (357, .iload 6, 2), (359, .iaload, 1), (360, .iconst (-1), 1), (361, .if_icmp .eq 85, 3), (364, .aload_n 0, 1), (365, .getfield 99, 3), (368, .iload 7, 2), (370, .iaload, 1), (371, .iconst (-1), 1), (372, .if_icmp .eq 74, 3), (375, .aload_n 0, 1), (376, .iload 7, 2), (378, .iconst 0, 1), (379, .invokevirtual 333, 3), (382, .aload_n 0, 1), (383, .getfield 102, 3), (386, .iload 6, 2), (388, .iaload, 1), (389, .if_icmp .lt 57, 3), (392, .aload_n 0, 1), (393, .iload_n 1, 1), (394, .aload_n 0, 1), (395, .getfield 99, 3), (398, .iload 6, 2), (400, .iaload, 1), (401, .aload_n 0, 1), (402, .getfield 99, 3), (405, .iload 7, 2), (407, .iaload, 1), (408, .invokevirtual 452, 3), (411, .iload_n 3, 1), (412, .if_icmp .gt 6, 3), (415, .goto 31, 3), (418, .aload_n 0, 1), (419, .iload_n 1, 1), (420, .aload_n 0, 1), (421, .getfield 99, 3), (424, .iload 6, 2), (426, .iaload, 1), (427, .aload_n 0, 1), (428, .getfield 99, 3), (431, .iload 7, 2), (433, .iaload, 1), (434, .invokevirtual 452, 3), (437, .istore_n 3, 1), (438, .iload 6, 2), (440, .istore 4, 2), (442, .iload 7, 2), (444, .istore 5, 2), (446, .iinc 7 1, 3), (449, .goto (-107), 3), (452, .iinc 6 1, 3), (455, .goto (-130), 3), (458, .iload_n 2, 1), (459, .ifCond .ne 7, 3), (462, .iload_n 3, 1), (463, .goto 15, 3), (466, .iload_n 2, 1), (467, .iconst 1, 1), (468, .if_icmp .ne 8, 3), (471, .iload 4, 2), (473, .goto 5, 3), (476, .iload 5, 2), (478, .ireturn, 1)]
theorem D_X12_plan : dOK cX12_plan L_X12_plan = true := by decide +kernel
theorem cf_X12_plan : CFV mX12_plan 2 := ⟨wI_X12_plan, wS_X12_plan, wN_WaveRightModel, wC_X12_plan, rfl, ⟨by decide +kernel, by decide +kernel, by decide +kernel⟩, le45 rfl⟩
def X12_plan_e325 (n : Nat) (a1 : Int) (σ23 : SG) (e39 : Int) (e40 : Int) (e41 : Int) : Option (Int × SG) :=
  if w32 a1 = 0 then
    some ((e39, σ23))
  else
    if w32 a1 = 1 then
      some ((e40, σ23))
    else
      some ((e41, σ23))
def X12_plan_e342 (n : Nat) (z37 : Int) (e49 : Int) (e50 : Int) (e51 : Int) : Option ((Int × Int × Int × Int) ⊕ (Int × Int × Int)) :=
  lt (z37 + 1) fun x52 =>
  some (.inl (e49, e50, e51, x52))
def X12_plan_j446 (n : Nat) (z47 : Int) (y55 : Int) (y56 : Int) (y57 : Int) : Option ((Int × Int × Int × Int) ⊕ (Int × Int × Int)) :=
  lt (z47 + 1) fun x59 =>
  some (.inl (y55, y56, y57, x59))
def X12_plan_l342 (n : Nat) (σ23 : SG) (z37 : Int) (a0 : Int) (z44 : Int) (z45 : Int) (z46 : Int) (z47 : Int) : Option ((Int × Int × Int × Int) ⊕ (Int × Int × Int)) :=
  rdA 144 1 fun j53 =>
  if w32 (σ23 60 j53) ≤ w32 z47 then
    some (.inr (z44, z45, z46))
  else
    rdA 20 z37 fun j54 =>
    ((if w32 (σ23 82 j54) = (-1) then
      some ((z44, z45, z46))
    else
      rdA 20 z47 fun j60 =>
      if w32 (σ23 82 j60) = (-1) then
        some ((z44, z45, z46))
      else
        (X12_ofWave n z47 0 σ23).bind fun v62 =>
        rdA 20 z37 fun j63 =>
        if w32 v62 < w32 (σ23 83 j63) then
          some ((z44, z45, z46))
        else
          rdA 20 z37 fun j64 =>
          rdA 20 z47 fun j65 =>
          (X12_totalBy n a0 (σ23 82 j64) (σ23 82 j65) σ23).bind fun v67 =>
          if w32 z44 < w32 v67 then
            rdA 20 z37 fun j68 =>
            rdA 20 z47 fun j69 =>
            (X12_totalBy n a0 (σ23 82 j68) (σ23 82 j69) σ23).bind fun v71 =>
            some ((v71, z37, z47))
          else
            some ((z44, z45, z46))) : Option (Int × Int × Int)).bind (fun s => X12_plan_j446 n z47 s.1 s.2.1 s.2.2)
def X12_plan_l325 (n : Nat) (σ23 : SG) (a0 : Int) (z34 : Int) (z35 : Int) (z36 : Int) (z37 : Int) : Option ((Int × Int × Int × Int) ⊕ (Int × Int × Int)) :=
  rdA 144 1 fun j42 =>
  if w32 (σ23 60 j42) ≤ w32 z37 then
    some (.inr (z34, z35, z36))
  else
    lt (z37 + 1) fun x43 =>
    ((iter n (fun s : Int × Int × Int × Int => X12_plan_l342 n σ23 z37 a0 s.1 s.2.1 s.2.2.1 s.2.2.2) (z34, z35, z36, x43)) : Option (Int × Int × Int)).bind (fun s => X12_plan_e342 n z37 s.1 s.2.1 s.2.2)
def X12_plan_e253 (n : Nat) (σ23 : SG) (a0 : Int) (a1 : Int) (e31 : Int) (e32 : Int) : Option (Int × SG) :=
  lt (σ23 57 28) fun x33 =>
  ((iter n (fun s : Int × Int × Int × Int => X12_plan_l325 n σ23 a0 s.1 s.2.1 s.2.2.1 s.2.2.2) (e31, e32, (-1), x33)) : Option (Int × Int × Int)).bind (fun s => X12_plan_e325 n a1 σ23 s.1 s.2.1 s.2.2)
def X12_plan_j313 (n : Nat) (z29 : Int) (y74 : Int) (y75 : Int) : Option ((Int × Int × Int) ⊕ (Int × Int)) :=
  lt (z29 + 1) fun x77 =>
  some (.inl (y74, y75, x77))
def X12_plan_l253 (n : Nat) (σ23 : SG) (a0 : Int) (z27 : Int) (z28 : Int) (z29 : Int) : Option ((Int × Int × Int) ⊕ (Int × Int)) :=
  rdA 144 1 fun j72 =>
  if w32 (σ23 60 j72) ≤ w32 z29 then
    some (.inr (z27, z28))
  else
    rdA 20 z29 fun j73 =>
    ((if w32 (σ23 82 j73) = (-1) then
      some ((z27, z28))
    else
      rdA 20 z29 fun j78 =>
      (X12_totalBy n a0 (σ23 82 j78) (-1) σ23).bind fun v80 =>
      if w32 z27 < w32 v80 then
        rdA 20 z29 fun j81 =>
        (X12_totalBy n a0 (σ23 82 j81) (-1) σ23).bind fun v83 =>
        some ((v83, z29))
      else
        some ((z27, z28))) : Option (Int × Int)).bind (fun s => X12_plan_j313 n z29 s.1 s.2)
def X12_plan_e78 (n : Nat) (a0 : Int) (a1 : Int) (σ23 : SG) : Option (Int × SG) :=
  (X12_totalOf n a0 σ23).bind fun v25 =>
  lt (σ23 57 28) fun x26 =>
  ((iter n (fun s : Int × Int × Int => X12_plan_l253 n σ23 a0 s.1 s.2.1 s.2.2) (v25, (-1), x26)) : Option (Int × Int)).bind (fun s => X12_plan_e253 n σ23 a0 a1 s.1 s.2)
def X12_plan_j228 (n : Nat) (z20 : Int) (σ93 : SG) (y94 : Int) : Option ((Int × SG) ⊕ (SG)) :=
  rdA 20 z20 fun j96 => lt (up σ93 83 j96 y94) fun σ97 =>
  lt (z20 + 1) fun x98 =>
  some (.inl (x98, σ97))
def X12_plan_j176 (n : Nat) (z20 : Int) (σ86 : SG) (y88 : Int) (a0 : Int) (y90 : Int) : Option ((Int × SG) ⊕ (SG)) :=
  rdA 20 z20 fun j92 => lt (up σ86 82 j92 y90) fun σ93 =>
  ((if w32 y88 = 0 then
    some (0)
  else
    (X12_ofWave n z20 0 σ93).bind fun v100 =>
    rdA 3 0 fun j101 =>
    rdA 144 (39 + a0) fun j102 =>
    rdA 144 (39 + a0) fun j103 =>
    if w32 (σ93 60 j103) = 0 then none else
    some (((v100 + 1) + (dv32 (((σ93 81 j101) + (σ93 60 j102)) - 1) (σ93 60 j103))))) : Option (Int)).bind (fun s => X12_plan_j228 n z20 σ93 s)
def X12_plan_j154 (n : Nat) (σ86 : SG) (z20 : Int) (a0 : Int) (y88 : Int) : Option ((Int × SG) ⊕ (SG)) :=
  ((if w32 y88 = 0 then
    some ((-1))
  else
    rdA 3 2 fun j105 =>
    some ((σ86 81 j105))) : Option (Int)).bind (fun s => X12_plan_j176 n z20 σ86 y88 a0 s)
def X12_plan_l78 (n : Nat) (a0 : Int) (z20 : Int) (σ21 : SG) : Option ((Int × SG) ⊕ (SG)) :=
  rdA 144 1 fun j84 =>
  if w32 (σ21 60 j84) ≤ w32 z20 then
    some (.inr σ21)
  else
    (X12_laysBest n a0 z20 1 σ21).bind fun σ86 =>
    rdA 3 0 fun j87 =>
    ((if w32 (σ86 81 j87) = (-1) then
      some (0)
    else
      (X12_ofWave n z20 0 σ86).bind fun v107 =>
      rdA 144 2 fun j108 =>
      if w32 ((σ86 57 26) + (σ86 60 j108)) < w32 v107 then
        some (0)
      else
        rdA 5 a0 fun j109 =>
        if w32 (σ86 78 j109) = 0 then
          (X12_ofWave n z20 0 σ86).bind fun v111 =>
          rdA 5 a0 fun j112 =>
          if w32 v111 < w32 (σ86 70 j112) then
            some (0)
          else
            some (1)
        else
          some (1)) : Option (Int)).bind (fun s => X12_plan_j154 n σ86 z20 a0 s)
def X12_plan_j64 (n : Nat) (σ11 : SG) (a0 : Int) (a1 : Int) (y14 : Int) : Option (Int × SG) :=
  bnd2 (X12_throwsIf n y14 3 σ11) fun v17 σ18 =>
  if w32 v17 = 0 then
    lt (σ18 57 28) fun x19 =>
    ((iter n (fun s : Int × SG => X12_plan_l78 n a0 s.1 s.2) (x19, σ18)) : Option (SG)).bind (fun s => X12_plan_e78 n a0 a1 s)
  else
    some ((0, σ18))
def X12_plan_j28 (n : Nat) (σ4 : SG) (a0 : Int) (a1 : Int) (y7 : Int) : Option (Int × SG) :=
  bnd2 (X12_throwsIf n y7 2 σ4) fun v10 σ11 =>
  if w32 v10 = 0 then
    (X12_isSentIn n a0 σ11).bind fun v13 =>
    ((if w32 v13 = 0 then
      (X12_hasTaken n a0 σ11).bind fun v114 =>
      if w32 v114 = 0 then
        if w32 (σ11 57 35) = 0 then
          some (0)
        else
          some (1)
      else
        some (1)
    else
      some (1)) : Option (Int)).bind (fun s => X12_plan_j64 n σ11 a0 a1 s)
  else
    some ((0, σ11))
def X12_plan (n : Nat) (a0 : Int) (a1 : Int) (σ : SG) : Option (Int × SG) :=
  lt (up σ 57 0 0) fun σ1 =>
  bnd2 (X12_noSurfer n a0 σ1) fun v3 σ4 =>
  if w32 v3 = 0 then
    (X12_in n a1 0 2 σ4).bind fun v6 =>
    ((if w32 v6 = 0 then
      some (1)
    else
      some (0)) : Option (Int)).bind (fun s => X12_plan_j28 n σ4 a0 a1 s)
  else
    some ((0, σ4))
set_option maxHeartbeats 4000000 in
set_option maxRecDepth 100000 in
theorem A_X12_plan {Γ : GA} (hΓ : (gl Γ).stackTraces = false) {n : Nat} {a0 : Int} {a1 : Int} {σ : SG} {r : Int} {τ : SG}  (h : X12_plan n a0 a1 σ = some (r, τ)) : AM Γ mX12_plan 7 0 0 [vR 57, vI a0, vI a1] (85, σ) (0, r) (85, τ) := by
  refine AM.of pl_X12 rfl wC_X12_plan (le45 rfl) hΓ ?_
  refine AW.to (ls'' := [some (vR 57), some (vI a0), some (vI a1), none, none, none, none, none]) ?_ (lle_s rfl (lle_s rfl (lle_s rfl (lle_e (lle_e (lle_e (lle_e (lle_e (lle_z)))))))))
  unfold X12_plan at h
  refine AW.aload_n (n := 1) (dat D_X12_plan 0 rfl) rfl rfl ?_
  refine AW.iconst (n := 2) (dat D_X12_plan 1 rfl) rfl ?_
  refine AW.putI (n := 5) fX12_0 wF_X12_105 ly_57 (le45 rfl) rfl rfl rfl (dat D_X12_plan 2 rfl) rfl ?_
  refine AW.ltS h (fun σ1 h => ?_)
  refine AW.aload_n (n := 6) (dat D_X12_plan 3 rfl) rfl rfl ?_
  refine AW.iload_n (n := 7) (dat D_X12_plan 4 rfl) rfl rfl ?_
  obtain ⟨v3, σ4, hc2, h⟩ := bnd2_some h
  refine AW.cV (n := 10) (as := [vI a0]) (st := []) (st' := [vI v3]) (uc' := 0) (us' := 0) (A_X12_noSurfer hΓ hc2) cf_X12_noSurfer ly_57 (le45 rfl) vc_12 (le45 rfl) wM_X12_435 (le45 rfl) (le45 rfl) (dat D_X12_plan 5 rfl) rfl rfl (le45 rfl) (le45 rfl) rfl (fun _ => ?_) nlt0
  refine AW.if_neH (t := 71) (n := 13) h (dat D_X12_plan 6 rfl) rfl rfl (fun h => ?_) (fun h => ?_)
  · refine AW.aload_n (n := 14) (dat D_X12_plan 7 rfl) rfl rfl ?_
    refine AW.iload_n (n := 15) (dat D_X12_plan 8 rfl) rfl rfl ?_
    refine AW.iconst (n := 16) (dat D_X12_plan 9 rfl) rfl ?_
    refine AW.iconst (n := 17) (dat D_X12_plan 10 rfl) rfl ?_
    obtain ⟨v6, hc5, h⟩ := ob_some h
    refine AW.cS (n := 20) (as := [vI a1, vI 0, vI 2]) (st := [vR 57]) (st' := [vI v6, vR 57]) (uc' := 0) (us' := 0) (A_X12_in hΓ hc5) cf_X12_in rfl wM_X12_164 (le45 rfl) (le45 rfl) (dat D_X12_plan 11 rfl) rfl rfl (le45 rfl) (le45 rfl) rfl (fun _ => ?_) nlt0
    obtain ⟨s8, h, hq8⟩ := ob_some h
    obtain ⟨y7, e8⟩ : ∃ z, z = s8 := ⟨_, rfl⟩
    subst e8
    have hJ8 : AW Γ mX12_plan 7 (0, r) (85, τ) 0 0 28 [some (vR 57), some (vI a0), some (vI a1), none, none, none, none, none] [vI y7, vR 57] (85, σ4) := by
      have h : X12_plan_j28 n σ4 a0 a1 y7 = some _ := hq8
      unfold X12_plan_j28 at h
      refine AW.iconst (n := 29) (dat D_X12_plan 16 rfl) rfl ?_
      obtain ⟨v10, σ11, hc9, h⟩ := bnd2_some h
      refine AW.cV (n := 32) (as := [vI y7, vI 2]) (st := []) (st' := [vI v10]) (uc' := 0) (us' := 0) (A_X12_throwsIf hΓ hc9) cf_X12_throwsIf ly_57 (le45 rfl) vc_12 (le45 rfl) wM_X12_230 (le45 rfl) (le45 rfl) (dat D_X12_plan 17 rfl) rfl rfl (le45 rfl) (le45 rfl) rfl (fun _ => ?_) nlt0
      refine AW.if_neH (t := 71) (n := 35) h (dat D_X12_plan 18 rfl) rfl rfl (fun h => ?_) (fun h => ?_)
      · refine AW.aload_n (n := 36) (dat D_X12_plan 19 rfl) rfl rfl ?_
        refine AW.aload_n (n := 37) (dat D_X12_plan 20 rfl) rfl rfl ?_
        refine AW.iload_n (n := 38) (dat D_X12_plan 21 rfl) rfl rfl ?_
        obtain ⟨v13, hc12, h⟩ := ob_some h
        refine AW.cV (n := 41) (as := [vI a0]) (st := [vR 57]) (st' := [vI v13, vR 57]) (uc' := 0) (us' := 0) (A_X12_isSentIn hΓ hc12) cf_X12_isSentIn ly_57 (le45 rfl) vc_12 (le45 rfl) wM_X12_416 (le45 rfl) (le45 rfl) (dat D_X12_plan 22 rfl) rfl rfl (le45 rfl) (le45 rfl) rfl (fun _ => ?_) nlt0
        obtain ⟨s15, h, hq15⟩ := ob_some h
        obtain ⟨y14, e15⟩ : ∃ z, z = s15 := ⟨_, rfl⟩
        subst e15
        have hJ15 : AW Γ mX12_plan 7 (0, r) (85, τ) 0 0 64 [some (vR 57), some (vI a0), some (vI a1), none, none, none, none, none] [vI y14, vR 57] (85, σ11) := by
          have h : X12_plan_j64 n σ11 a0 a1 y14 = some _ := hq15
          unfold X12_plan_j64 at h
          refine AW.iconst (n := 65) (dat D_X12_plan 34 rfl) rfl ?_
          obtain ⟨v17, σ18, hc16, h⟩ := bnd2_some h
          refine AW.cV (n := 68) (as := [vI y14, vI 3]) (st := []) (st' := [vI v17]) (uc' := 0) (us' := 0) (A_X12_throwsIf hΓ hc16) cf_X12_throwsIf ly_57 (le45 rfl) vc_12 (le45 rfl) wM_X12_230 (le45 rfl) (le45 rfl) (dat D_X12_plan 35 rfl) rfl rfl (le45 rfl) (le45 rfl) rfl (fun _ => ?_) nlt0
          refine AW.if_eqH (t := 73) (n := 71) h (dat D_X12_plan 36 rfl) rfl rfl (fun h => ?_) (fun h => ?_)
          · refine AW.aload_n (n := 74) (dat D_X12_plan 39 rfl) rfl rfl ?_
            refine AW.getI (n := 77) fX12_28 wF_X12_354 ly_57 (le45 rfl) rfl rfl (dat D_X12_plan 40 rfl) rfl ?_
            refine AW.ltI h (fun x19 h => ?_)
            refine AW.istore_n (n := 78) (ls' := [some (vR 57), some (vI a0), some (vI a1), some (vI x19), none, none, none, none]) (dat D_X12_plan 41 rfl) rfl (le45 rfl) (le45 rfl) rfl rfl ?_
            obtain ⟨b22, hi22, hq22⟩ := ob_some h
            obtain ⟨σ23, e22⟩ : ∃ z, z = b22 := ⟨_, rfl⟩
            subst e22
            have hR22 : AW Γ mX12_plan 7 (0, r) (85, τ) 0 0 235 [some (vR 57), some (vI a0), some (vI a1), none, none, none, none, none] [] (85, σ23) := by
              have h : X12_plan_e78 n a0 a1 σ23 = some _ := hq22
              unfold X12_plan_e78 at h
              refine AW.aload_n (n := 236) (dat D_X12_plan 138 rfl) rfl rfl ?_
              refine AW.iload_n (n := 237) (dat D_X12_plan 139 rfl) rfl rfl ?_
              obtain ⟨v25, hc24, h⟩ := ob_some h
              refine AW.cV (n := 240) (as := [vI a0]) (st := []) (st' := [vI v25]) (uc' := 0) (us' := 0) (A_X12_totalOf hΓ hc24) cf_X12_totalOf ly_57 (le45 rfl) vc_12 (le45 rfl) wM_X12_429 (le45 rfl) (le45 rfl) (dat D_X12_plan 140 rfl) rfl rfl (le45 rfl) (le45 rfl) rfl (fun _ => ?_) nlt0
              refine AW.istore_n (n := 241) (ls' := [some (vR 57), some (vI a0), some (vI a1), some (vI v25), none, none, none, none]) (dat D_X12_plan 141 rfl) rfl (le45 rfl) (le45 rfl) rfl rfl ?_
              refine AW.iconst (n := 242) (dat D_X12_plan 142 rfl) rfl ?_
              refine AW.istore (n := 244) (ls' := [some (vR 57), some (vI a0), some (vI a1), some (vI v25), some (vI (-1)), none, none, none]) (dat D_X12_plan 143 rfl) rfl (le45 rfl) (le45 rfl) rfl rfl ?_
              refine AW.iconst (n := 245) (dat D_X12_plan 144 rfl) rfl ?_
              refine AW.istore (n := 247) (ls' := [some (vR 57), some (vI a0), some (vI a1), some (vI v25), some (vI (-1)), some (vI (-1)), none, none]) (dat D_X12_plan 145 rfl) rfl (le45 rfl) (le45 rfl) rfl rfl ?_
              refine AW.aload_n (n := 248) (dat D_X12_plan 146 rfl) rfl rfl ?_
              refine AW.getI (n := 251) fX12_28 wF_X12_354 ly_57 (le45 rfl) rfl rfl (dat D_X12_plan 147 rfl) rfl ?_
              refine AW.ltI h (fun x26 h => ?_)
              refine AW.istore (n := 253) (ls' := [some (vR 57), some (vI a0), some (vI a1), some (vI v25), some (vI (-1)), some (vI (-1)), some (vI x26), none]) (dat D_X12_plan 148 rfl) rfl (le45 rfl) (le45 rfl) rfl rfl ?_
              obtain ⟨b30, hi30, hq30⟩ := ob_some h
              obtain ⟨e31, e32⟩ := b30
              have hR30 : AW Γ mX12_plan 7 (0, r) (85, τ) 0 0 319 [some (vR 57), some (vI a0), some (vI a1), some (vI e31), some (vI e32), some (vI (-1)), none, none] [] (85, σ23) := by
                have h : X12_plan_e253 n σ23 a0 a1 e31 e32 = some _ := hq30
                unfold X12_plan_e253 at h
                refine AW.aload_n (n := 320) (dat D_X12_plan 185 rfl) rfl rfl ?_
                refine AW.getI (n := 323) fX12_28 wF_X12_354 ly_57 (le45 rfl) rfl rfl (dat D_X12_plan 186 rfl) rfl ?_
                refine AW.ltI h (fun x33 h => ?_)
                refine AW.istore (n := 325) (ls' := [some (vR 57), some (vI a0), some (vI a1), some (vI e31), some (vI e32), some (vI (-1)), some (vI x33), none]) (dat D_X12_plan 187 rfl) rfl (le45 rfl) (le45 rfl) rfl rfl ?_
                obtain ⟨b38, hi38, hq38⟩ := ob_some h
                obtain ⟨e39, e40, e41⟩ := b38
                have hR38 : AW Γ mX12_plan 7 (0, r) (85, τ) 0 0 458 [none, none, some (vI a1), some (vI e39), some (vI e40), some (vI e41), none, none] [] (85, σ23) := by
                  have h : X12_plan_e325 n a1 σ23 e39 e40 e41 = some _ := hq38
                  unfold X12_plan_e325 at h
                  refine AW.iload_n (n := 459) (dat D_X12_plan 259 rfl) rfl rfl ?_
                  refine AW.if_neH (t := 466) (n := 462) h (dat D_X12_plan 260 rfl) rfl rfl (fun h => ?_) (fun h => ?_)
                  · refine AW.iload_n (n := 463) (dat D_X12_plan 261 rfl) rfl rfl ?_
                    refine AW.goto (t := 478) (dat D_X12_plan 262 rfl) rfl ?_
                    cases h
                    exact AW.iret rfl rfl rfl (dat D_X12_plan 269 rfl)
                  · refine AW.iload_n (n := 467) (dat D_X12_plan 263 rfl) rfl rfl ?_
                    refine AW.iconst (n := 468) (dat D_X12_plan 264 rfl) rfl ?_
                    refine AW.icmp_neH (t := 476) (n := 471) h (dat D_X12_plan 265 rfl) rfl rfl rfl (by decide) (fun h => ?_) (fun h => ?_)
                    · refine AW.iload (n := 473) (dat D_X12_plan 266 rfl) rfl rfl ?_
                      refine AW.goto (t := 478) (dat D_X12_plan 267 rfl) rfl ?_
                      cases h
                      exact AW.iret rfl rfl rfl (dat D_X12_plan 269 rfl)
                    · refine AW.iload (n := 478) (dat D_X12_plan 268 rfl) rfl rfl ?_
                      cases h
                      exact AW.iret rfl rfl rfl (dat D_X12_plan 269 rfl)
                refine AW.to (ls'' := [some (vR 57), some (vI a0), some (vI a1), some (vI e31), some (vI e32), some (vI (-1)), some (vI x33), none]) ?_ (lle_s rfl (lle_s rfl (lle_s rfl (lle_s rfl (lle_s rfl (lle_s rfl (lle_s rfl (lle_n (lle_z)))))))))
                refine aw_iter (fun s : Int × Int × Int × Int => AW Γ mX12_plan 7 (0, r) (85, τ) 0 0 325 [some (vR 57), some (vI a0), some (vI a1), some (vI (s.1)), some (vI (s.2.1)), some (vI (s.2.2.1)), some (vI (s.2.2.2)), none] [] (85, σ23)) (fun s y h hk38 hb38 => ?_) _ _ hi38
                obtain ⟨z34, z35, z36, z37⟩ := s
                show AW Γ mX12_plan 7 (0, r) (85, τ) 0 0 325 [some (vR 57), some (vI a0), some (vI a1), some (vI z34), some (vI z35), some (vI z36), some (vI z37), none] [] (85, σ23)
                have h : X12_plan_l325 n σ23 a0 z34 z35 z36 z37 = some y := h
                unfold X12_plan_l325 at h
                refine AW.iload (n := 327) (dat D_X12_plan 188 rfl) rfl rfl ?_
                refine AW.aload_n (n := 328) (dat D_X12_plan 189 rfl) rfl rfl ?_
                refine AW.getR (n := 331) (t := 60) fX12_9 wF_X12_21 ly_57 (le45 rfl) rfl (dat D_X12_plan 190 rfl) rfl ?_
                refine AW.iconst (n := 332) (dat D_X12_plan 191 rfl) rfl ?_
                refine AW.ialdH h (n := 333) rfl ly_60 (le45 rfl) (dat D_X12_plan 192 rfl) rfl (fun j42 h => ?_)
                refine AW.icmp_geH (t := 458) (n := 336) h (dat D_X12_plan 193 rfl) rfl rfl rfl rfl (fun h => ?_) (fun h => ?_)
                · cases h
                  have hb := hb38 _ rfl
                  cases hb
                  exact AW.to hR38 (lle_n (lle_n (lle_s rfl (lle_s rfl (lle_s rfl (lle_s rfl (lle_n (lle_n (lle_z)))))))))
                · refine AW.iload (n := 338) (dat D_X12_plan 194 rfl) rfl rfl ?_
                  refine AW.iconst (n := 339) (dat D_X12_plan 195 rfl) rfl ?_
                  refine AW.iadd (n := 340) (dat D_X12_plan 196 rfl) rfl ?_
                  refine AW.ltI h (fun x43 h => ?_)
                  refine AW.istore (n := 342) (ls' := [some (vR 57), some (vI a0), some (vI a1), some (vI z34), some (vI z35), some (vI z36), some (vI z37), some (vI x43)]) (dat D_X12_plan 197 rfl) rfl (le45 rfl) (le45 rfl) rfl rfl ?_
                  obtain ⟨b48, hi48, hq48⟩ := ob_some h
                  obtain ⟨e49, e50, e51⟩ := b48
                  have hR48 : AW Γ mX12_plan 7 (0, r) (85, τ) 0 0 452 [some (vR 57), some (vI a0), some (vI a1), some (vI e49), some (vI e50), some (vI e51), some (vI z37), none] [] (85, σ23) := by
                    have h : X12_plan_e342 n z37 e49 e50 e51 = some _ := hq48
                    unfold X12_plan_e342 at h
                    refine AW.iincH h (n := 455) (dat D_X12_plan 257 rfl) rfl rfl (le45 rfl) rfl (fun x52 h => ?_)
                    refine AW.lq (ls' := [some (vR 57), some (vI a0), some (vI a1), some (vI e49), some (vI e50), some (vI e51), some (vI x52), none]) rfl ?_
                    refine AW.goto (t := 325) (dat D_X12_plan 258 rfl) rfl ?_
                    cases h
                    exact AW.to (hk38 _ rfl) (lle_s rfl (lle_s rfl (lle_s rfl (lle_s rfl (lle_s rfl (lle_s rfl (lle_s rfl (lle_n (lle_z)))))))))
                  refine AW.to (ls'' := [some (vR 57), some (vI a0), some (vI a1), some (vI z34), some (vI z35), some (vI z36), some (vI z37), some (vI x43)]) ?_ (lle_s rfl (lle_s rfl (lle_s rfl (lle_s rfl (lle_s rfl (lle_s rfl (lle_s rfl (lle_s rfl (lle_z)))))))))
                  refine aw_iter (fun s : Int × Int × Int × Int => AW Γ mX12_plan 7 (0, r) (85, τ) 0 0 342 [some (vR 57), some (vI a0), some (vI a1), some (vI (s.1)), some (vI (s.2.1)), some (vI (s.2.2.1)), some (vI z37), some (vI (s.2.2.2))] [] (85, σ23)) (fun s y h hk48 hb48 => ?_) _ _ hi48
                  obtain ⟨z44, z45, z46, z47⟩ := s
                  show AW Γ mX12_plan 7 (0, r) (85, τ) 0 0 342 [some (vR 57), some (vI a0), some (vI a1), some (vI z44), some (vI z45), some (vI z46), some (vI z37), some (vI z47)] [] (85, σ23)
                  have h : X12_plan_l342 n σ23 z37 a0 z44 z45 z46 z47 = some y := h
                  unfold X12_plan_l342 at h
                  refine AW.iload (n := 344) (dat D_X12_plan 198 rfl) rfl rfl ?_
                  refine AW.aload_n (n := 345) (dat D_X12_plan 199 rfl) rfl rfl ?_
                  refine AW.getR (n := 348) (t := 60) fX12_9 wF_X12_21 ly_57 (le45 rfl) rfl (dat D_X12_plan 200 rfl) rfl ?_
                  refine AW.iconst (n := 349) (dat D_X12_plan 201 rfl) rfl ?_
                  refine AW.ialdH h (n := 350) rfl ly_60 (le45 rfl) (dat D_X12_plan 202 rfl) rfl (fun j53 h => ?_)
                  refine AW.icmp_geH (t := 452) (n := 353) h (dat D_X12_plan 203 rfl) rfl rfl rfl rfl (fun h => ?_) (fun h => ?_)
                  · cases h
                    have hb := hb48 _ rfl
                    cases hb
                    exact AW.to hR48 (lle_s rfl (lle_s rfl (lle_s rfl (lle_s rfl (lle_s rfl (lle_s rfl (lle_s rfl (lle_n (lle_z)))))))))
                  · refine AW.aload_n (n := 354) (dat D_X12_plan 204 rfl) rfl rfl ?_
                    refine AW.getR (n := 357) (t := 82) fX12_52 wF_X12_99 ly_57 (le45 rfl) rfl (dat D_X12_plan 205 rfl) rfl ?_
                    refine AW.iload (n := 359) (dat D_X12_plan 206 rfl) rfl rfl ?_
                    refine AW.ialdH h (n := 360) rfl ly_82 (le45 rfl) (dat D_X12_plan 207 rfl) rfl (fun j54 h => ?_)
                    refine AW.iconst (n := 361) (dat D_X12_plan 208 rfl) rfl ?_
                    obtain ⟨s58, h, hq58⟩ := ob_some h
                    obtain ⟨y55, y56, y57⟩ := s58
                    have hJ58 : AW Γ mX12_plan 7 (0, r) (85, τ) 0 0 446 [some (vR 57), some (vI a0), some (vI a1), some (vI y55), some (vI y56), some (vI y57), some (vI z37), some (vI z47)] [] (85, σ23) := by
                      have h : X12_plan_j446 n z47 y55 y56 y57 = some _ := hq58
                      unfold X12_plan_j446 at h
                      refine AW.iincH h (n := 449) (dat D_X12_plan 255 rfl) rfl rfl (le45 rfl) rfl (fun x59 h => ?_)
                      refine AW.lq (ls' := [some (vR 57), some (vI a0), some (vI a1), some (vI y55), some (vI y56), some (vI y57), some (vI z37), some (vI x59)]) rfl ?_
                      refine AW.goto (t := 342) (dat D_X12_plan 256 rfl) rfl ?_
                      cases h
                      exact AW.to (hk48 _ rfl) (lle_s rfl (lle_s rfl (lle_s rfl (lle_s rfl (lle_s rfl (lle_s rfl (lle_s rfl (lle_s rfl (lle_z)))))))))
                    refine AW.icmp_eqH (t := 446) (n := 364) h (dat D_X12_plan 209 rfl) rfl rfl rfl (by decide) (fun h => ?_) (fun h => ?_)
                    · cases h
                      exact AW.to hJ58 (lle_s rfl (lle_s rfl (lle_s rfl (lle_s rfl (lle_s rfl (lle_s rfl (lle_s rfl (lle_s rfl (lle_z)))))))))
                    · refine AW.aload_n (n := 365) (dat D_X12_plan 210 rfl) rfl rfl ?_
                      refine AW.getR (n := 368) (t := 82) fX12_52 wF_X12_99 ly_57 (le45 rfl) rfl (dat D_X12_plan 211 rfl) rfl ?_
                      refine AW.iload (n := 370) (dat D_X12_plan 212 rfl) rfl rfl ?_
                      refine AW.ialdH h (n := 371) rfl ly_82 (le45 rfl) (dat D_X12_plan 213 rfl) rfl (fun j60 h => ?_)
                      refine AW.iconst (n := 372) (dat D_X12_plan 214 rfl) rfl ?_
                      refine AW.icmp_eqH (t := 446) (n := 375) h (dat D_X12_plan 215 rfl) rfl rfl rfl (by decide) (fun h => ?_) (fun h => ?_)
                      · cases h
                        exact AW.to hJ58 (lle_s rfl (lle_s rfl (lle_s rfl (lle_s rfl (lle_s rfl (lle_s rfl (lle_s rfl (lle_s rfl (lle_z)))))))))
                      · refine AW.aload_n (n := 376) (dat D_X12_plan 216 rfl) rfl rfl ?_
                        refine AW.iload (n := 378) (dat D_X12_plan 217 rfl) rfl rfl ?_
                        refine AW.iconst (n := 379) (dat D_X12_plan 218 rfl) rfl ?_
                        obtain ⟨v62, hc61, h⟩ := ob_some h
                        refine AW.cV (n := 382) (as := [vI z47, vI 0]) (st := []) (st' := [vI v62]) (uc' := 0) (us' := 0) (A_X12_ofWave hΓ hc61) cf_X12_ofWave ly_57 (le45 rfl) vc_12 (le45 rfl) wM_X12_333 (le45 rfl) (le45 rfl) (dat D_X12_plan 219 rfl) rfl rfl (le45 rfl) (le45 rfl) rfl (fun _ => ?_) nlt0
                        refine AW.aload_n (n := 383) (dat D_X12_plan 220 rfl) rfl rfl ?_
                        refine AW.getR (n := 386) (t := 83) fX12_53 wF_X12_102 ly_57 (le45 rfl) rfl (dat D_X12_plan 221 rfl) rfl ?_
                        refine AW.iload (n := 388) (dat D_X12_plan 222 rfl) rfl rfl ?_
                        refine AW.ialdH h (n := 389) rfl ly_83 (le45 rfl) (dat D_X12_plan 223 rfl) rfl (fun j63 h => ?_)
                        refine AW.icmp_ltH (t := 446) (n := 392) h (dat D_X12_plan 224 rfl) rfl rfl rfl rfl (fun h => ?_) (fun h => ?_)
                        · cases h
                          exact AW.to hJ58 (lle_s rfl (lle_s rfl (lle_s rfl (lle_s rfl (lle_s rfl (lle_s rfl (lle_s rfl (lle_s rfl (lle_z)))))))))
                        · refine AW.aload_n (n := 393) (dat D_X12_plan 225 rfl) rfl rfl ?_
                          refine AW.iload_n (n := 394) (dat D_X12_plan 226 rfl) rfl rfl ?_
                          refine AW.aload_n (n := 395) (dat D_X12_plan 227 rfl) rfl rfl ?_
                          refine AW.getR (n := 398) (t := 82) fX12_52 wF_X12_99 ly_57 (le45 rfl) rfl (dat D_X12_plan 228 rfl) rfl ?_
                          refine AW.iload (n := 400) (dat D_X12_plan 229 rfl) rfl rfl ?_
                          refine AW.ialdH h (n := 401) rfl ly_82 (le45 rfl) (dat D_X12_plan 230 rfl) rfl (fun j64 h => ?_)
                          refine AW.aload_n (n := 402) (dat D_X12_plan 231 rfl) rfl rfl ?_
                          refine AW.getR (n := 405) (t := 82) fX12_52 wF_X12_99 ly_57 (le45 rfl) rfl (dat D_X12_plan 232 rfl) rfl ?_
                          refine AW.iload (n := 407) (dat D_X12_plan 233 rfl) rfl rfl ?_
                          refine AW.ialdH h (n := 408) rfl ly_82 (le45 rfl) (dat D_X12_plan 234 rfl) rfl (fun j65 h => ?_)
                          obtain ⟨v67, hc66, h⟩ := ob_some h
                          refine AW.cV (n := 411) (as := [vI a0, vI (σ23 82 j64), vI (σ23 82 j65)]) (st := []) (st' := [vI v67]) (uc' := 0) (us' := 0) (A_X12_totalBy hΓ hc66) cf_X12_totalBy ly_57 (le45 rfl) vc_12 (le45 rfl) wM_X12_452 (le45 rfl) (le45 rfl) (dat D_X12_plan 235 rfl) rfl rfl (le45 rfl) (le45 rfl) rfl (fun _ => ?_) nlt0
                          refine AW.iload_n (n := 412) (dat D_X12_plan 236 rfl) rfl rfl ?_
                          refine AW.icmp_gtH (t := 418) (n := 415) h (dat D_X12_plan 237 rfl) rfl rfl rfl rfl (fun h => ?_) (fun h => ?_)
                          · refine AW.aload_n (n := 419) (dat D_X12_plan 239 rfl) rfl rfl ?_
                            refine AW.iload_n (n := 420) (dat D_X12_plan 240 rfl) rfl rfl ?_
                            refine AW.aload_n (n := 421) (dat D_X12_plan 241 rfl) rfl rfl ?_
                            refine AW.getR (n := 424) (t := 82) fX12_52 wF_X12_99 ly_57 (le45 rfl) rfl (dat D_X12_plan 242 rfl) rfl ?_
                            refine AW.iload (n := 426) (dat D_X12_plan 243 rfl) rfl rfl ?_
                            refine AW.ialdH h (n := 427) rfl ly_82 (le45 rfl) (dat D_X12_plan 244 rfl) rfl (fun j68 h => ?_)
                            refine AW.aload_n (n := 428) (dat D_X12_plan 245 rfl) rfl rfl ?_
                            refine AW.getR (n := 431) (t := 82) fX12_52 wF_X12_99 ly_57 (le45 rfl) rfl (dat D_X12_plan 246 rfl) rfl ?_
                            refine AW.iload (n := 433) (dat D_X12_plan 247 rfl) rfl rfl ?_
                            refine AW.ialdH h (n := 434) rfl ly_82 (le45 rfl) (dat D_X12_plan 248 rfl) rfl (fun j69 h => ?_)
                            obtain ⟨v71, hc70, h⟩ := ob_some h
                            refine AW.cV (n := 437) (as := [vI a0, vI (σ23 82 j68), vI (σ23 82 j69)]) (st := []) (st' := [vI v71]) (uc' := 0) (us' := 0) (A_X12_totalBy hΓ hc70) cf_X12_totalBy ly_57 (le45 rfl) vc_12 (le45 rfl) wM_X12_452 (le45 rfl) (le45 rfl) (dat D_X12_plan 249 rfl) rfl rfl (le45 rfl) (le45 rfl) rfl (fun _ => ?_) nlt0
                            refine AW.istore_n (n := 438) (ls' := [some (vR 57), some (vI a0), some (vI a1), some (vI v71), some (vI z45), some (vI z46), some (vI z37), some (vI z47)]) (dat D_X12_plan 250 rfl) rfl (le45 rfl) (le45 rfl) rfl rfl ?_
                            refine AW.iload (n := 440) (dat D_X12_plan 251 rfl) rfl rfl ?_
                            refine AW.istore (n := 442) (ls' := [some (vR 57), some (vI a0), some (vI a1), some (vI v71), some (vI z37), some (vI z46), some (vI z37), some (vI z47)]) (dat D_X12_plan 252 rfl) rfl (le45 rfl) (le45 rfl) rfl rfl ?_
                            refine AW.iload (n := 444) (dat D_X12_plan 253 rfl) rfl rfl ?_
                            refine AW.istore (n := 446) (ls' := [some (vR 57), some (vI a0), some (vI a1), some (vI v71), some (vI z37), some (vI z47), some (vI z37), some (vI z47)]) (dat D_X12_plan 254 rfl) rfl (le45 rfl) (le45 rfl) rfl rfl ?_
                            cases h
                            exact AW.to hJ58 (lle_s rfl (lle_s rfl (lle_s rfl (lle_s rfl (lle_s rfl (lle_s rfl (lle_s rfl (lle_s rfl (lle_z)))))))))
                          · refine AW.goto (t := 446) (dat D_X12_plan 238 rfl) rfl ?_
                            cases h
                            exact AW.to hJ58 (lle_s rfl (lle_s rfl (lle_s rfl (lle_s rfl (lle_s rfl (lle_s rfl (lle_s rfl (lle_s rfl (lle_z)))))))))
              refine AW.to (ls'' := [some (vR 57), some (vI a0), some (vI a1), some (vI v25), some (vI (-1)), some (vI (-1)), some (vI x26), none]) ?_ (lle_s rfl (lle_s rfl (lle_s rfl (lle_s rfl (lle_s rfl (lle_s rfl (lle_s rfl (lle_n (lle_z)))))))))
              refine aw_iter (fun s : Int × Int × Int => AW Γ mX12_plan 7 (0, r) (85, τ) 0 0 253 [some (vR 57), some (vI a0), some (vI a1), some (vI (s.1)), some (vI (s.2.1)), some (vI (-1)), some (vI (s.2.2)), none] [] (85, σ23)) (fun s y h hk30 hb30 => ?_) _ _ hi30
              obtain ⟨z27, z28, z29⟩ := s
              show AW Γ mX12_plan 7 (0, r) (85, τ) 0 0 253 [some (vR 57), some (vI a0), some (vI a1), some (vI z27), some (vI z28), some (vI (-1)), some (vI z29), none] [] (85, σ23)
              have h : X12_plan_l253 n σ23 a0 z27 z28 z29 = some y := h
              unfold X12_plan_l253 at h
              refine AW.iload (n := 255) (dat D_X12_plan 149 rfl) rfl rfl ?_
              refine AW.aload_n (n := 256) (dat D_X12_plan 150 rfl) rfl rfl ?_
              refine AW.getR (n := 259) (t := 60) fX12_9 wF_X12_21 ly_57 (le45 rfl) rfl (dat D_X12_plan 151 rfl) rfl ?_
              refine AW.iconst (n := 260) (dat D_X12_plan 152 rfl) rfl ?_
              refine AW.ialdH h (n := 261) rfl ly_60 (le45 rfl) (dat D_X12_plan 153 rfl) rfl (fun j72 h => ?_)
              refine AW.icmp_geH (t := 319) (n := 264) h (dat D_X12_plan 154 rfl) rfl rfl rfl rfl (fun h => ?_) (fun h => ?_)
              · cases h
                have hb := hb30 _ rfl
                cases hb
                exact AW.to hR30 (lle_s rfl (lle_s rfl (lle_s rfl (lle_s rfl (lle_s rfl (lle_s rfl (lle_n (lle_n (lle_z)))))))))
              · refine AW.aload_n (n := 265) (dat D_X12_plan 155 rfl) rfl rfl ?_
                refine AW.getR (n := 268) (t := 82) fX12_52 wF_X12_99 ly_57 (le45 rfl) rfl (dat D_X12_plan 156 rfl) rfl ?_
                refine AW.iload (n := 270) (dat D_X12_plan 157 rfl) rfl rfl ?_
                refine AW.ialdH h (n := 271) rfl ly_82 (le45 rfl) (dat D_X12_plan 158 rfl) rfl (fun j73 h => ?_)
                refine AW.iconst (n := 272) (dat D_X12_plan 159 rfl) rfl ?_
                obtain ⟨s76, h, hq76⟩ := ob_some h
                obtain ⟨y74, y75⟩ := s76
                have hJ76 : AW Γ mX12_plan 7 (0, r) (85, τ) 0 0 313 [some (vR 57), some (vI a0), some (vI a1), some (vI y74), some (vI y75), some (vI (-1)), some (vI z29), none] [] (85, σ23) := by
                  have h : X12_plan_j313 n z29 y74 y75 = some _ := hq76
                  unfold X12_plan_j313 at h
                  refine AW.iincH h (n := 316) (dat D_X12_plan 183 rfl) rfl rfl (le45 rfl) rfl (fun x77 h => ?_)
                  refine AW.lq (ls' := [some (vR 57), some (vI a0), some (vI a1), some (vI y74), some (vI y75), some (vI (-1)), some (vI x77), none]) rfl ?_
                  refine AW.goto (t := 253) (dat D_X12_plan 184 rfl) rfl ?_
                  cases h
                  exact AW.to (hk30 _ rfl) (lle_s rfl (lle_s rfl (lle_s rfl (lle_s rfl (lle_s rfl (lle_s rfl (lle_s rfl (lle_n (lle_z)))))))))
                refine AW.icmp_eqH (t := 313) (n := 275) h (dat D_X12_plan 160 rfl) rfl rfl rfl (by decide) (fun h => ?_) (fun h => ?_)
                · cases h
                  exact AW.to hJ76 (lle_s rfl (lle_s rfl (lle_s rfl (lle_s rfl (lle_s rfl (lle_s rfl (lle_s rfl (lle_n (lle_z)))))))))
                · refine AW.aload_n (n := 276) (dat D_X12_plan 161 rfl) rfl rfl ?_
                  refine AW.iload_n (n := 277) (dat D_X12_plan 162 rfl) rfl rfl ?_
                  refine AW.aload_n (n := 278) (dat D_X12_plan 163 rfl) rfl rfl ?_
                  refine AW.getR (n := 281) (t := 82) fX12_52 wF_X12_99 ly_57 (le45 rfl) rfl (dat D_X12_plan 164 rfl) rfl ?_
                  refine AW.iload (n := 283) (dat D_X12_plan 165 rfl) rfl rfl ?_
                  refine AW.ialdH h (n := 284) rfl ly_82 (le45 rfl) (dat D_X12_plan 166 rfl) rfl (fun j78 h => ?_)
                  refine AW.iconst (n := 285) (dat D_X12_plan 167 rfl) rfl ?_
                  obtain ⟨v80, hc79, h⟩ := ob_some h
                  refine AW.cV (n := 288) (as := [vI a0, vI (σ23 82 j78), vI (-1)]) (st := []) (st' := [vI v80]) (uc' := 0) (us' := 0) (A_X12_totalBy hΓ hc79) cf_X12_totalBy ly_57 (le45 rfl) vc_12 (le45 rfl) wM_X12_452 (le45 rfl) (le45 rfl) (dat D_X12_plan 168 rfl) rfl rfl (le45 rfl) (le45 rfl) rfl (fun _ => ?_) nlt0
                  refine AW.iload_n (n := 289) (dat D_X12_plan 169 rfl) rfl rfl ?_
                  refine AW.icmp_gtH (t := 295) (n := 292) h (dat D_X12_plan 170 rfl) rfl rfl rfl rfl (fun h => ?_) (fun h => ?_)
                  · refine AW.aload_n (n := 296) (dat D_X12_plan 172 rfl) rfl rfl ?_
                    refine AW.iload_n (n := 297) (dat D_X12_plan 173 rfl) rfl rfl ?_
                    refine AW.aload_n (n := 298) (dat D_X12_plan 174 rfl) rfl rfl ?_
                    refine AW.getR (n := 301) (t := 82) fX12_52 wF_X12_99 ly_57 (le45 rfl) rfl (dat D_X12_plan 175 rfl) rfl ?_
                    refine AW.iload (n := 303) (dat D_X12_plan 176 rfl) rfl rfl ?_
                    refine AW.ialdH h (n := 304) rfl ly_82 (le45 rfl) (dat D_X12_plan 177 rfl) rfl (fun j81 h => ?_)
                    refine AW.iconst (n := 305) (dat D_X12_plan 178 rfl) rfl ?_
                    obtain ⟨v83, hc82, h⟩ := ob_some h
                    refine AW.cV (n := 308) (as := [vI a0, vI (σ23 82 j81), vI (-1)]) (st := []) (st' := [vI v83]) (uc' := 0) (us' := 0) (A_X12_totalBy hΓ hc82) cf_X12_totalBy ly_57 (le45 rfl) vc_12 (le45 rfl) wM_X12_452 (le45 rfl) (le45 rfl) (dat D_X12_plan 179 rfl) rfl rfl (le45 rfl) (le45 rfl) rfl (fun _ => ?_) nlt0
                    refine AW.istore_n (n := 309) (ls' := [some (vR 57), some (vI a0), some (vI a1), some (vI v83), some (vI z28), some (vI (-1)), some (vI z29), none]) (dat D_X12_plan 180 rfl) rfl (le45 rfl) (le45 rfl) rfl rfl ?_
                    refine AW.iload (n := 311) (dat D_X12_plan 181 rfl) rfl rfl ?_
                    refine AW.istore (n := 313) (ls' := [some (vR 57), some (vI a0), some (vI a1), some (vI v83), some (vI z29), some (vI (-1)), some (vI z29), none]) (dat D_X12_plan 182 rfl) rfl (le45 rfl) (le45 rfl) rfl rfl ?_
                    cases h
                    exact AW.to hJ76 (lle_s rfl (lle_s rfl (lle_s rfl (lle_s rfl (lle_s rfl (lle_s rfl (lle_s rfl (lle_n (lle_z)))))))))
                  · refine AW.goto (t := 313) (dat D_X12_plan 171 rfl) rfl ?_
                    cases h
                    exact AW.to hJ76 (lle_s rfl (lle_s rfl (lle_s rfl (lle_s rfl (lle_s rfl (lle_s rfl (lle_s rfl (lle_n (lle_z)))))))))
            refine AW.to (ls'' := [some (vR 57), some (vI a0), some (vI a1), some (vI x19), none, none, none, none]) ?_ (lle_s rfl (lle_s rfl (lle_s rfl (lle_s rfl (lle_n (lle_n (lle_n (lle_n (lle_z)))))))))
            refine aw_iter (fun s : Int × SG => AW Γ mX12_plan 7 (0, r) (85, τ) 0 0 78 [some (vR 57), some (vI a0), some (vI a1), some (vI (s.1)), none, none, none, none] [] (85, s.2)) (fun s y h hk22 hb22 => ?_) _ _ hi22
            obtain ⟨z20, σ21⟩ := s
            show AW Γ mX12_plan 7 (0, r) (85, τ) 0 0 78 [some (vR 57), some (vI a0), some (vI a1), some (vI z20), none, none, none, none] [] (85, σ21)
            have h : X12_plan_l78 n a0 z20 σ21 = some y := h
            unfold X12_plan_l78 at h
            refine AW.iload_n (n := 79) (dat D_X12_plan 42 rfl) rfl rfl ?_
            refine AW.aload_n (n := 80) (dat D_X12_plan 43 rfl) rfl rfl ?_
            refine AW.getR (n := 83) (t := 60) fX12_9 wF_X12_21 ly_57 (le45 rfl) rfl (dat D_X12_plan 44 rfl) rfl ?_
            refine AW.iconst (n := 84) (dat D_X12_plan 45 rfl) rfl ?_
            refine AW.ialdH h (n := 85) rfl ly_60 (le45 rfl) (dat D_X12_plan 46 rfl) rfl (fun j84 h => ?_)
            refine AW.icmp_geH (t := 235) (n := 88) h (dat D_X12_plan 47 rfl) rfl rfl rfl rfl (fun h => ?_) (fun h => ?_)
            · cases h
              have hb := hb22 _ rfl
              cases hb
              exact AW.to hR22 (lle_s rfl (lle_s rfl (lle_s rfl (lle_n (lle_n (lle_n (lle_n (lle_n (lle_z)))))))))
            · refine AW.aload_n (n := 89) (dat D_X12_plan 48 rfl) rfl rfl ?_
              refine AW.iload_n (n := 90) (dat D_X12_plan 49 rfl) rfl rfl ?_
              refine AW.iload_n (n := 91) (dat D_X12_plan 50 rfl) rfl rfl ?_
              refine AW.iconst (n := 92) (dat D_X12_plan 51 rfl) rfl ?_
              obtain ⟨σ86, hc85, h⟩ := ob_some h
              refine AW.cV (n := 95) (as := [vI a0, vI z20, vI 1]) (st := []) (st' := []) (uc' := 0) (us' := 0) (A_X12_laysBest hΓ hc85) cf_X12_laysBest ly_57 (le45 rfl) vc_12 (le45 rfl) wM_X12_448 (le45 rfl) (le45 rfl) (dat D_X12_plan 52 rfl) rfl rfl (le45 rfl) (le45 rfl) rfl (fun _ => ?_) nlt0
              refine AW.aload_n (n := 96) (dat D_X12_plan 53 rfl) rfl rfl ?_
              refine AW.getR (n := 99) (t := 81) fX12_51 wF_X12_96 ly_57 (le45 rfl) rfl (dat D_X12_plan 54 rfl) rfl ?_
              refine AW.iconst (n := 100) (dat D_X12_plan 55 rfl) rfl ?_
              refine AW.ialdH h (n := 101) rfl ly_81 (le45 rfl) (dat D_X12_plan 56 rfl) rfl (fun j87 h => ?_)
              refine AW.iconst (n := 102) (dat D_X12_plan 57 rfl) rfl ?_
              obtain ⟨s89, h, hq89⟩ := ob_some h
              obtain ⟨y88, e89⟩ : ∃ z, z = s89 := ⟨_, rfl⟩
              subst e89
              have hJ89 : AW Γ mX12_plan 7 (0, r) (85, τ) 0 0 154 [some (vR 57), some (vI a0), some (vI a1), some (vI z20), none, none, none, none] [vI y88] (85, σ86) := by
                have h : X12_plan_j154 n σ86 z20 a0 y88 = some _ := hq89
                unfold X12_plan_j154 at h
                refine AW.istore (n := 156) (ls' := [some (vR 57), some (vI a0), some (vI a1), some (vI z20), some (vI y88), none, none, none]) (dat D_X12_plan 88 rfl) rfl (le45 rfl) (le45 rfl) rfl rfl ?_
                refine AW.aload_n (n := 157) (dat D_X12_plan 89 rfl) rfl rfl ?_
                refine AW.getR (n := 160) (t := 82) fX12_52 wF_X12_99 ly_57 (le45 rfl) rfl (dat D_X12_plan 90 rfl) rfl ?_
                refine AW.iload_n (n := 161) (dat D_X12_plan 91 rfl) rfl rfl ?_
                refine AW.iload (n := 163) (dat D_X12_plan 92 rfl) rfl rfl ?_
                obtain ⟨s91, h, hq91⟩ := ob_some h
                obtain ⟨y90, e91⟩ : ∃ z, z = s91 := ⟨_, rfl⟩
                subst e91
                have hJ91 : AW Γ mX12_plan 7 (0, r) (85, τ) 0 0 176 [some (vR 57), some (vI a0), some (vI a1), some (vI z20), some (vI y88), none, none, none] [vI y90, vI z20, vR 82] (85, σ86) := by
                  have h : X12_plan_j176 n z20 σ86 y88 a0 y90 = some _ := hq91
                  unfold X12_plan_j176 at h
                  refine AW.iastH h (n := 177) rfl ly_82 (le45 rfl) (dat D_X12_plan 100 rfl) rfl (fun j92 h => ?_)
                  refine AW.ltS h (fun σ93 h => ?_)
                  refine AW.aload_n (n := 178) (dat D_X12_plan 101 rfl) rfl rfl ?_
                  refine AW.getR (n := 181) (t := 83) fX12_53 wF_X12_102 ly_57 (le45 rfl) rfl (dat D_X12_plan 102 rfl) rfl ?_
                  refine AW.iload_n (n := 182) (dat D_X12_plan 103 rfl) rfl rfl ?_
                  refine AW.iload (n := 184) (dat D_X12_plan 104 rfl) rfl rfl ?_
                  obtain ⟨s95, h, hq95⟩ := ob_some h
                  obtain ⟨y94, e95⟩ : ∃ z, z = s95 := ⟨_, rfl⟩
                  subst e95
                  have hJ95 : AW Γ mX12_plan 7 (0, r) (85, τ) 0 0 228 [some (vR 57), some (vI a0), some (vI a1), some (vI z20), none, none, none, none] [vI y94, vI z20, vR 83] (85, σ93) := by
                    have h : X12_plan_j228 n z20 σ93 y94 = some _ := hq95
                    unfold X12_plan_j228 at h
                    refine AW.iastH h (n := 229) rfl ly_83 (le45 rfl) (dat D_X12_plan 135 rfl) rfl (fun j96 h => ?_)
                    refine AW.ltS h (fun σ97 h => ?_)
                    refine AW.iincH h (n := 232) (dat D_X12_plan 136 rfl) rfl rfl (le45 rfl) rfl (fun x98 h => ?_)
                    refine AW.lq (ls' := [some (vR 57), some (vI a0), some (vI a1), some (vI x98), none, none, none, none]) rfl ?_
                    refine AW.goto (t := 78) (dat D_X12_plan 137 rfl) rfl ?_
                    cases h
                    exact AW.to (hk22 _ rfl) (lle_s rfl (lle_s rfl (lle_s rfl (lle_s rfl (lle_n (lle_n (lle_n (lle_n (lle_z)))))))))
                  refine AW.if_eqH (t := 227) (n := 187) h (dat D_X12_plan 105 rfl) rfl rfl (fun h => ?_) (fun h => ?_)
                  · refine AW.iconst (n := 228) (dat D_X12_plan 134 rfl) rfl ?_
                    cases h
                    exact AW.to hJ95 (lle_s rfl (lle_s rfl (lle_s rfl (lle_s rfl (lle_n (lle_n (lle_n (lle_n (lle_z)))))))))
                  · refine AW.aload_n (n := 188) (dat D_X12_plan 106 rfl) rfl rfl ?_
                    refine AW.iload_n (n := 189) (dat D_X12_plan 107 rfl) rfl rfl ?_
                    refine AW.iconst (n := 190) (dat D_X12_plan 108 rfl) rfl ?_
                    obtain ⟨v100, hc99, h⟩ := ob_some h
                    refine AW.cV (n := 193) (as := [vI z20, vI 0]) (st := [vI z20, vR 83]) (st' := [vI v100, vI z20, vR 83]) (uc' := 0) (us' := 0) (A_X12_ofWave hΓ hc99) cf_X12_ofWave ly_57 (le45 rfl) vc_12 (le45 rfl) wM_X12_333 (le45 rfl) (le45 rfl) (dat D_X12_plan 109 rfl) rfl rfl (le45 rfl) (le45 rfl) rfl (fun _ => ?_) nlt0
                    refine AW.iconst (n := 194) (dat D_X12_plan 110 rfl) rfl ?_
                    refine AW.iadd (n := 195) (dat D_X12_plan 111 rfl) rfl ?_
                    refine AW.aload_n (n := 196) (dat D_X12_plan 112 rfl) rfl rfl ?_
                    refine AW.getR (n := 199) (t := 81) fX12_51 wF_X12_96 ly_57 (le45 rfl) rfl (dat D_X12_plan 113 rfl) rfl ?_
                    refine AW.iconst (n := 200) (dat D_X12_plan 114 rfl) rfl ?_
                    refine AW.ialdH h (n := 201) rfl ly_81 (le45 rfl) (dat D_X12_plan 115 rfl) rfl (fun j101 h => ?_)
                    refine AW.aload_n (n := 202) (dat D_X12_plan 116 rfl) rfl rfl ?_
                    refine AW.getR (n := 205) (t := 60) fX12_9 wF_X12_21 ly_57 (le45 rfl) rfl (dat D_X12_plan 117 rfl) rfl ?_
                    refine AW.bipush (n := 207) (dat D_X12_plan 118 rfl) rfl (by decide) ?_
                    refine AW.iload_n (n := 208) (dat D_X12_plan 119 rfl) rfl rfl ?_
                    refine AW.iadd (n := 209) (dat D_X12_plan 120 rfl) rfl ?_
                    refine AW.ialdH h (n := 210) rfl ly_60 (le45 rfl) (dat D_X12_plan 121 rfl) rfl (fun j102 h => ?_)
                    refine AW.iadd (n := 211) (dat D_X12_plan 122 rfl) rfl ?_
                    refine AW.iconst (n := 212) (dat D_X12_plan 123 rfl) rfl ?_
                    refine AW.isub (n := 213) (dat D_X12_plan 124 rfl) rfl ?_
                    refine AW.aload_n (n := 214) (dat D_X12_plan 125 rfl) rfl rfl ?_
                    refine AW.getR (n := 217) (t := 60) fX12_9 wF_X12_21 ly_57 (le45 rfl) rfl (dat D_X12_plan 126 rfl) rfl ?_
                    refine AW.bipush (n := 219) (dat D_X12_plan 127 rfl) rfl (by decide) ?_
                    refine AW.iload_n (n := 220) (dat D_X12_plan 128 rfl) rfl rfl ?_
                    refine AW.iadd (n := 221) (dat D_X12_plan 129 rfl) rfl ?_
                    refine AW.ialdH h (n := 222) rfl ly_60 (le45 rfl) (dat D_X12_plan 130 rfl) rfl (fun j103 h => ?_)
                    obtain ⟨q104, h⟩ := ite_n h
                    refine AW.idiv (n := 223) (dat D_X12_plan 131 rfl) rfl q104 ?_
                    refine AW.iadd (n := 224) (dat D_X12_plan 132 rfl) rfl ?_
                    refine AW.goto (t := 228) (dat D_X12_plan 133 rfl) rfl ?_
                    cases h
                    exact AW.to hJ95 (lle_s rfl (lle_s rfl (lle_s rfl (lle_s rfl (lle_n (lle_n (lle_n (lle_n (lle_z)))))))))
                refine AW.if_eqH (t := 175) (n := 166) h (dat D_X12_plan 93 rfl) rfl rfl (fun h => ?_) (fun h => ?_)
                · refine AW.iconst (n := 176) (dat D_X12_plan 99 rfl) rfl ?_
                  cases h
                  exact AW.to hJ91 (lle_s rfl (lle_s rfl (lle_s rfl (lle_s rfl (lle_s rfl (lle_n (lle_n (lle_n (lle_z)))))))))
                · refine AW.aload_n (n := 167) (dat D_X12_plan 94 rfl) rfl rfl ?_
                  refine AW.getR (n := 170) (t := 81) fX12_51 wF_X12_96 ly_57 (le45 rfl) rfl (dat D_X12_plan 95 rfl) rfl ?_
                  refine AW.iconst (n := 171) (dat D_X12_plan 96 rfl) rfl ?_
                  refine AW.ialdH h (n := 172) rfl ly_81 (le45 rfl) (dat D_X12_plan 97 rfl) rfl (fun j105 h => ?_)
                  refine AW.goto (t := 176) (dat D_X12_plan 98 rfl) rfl ?_
                  cases h
                  exact AW.to hJ91 (lle_s rfl (lle_s rfl (lle_s rfl (lle_s rfl (lle_s rfl (lle_n (lle_n (lle_n (lle_z)))))))))
              refine AW.icmp_eqH (t := 153) (n := 105) h (dat D_X12_plan 58 rfl) rfl rfl rfl (by decide) (fun h => ?_) (fun h => ?_)
              · refine AW.iconst (n := 154) (dat D_X12_plan 87 rfl) rfl ?_
                cases h
                exact AW.to hJ89 (lle_s rfl (lle_s rfl (lle_s rfl (lle_s rfl (lle_n (lle_n (lle_n (lle_n (lle_z)))))))))
              · refine AW.aload_n (n := 106) (dat D_X12_plan 59 rfl) rfl rfl ?_
                refine AW.iload_n (n := 107) (dat D_X12_plan 60 rfl) rfl rfl ?_
                refine AW.iconst (n := 108) (dat D_X12_plan 61 rfl) rfl ?_
                obtain ⟨v107, hc106, h⟩ := ob_some h
                refine AW.cV (n := 111) (as := [vI z20, vI 0]) (st := []) (st' := [vI v107]) (uc' := 0) (us' := 0) (A_X12_ofWave hΓ hc106) cf_X12_ofWave ly_57 (le45 rfl) vc_12 (le45 rfl) wM_X12_333 (le45 rfl) (le45 rfl) (dat D_X12_plan 62 rfl) rfl rfl (le45 rfl) (le45 rfl) rfl (fun _ => ?_) nlt0
                refine AW.aload_n (n := 112) (dat D_X12_plan 63 rfl) rfl rfl ?_
                refine AW.getI (n := 115) fX12_26 wF_X12_340 ly_57 (le45 rfl) rfl rfl (dat D_X12_plan 64 rfl) rfl ?_
                refine AW.aload_n (n := 116) (dat D_X12_plan 65 rfl) rfl rfl ?_
                refine AW.getR (n := 119) (t := 60) fX12_9 wF_X12_21 ly_57 (le45 rfl) rfl (dat D_X12_plan 66 rfl) rfl ?_
                refine AW.iconst (n := 120) (dat D_X12_plan 67 rfl) rfl ?_
                refine AW.ialdH h (n := 121) rfl ly_60 (le45 rfl) (dat D_X12_plan 68 rfl) rfl (fun j108 h => ?_)
                refine AW.iadd (n := 122) (dat D_X12_plan 69 rfl) rfl ?_
                refine AW.icmp_gtH (t := 153) (n := 125) h (dat D_X12_plan 70 rfl) rfl rfl rfl rfl (fun h => ?_) (fun h => ?_)
                · refine AW.iconst (n := 154) (dat D_X12_plan 87 rfl) rfl ?_
                  cases h
                  exact AW.to hJ89 (lle_s rfl (lle_s rfl (lle_s rfl (lle_s rfl (lle_n (lle_n (lle_n (lle_n (lle_z)))))))))
                · refine AW.aload_n (n := 126) (dat D_X12_plan 71 rfl) rfl rfl ?_
                  refine AW.getR (n := 129) (t := 78) fX12_48 wF_X12_86 ly_57 (le45 rfl) rfl (dat D_X12_plan 72 rfl) rfl ?_
                  refine AW.iload_n (n := 130) (dat D_X12_plan 73 rfl) rfl rfl ?_
                  refine AW.zaldH h (n := 131) rfl ly_78 (le45 rfl) (dat D_X12_plan 74 rfl) rfl (fun j109 h => ?_)
                  refine AW.if_neH (t := 149) (n := 134) h (dat D_X12_plan 75 rfl) rfl rfl (fun h => ?_) (fun h => ?_)
                  · refine AW.aload_n (n := 135) (dat D_X12_plan 76 rfl) rfl rfl ?_
                    refine AW.iload_n (n := 136) (dat D_X12_plan 77 rfl) rfl rfl ?_
                    refine AW.iconst (n := 137) (dat D_X12_plan 78 rfl) rfl ?_
                    obtain ⟨v111, hc110, h⟩ := ob_some h
                    refine AW.cV (n := 140) (as := [vI z20, vI 0]) (st := []) (st' := [vI v111]) (uc' := 0) (us' := 0) (A_X12_ofWave hΓ hc110) cf_X12_ofWave ly_57 (le45 rfl) vc_12 (le45 rfl) wM_X12_333 (le45 rfl) (le45 rfl) (dat D_X12_plan 79 rfl) rfl rfl (le45 rfl) (le45 rfl) rfl (fun _ => ?_) nlt0
                    refine AW.aload_n (n := 141) (dat D_X12_plan 80 rfl) rfl rfl ?_
                    refine AW.getR (n := 144) (t := 70) fX12_40 wF_X12_62 ly_57 (le45 rfl) rfl (dat D_X12_plan 81 rfl) rfl ?_
                    refine AW.iload_n (n := 145) (dat D_X12_plan 82 rfl) rfl rfl ?_
                    refine AW.ialdH h (n := 146) rfl ly_70 (le45 rfl) (dat D_X12_plan 83 rfl) rfl (fun j112 h => ?_)
                    refine AW.icmp_ltH (t := 153) (n := 149) h (dat D_X12_plan 84 rfl) rfl rfl rfl rfl (fun h => ?_) (fun h => ?_)
                    · refine AW.iconst (n := 154) (dat D_X12_plan 87 rfl) rfl ?_
                      cases h
                      exact AW.to hJ89 (lle_s rfl (lle_s rfl (lle_s rfl (lle_s rfl (lle_n (lle_n (lle_n (lle_n (lle_z)))))))))
                    · refine AW.iconst (n := 150) (dat D_X12_plan 85 rfl) rfl ?_
                      refine AW.goto (t := 154) (dat D_X12_plan 86 rfl) rfl ?_
                      cases h
                      exact AW.to hJ89 (lle_s rfl (lle_s rfl (lle_s rfl (lle_s rfl (lle_n (lle_n (lle_n (lle_n (lle_z)))))))))
                  · refine AW.iconst (n := 150) (dat D_X12_plan 85 rfl) rfl ?_
                    refine AW.goto (t := 154) (dat D_X12_plan 86 rfl) rfl ?_
                    cases h
                    exact AW.to hJ89 (lle_s rfl (lle_s rfl (lle_s rfl (lle_s rfl (lle_n (lle_n (lle_n (lle_n (lle_z)))))))))
          · refine AW.iconst (n := 72) (dat D_X12_plan 37 rfl) rfl ?_
            cases h
            exact AW.iret rfl rfl rfl (dat D_X12_plan 38 rfl)
        refine AW.if_neH (t := 59) (n := 44) h (dat D_X12_plan 23 rfl) rfl rfl (fun h => ?_) (fun h => ?_)
        · refine AW.aload_n (n := 45) (dat D_X12_plan 24 rfl) rfl rfl ?_
          refine AW.iload_n (n := 46) (dat D_X12_plan 25 rfl) rfl rfl ?_
          obtain ⟨v114, hc113, h⟩ := ob_some h
          refine AW.cV (n := 49) (as := [vI a0]) (st := [vR 57]) (st' := [vI v114, vR 57]) (uc' := 0) (us' := 0) (A_X12_hasTaken hΓ hc113) cf_X12_hasTaken ly_57 (le45 rfl) vc_12 (le45 rfl) wM_X12_387 (le45 rfl) (le45 rfl) (dat D_X12_plan 26 rfl) rfl rfl (le45 rfl) (le45 rfl) rfl (fun _ => ?_) nlt0
          refine AW.if_neH (t := 59) (n := 52) h (dat D_X12_plan 27 rfl) rfl rfl (fun h => ?_) (fun h => ?_)
          · refine AW.aload_n (n := 53) (dat D_X12_plan 28 rfl) rfl rfl ?_
            refine AW.getI (n := 56) fX12_35 wF_X12_52 ly_57 (le45 rfl) rfl rfl (dat D_X12_plan 29 rfl) rfl ?_
            refine AW.if_eqH (t := 63) (n := 59) h (dat D_X12_plan 30 rfl) rfl rfl (fun h => ?_) (fun h => ?_)
            · refine AW.iconst (n := 64) (dat D_X12_plan 33 rfl) rfl ?_
              cases h
              exact AW.to hJ15 (lle_s rfl (lle_s rfl (lle_s rfl (lle_n (lle_n (lle_n (lle_n (lle_n (lle_z)))))))))
            · refine AW.iconst (n := 60) (dat D_X12_plan 31 rfl) rfl ?_
              refine AW.goto (t := 64) (dat D_X12_plan 32 rfl) rfl ?_
              cases h
              exact AW.to hJ15 (lle_s rfl (lle_s rfl (lle_s rfl (lle_n (lle_n (lle_n (lle_n (lle_n (lle_z)))))))))
          · refine AW.iconst (n := 60) (dat D_X12_plan 31 rfl) rfl ?_
            refine AW.goto (t := 64) (dat D_X12_plan 32 rfl) rfl ?_
            cases h
            exact AW.to hJ15 (lle_s rfl (lle_s rfl (lle_s rfl (lle_n (lle_n (lle_n (lle_n (lle_n (lle_z)))))))))
        · refine AW.iconst (n := 60) (dat D_X12_plan 31 rfl) rfl ?_
          refine AW.goto (t := 64) (dat D_X12_plan 32 rfl) rfl ?_
          cases h
          exact AW.to hJ15 (lle_s rfl (lle_s rfl (lle_s rfl (lle_n (lle_n (lle_n (lle_n (lle_n (lle_z)))))))))
      · refine AW.iconst (n := 72) (dat D_X12_plan 37 rfl) rfl ?_
        cases h
        exact AW.iret rfl rfl rfl (dat D_X12_plan 38 rfl)
    refine AW.if_neH (t := 27) (n := 23) h (dat D_X12_plan 12 rfl) rfl rfl (fun h => ?_) (fun h => ?_)
    · refine AW.iconst (n := 24) (dat D_X12_plan 13 rfl) rfl ?_
      refine AW.goto (t := 28) (dat D_X12_plan 14 rfl) rfl ?_
      cases h
      exact AW.to hJ8 (lle_s rfl (lle_s rfl (lle_s rfl (lle_n (lle_n (lle_n (lle_n (lle_n (lle_z)))))))))
    · refine AW.iconst (n := 28) (dat D_X12_plan 15 rfl) rfl ?_
      cases h
      exact AW.to hJ8 (lle_s rfl (lle_s rfl (lle_s rfl (lle_n (lle_n (lle_n (lle_n (lle_n (lle_z)))))))))
  · refine AW.iconst (n := 72) (dat D_X12_plan 37 rfl) rfl ?_
    cases h
    exact AW.iret rfl rfl rfl (dat D_X12_plan 38 rfl)
