/-! ===== methods as functions, and their bytecode beside them (printed by wip/whole/gen/emit.py) ===== -/
def L_X12_rightOf : List (Nat × Instr × Nat) := [(0, .aload_n 0, 1), (1, .getfield 372, 3), (4, .ifCond .eq 60, 3), (7, .aload_n 0, 1), (8, .iload_n 1, 1), (9, .invokevirtual 381, 3), (12, .istore_n 3, 1), (13, .aload_n 0, 1), (14, .iload_n 2, 1), (15, .invokevirtual 381, 3), (18, .istore 4, 2), (20, .iload_n 3, 1), (21, .iconst (-1), 1), (22, .if_icmp .eq 9, 3), (25, .iload 4, 2), (27, .iconst (-1), 1), (28, .if_icmp .ne 24, 3), (31, .iload_n 3, 1), (32, .iconst (-1), 1), (33, .if_icmp .eq 7, 3), (36, .iload_n 1, 1), (37, .goto 14, 3), (40, .iload 4, 2), (42, .iconst (-1), 1), (43, .if_icmp .eq 7, 3), (46, .iload_n 2, 1), (47, .goto 4, 3), (50, .iconst (-1), 1), (51, .ireturn, 1), (52, .iload_n 3, 1), (53, .iload 4, 2), (55, .if_icmp .ge 7, 3), (58, .iload_n 1, 1), (59, .goto 4, 3), (62, .iload_n 2, 1), (63, .ireturn, 1), (64, .aload_n 0, 1), (65, .iload_n 1, 1), (66, .invokevirtual 384, 3), (69, .aload_n 0, 1), (70, .iload_n 2, 1), (71, .invokevirtual 384, 3), (74, .isub, 1), (75, .istore_n 3, 1), (76, .iload_n 3, 1), (77, .ifCond .eq 15, 3), (80, .iload_n 3, 1), (81, .ifCond .ge 7, 3), (84, .iload_n 1, 1), (85, .goto 12, 3), (88, .iload_n 2, 1), (89, .goto 8, 3), (92, .iload_n 1, 1), (93, .iload_n 2, 1), (94, .invokestatic 315, 3), (97, .ireturn, 1)]
theorem D_X12_rightOf : dOK cX12_rightOf L_X12_rightOf = true := by decide +kernel
theorem cf_X12_rightOf : CFV mX12_rightOf 2 := ⟨wI_X12_rightOf, wS_X12_rightOf, wN_WaveRightModel, wC_X12_rightOf, rfl, ⟨by decide +kernel, by decide +kernel, by decide +kernel⟩, le45 rfl⟩
def X12_rightOf (n : Nat) (a0 : Int) (a1 : Int) (σ : SG) : Option (Int) :=
  if w32 (σ 57 36) = 0 then
    (X12_offPeak n a0 σ).bind fun v2 =>
    (X12_offPeak n a1 σ).bind fun v4 =>
    lt (v2 - v4) fun x5 =>
    if w32 x5 = 0 then
      some ((mn32 a0 a1))
    else
      if 0 ≤ w32 x5 then
        some (a1)
      else
        some (a0)
  else
    (X12_inRow n a0 σ).bind fun v7 =>
    (X12_inRow n a1 σ).bind fun v9 =>
    if w32 v7 = (-1) then
      if w32 v7 = (-1) then
        if w32 v9 = (-1) then
          some ((-1))
        else
          some (a1)
      else
        some (a0)
    else
      if w32 v9 = (-1) then
        if w32 v7 = (-1) then
          if w32 v9 = (-1) then
            some ((-1))
          else
            some (a1)
        else
          some (a0)
      else
        if w32 v9 ≤ w32 v7 then
          some (a1)
        else
          some (a0)
set_option maxHeartbeats 4000000 in
set_option maxRecDepth 100000 in
theorem A_X12_rightOf {Γ : GA} (hΓ : (gl Γ).stackTraces = false) {n : Nat} {a0 : Int} {a1 : Int} {σ : SG} {r : Int}  (h : X12_rightOf n a0 a1 σ = some r) : AM Γ mX12_rightOf 3 0 0 [vR 57, vI a0, vI a1] (85, σ) (0, r) (85, σ) := by
  refine AM.of pl_X12 rfl wC_X12_rightOf (le45 rfl) hΓ ?_
  refine AW.to (ls'' := [some (vR 57), some (vI a0), some (vI a1), none, none]) ?_ (lle_s rfl (lle_s rfl (lle_s rfl (lle_e (lle_e (lle_z))))))
  unfold X12_rightOf at h
  refine AW.aload_n (n := 1) (dat D_X12_rightOf 0 rfl) rfl rfl ?_
  refine AW.getI (n := 4) fX12_36 wF_X12_372 ly_57 (le45 rfl) rfl rfl (dat D_X12_rightOf 1 rfl) rfl ?_
  refine AW.if_eqH (t := 64) (n := 7) h (dat D_X12_rightOf 2 rfl) rfl rfl (fun h => ?_) (fun h => ?_)
  · refine AW.aload_n (n := 65) (dat D_X12_rightOf 36 rfl) rfl rfl ?_
    refine AW.iload_n (n := 66) (dat D_X12_rightOf 37 rfl) rfl rfl ?_
    obtain ⟨v2, hc1, h⟩ := ob_some h
    refine AW.cV (n := 69) (as := [vI a0]) (st := []) (st' := [vI v2]) (uc' := 0) (us' := 0) (A_X12_offPeak hΓ hc1) cf_X12_offPeak ly_57 (le45 rfl) vc_12 (le45 rfl) wM_X12_384 (le45 rfl) (le45 rfl) (dat D_X12_rightOf 38 rfl) rfl rfl (le45 rfl) (le45 rfl) rfl (fun _ => ?_) nlt0
    refine AW.aload_n (n := 70) (dat D_X12_rightOf 39 rfl) rfl rfl ?_
    refine AW.iload_n (n := 71) (dat D_X12_rightOf 40 rfl) rfl rfl ?_
    obtain ⟨v4, hc3, h⟩ := ob_some h
    refine AW.cV (n := 74) (as := [vI a1]) (st := [vI v2]) (st' := [vI v4, vI v2]) (uc' := 0) (us' := 0) (A_X12_offPeak hΓ hc3) cf_X12_offPeak ly_57 (le45 rfl) vc_12 (le45 rfl) wM_X12_384 (le45 rfl) (le45 rfl) (dat D_X12_rightOf 41 rfl) rfl rfl (le45 rfl) (le45 rfl) rfl (fun _ => ?_) nlt0
    refine AW.isub (n := 75) (dat D_X12_rightOf 42 rfl) rfl ?_
    refine AW.ltI h (fun x5 h => ?_)
    refine AW.istore_n (n := 76) (ls' := [some (vR 57), some (vI a0), some (vI a1), some (vI x5), none]) (dat D_X12_rightOf 43 rfl) rfl (le45 rfl) (le45 rfl) rfl rfl ?_
    refine AW.iload_n (n := 77) (dat D_X12_rightOf 44 rfl) rfl rfl ?_
    refine AW.if_eqH (t := 92) (n := 80) h (dat D_X12_rightOf 45 rfl) rfl rfl (fun h => ?_) (fun h => ?_)
    · refine AW.iload_n (n := 93) (dat D_X12_rightOf 52 rfl) rfl rfl ?_
      refine AW.iload_n (n := 94) (dat D_X12_rightOf 53 rfl) rfl rfl ?_
      refine AW.mmin (n := 97) wM_X12_315 (le45 rfl) (le45 rfl) (dat D_X12_rightOf 54 rfl) rfl ?_
      cases h
      exact AW.iret rfl rfl rfl (dat D_X12_rightOf 55 rfl)
    · refine AW.iload_n (n := 81) (dat D_X12_rightOf 46 rfl) rfl rfl ?_
      refine AW.if_geH (t := 88) (n := 84) h (dat D_X12_rightOf 47 rfl) rfl rfl (fun h => ?_) (fun h => ?_)
      · refine AW.iload_n (n := 89) (dat D_X12_rightOf 50 rfl) rfl rfl ?_
        refine AW.goto (t := 97) (dat D_X12_rightOf 51 rfl) rfl ?_
        cases h
        exact AW.iret rfl rfl rfl (dat D_X12_rightOf 55 rfl)
      · refine AW.iload_n (n := 85) (dat D_X12_rightOf 48 rfl) rfl rfl ?_
        refine AW.goto (t := 97) (dat D_X12_rightOf 49 rfl) rfl ?_
        cases h
        exact AW.iret rfl rfl rfl (dat D_X12_rightOf 55 rfl)
  · refine AW.aload_n (n := 8) (dat D_X12_rightOf 3 rfl) rfl rfl ?_
    refine AW.iload_n (n := 9) (dat D_X12_rightOf 4 rfl) rfl rfl ?_
    obtain ⟨v7, hc6, h⟩ := ob_some h
    refine AW.cV (n := 12) (as := [vI a0]) (st := []) (st' := [vI v7]) (uc' := 0) (us' := 0) (A_X12_inRow hΓ hc6) cf_X12_inRow ly_57 (le45 rfl) vc_12 (le45 rfl) wM_X12_381 (le45 rfl) (le45 rfl) (dat D_X12_rightOf 5 rfl) rfl rfl (le45 rfl) (le45 rfl) rfl (fun _ => ?_) nlt0
    refine AW.istore_n (n := 13) (ls' := [some (vR 57), some (vI a0), some (vI a1), some (vI v7), none]) (dat D_X12_rightOf 6 rfl) rfl (le45 rfl) (le45 rfl) rfl rfl ?_
    refine AW.aload_n (n := 14) (dat D_X12_rightOf 7 rfl) rfl rfl ?_
    refine AW.iload_n (n := 15) (dat D_X12_rightOf 8 rfl) rfl rfl ?_
    obtain ⟨v9, hc8, h⟩ := ob_some h
    refine AW.cV (n := 18) (as := [vI a1]) (st := []) (st' := [vI v9]) (uc' := 0) (us' := 0) (A_X12_inRow hΓ hc8) cf_X12_inRow ly_57 (le45 rfl) vc_12 (le45 rfl) wM_X12_381 (le45 rfl) (le45 rfl) (dat D_X12_rightOf 9 rfl) rfl rfl (le45 rfl) (le45 rfl) rfl (fun _ => ?_) nlt0
    refine AW.istore (n := 20) (ls' := [some (vR 57), some (vI a0), some (vI a1), some (vI v7), some (vI v9)]) (dat D_X12_rightOf 10 rfl) rfl (le45 rfl) (le45 rfl) rfl rfl ?_
    refine AW.iload_n (n := 21) (dat D_X12_rightOf 11 rfl) rfl rfl ?_
    refine AW.iconst (n := 22) (dat D_X12_rightOf 12 rfl) rfl ?_
    refine AW.icmp_eqH (t := 31) (n := 25) h (dat D_X12_rightOf 13 rfl) rfl rfl rfl (by decide) (fun h => ?_) (fun h => ?_)
    · refine AW.iload_n (n := 32) (dat D_X12_rightOf 17 rfl) rfl rfl ?_
      refine AW.iconst (n := 33) (dat D_X12_rightOf 18 rfl) rfl ?_
      refine AW.icmp_eqH (t := 40) (n := 36) h (dat D_X12_rightOf 19 rfl) rfl rfl rfl (by decide) (fun h => ?_) (fun h => ?_)
      · refine AW.iload (n := 42) (dat D_X12_rightOf 22 rfl) rfl rfl ?_
        refine AW.iconst (n := 43) (dat D_X12_rightOf 23 rfl) rfl ?_
        refine AW.icmp_eqH (t := 50) (n := 46) h (dat D_X12_rightOf 24 rfl) rfl rfl rfl (by decide) (fun h => ?_) (fun h => ?_)
        · refine AW.iconst (n := 51) (dat D_X12_rightOf 27 rfl) rfl ?_
          cases h
          exact AW.iret rfl rfl rfl (dat D_X12_rightOf 28 rfl)
        · refine AW.iload_n (n := 47) (dat D_X12_rightOf 25 rfl) rfl rfl ?_
          refine AW.goto (t := 51) (dat D_X12_rightOf 26 rfl) rfl ?_
          cases h
          exact AW.iret rfl rfl rfl (dat D_X12_rightOf 28 rfl)
      · refine AW.iload_n (n := 37) (dat D_X12_rightOf 20 rfl) rfl rfl ?_
        refine AW.goto (t := 51) (dat D_X12_rightOf 21 rfl) rfl ?_
        cases h
        exact AW.iret rfl rfl rfl (dat D_X12_rightOf 28 rfl)
    · refine AW.iload (n := 27) (dat D_X12_rightOf 14 rfl) rfl rfl ?_
      refine AW.iconst (n := 28) (dat D_X12_rightOf 15 rfl) rfl ?_
      refine AW.icmp_neH (t := 52) (n := 31) h (dat D_X12_rightOf 16 rfl) rfl rfl rfl (by decide) (fun h => ?_) (fun h => ?_)
      · refine AW.iload_n (n := 32) (dat D_X12_rightOf 17 rfl) rfl rfl ?_
        refine AW.iconst (n := 33) (dat D_X12_rightOf 18 rfl) rfl ?_
        refine AW.icmp_eqH (t := 40) (n := 36) h (dat D_X12_rightOf 19 rfl) rfl rfl rfl (by decide) (fun h => ?_) (fun h => ?_)
        · refine AW.iload (n := 42) (dat D_X12_rightOf 22 rfl) rfl rfl ?_
          refine AW.iconst (n := 43) (dat D_X12_rightOf 23 rfl) rfl ?_
          refine AW.icmp_eqH (t := 50) (n := 46) h (dat D_X12_rightOf 24 rfl) rfl rfl rfl (by decide) (fun h => ?_) (fun h => ?_)
          · refine AW.iconst (n := 51) (dat D_X12_rightOf 27 rfl) rfl ?_
            cases h
            exact AW.iret rfl rfl rfl (dat D_X12_rightOf 28 rfl)
          · refine AW.iload_n (n := 47) (dat D_X12_rightOf 25 rfl) rfl rfl ?_
            refine AW.goto (t := 51) (dat D_X12_rightOf 26 rfl) rfl ?_
            cases h
            exact AW.iret rfl rfl rfl (dat D_X12_rightOf 28 rfl)
        · refine AW.iload_n (n := 37) (dat D_X12_rightOf 20 rfl) rfl rfl ?_
          refine AW.goto (t := 51) (dat D_X12_rightOf 21 rfl) rfl ?_
          cases h
          exact AW.iret rfl rfl rfl (dat D_X12_rightOf 28 rfl)
      · refine AW.iload_n (n := 53) (dat D_X12_rightOf 29 rfl) rfl rfl ?_
        refine AW.iload (n := 55) (dat D_X12_rightOf 30 rfl) rfl rfl ?_
        refine AW.icmp_geH (t := 62) (n := 58) h (dat D_X12_rightOf 31 rfl) rfl rfl rfl rfl (fun h => ?_) (fun h => ?_)
        · refine AW.iload_n (n := 63) (dat D_X12_rightOf 34 rfl) rfl rfl ?_
          cases h
          exact AW.iret rfl rfl rfl (dat D_X12_rightOf 35 rfl)
        · refine AW.iload_n (n := 59) (dat D_X12_rightOf 32 rfl) rfl rfl ?_
          refine AW.goto (t := 63) (dat D_X12_rightOf 33 rfl) rfl ?_
          cases h
          exact AW.iret rfl rfl rfl (dat D_X12_rightOf 35 rfl)
def L_X12_doMeet : List (Nat × Instr × Nat) := [(0, .iload 5, 2), (2, .ifCond .ne 14, 3), (5, .aload_n 0, 1), (6, .getfield 56, 3), (9, .iload_n 1, 1), (10, .iaload, 1), (11, .iload_n 2, 1), (12, .isub, 1), (13, .goto 9, 3), (16, .aload_n 0, 1), (17, .getfield 56, 3), (20, .iload_n 1, 1), (21, .iaload, 1), (22, .istore 6, 2), (24, .iload 5, 2), (26, .ifCond .ne 15, 3), (29, .aload_n 0, 1), (30, .getfield 56, 3), (33, .iload_n 3, 1), (34, .iaload, 1), (35, .iload 4, 2), (37, .isub, 1), (38, .goto 9, 3), (41, .aload_n 0, 1), (42, .getfield 56, 3), (45, .iload_n 3, 1), (46, .iaload, 1), (47, .istore 7, 2), (49, .iload 6, 2), (51, .iload 7, 2), (53, .iload 4, 2), (55, .iadd, 1), (56, .if_icmp .gt 16, 3), (59, .iload 7, 2), (61, .iload 6, 2), (63, .iload_n 2, 1), (64, .iadd, 1), (65, .if_icmp .gt 7, 3), (68, .iconst 1, 1), (69, .goto 4, 3), (72, .iconst 0, 1), (73, .ireturn, 1)]
theorem D_X12_doMeet : dOK cX12_doMeet L_X12_doMeet = true := by decide +kernel
theorem cf_X12_doMeet : CFV mX12_doMeet 5 := ⟨wI_X12_doMeet, wS_X12_doMeet, wN_WaveRightModel, wC_X12_doMeet, rfl, ⟨by decide +kernel, by decide +kernel, by decide +kernel⟩, le45 rfl⟩
def X12_doMeet_j47 (n : Nat) (a3 : Int) (y1 : Int) (a1 : Int) (y3 : Int) : Option (Int) :=
  if w32 (y3 + a3) < w32 y1 then
    some (0)
  else
    if w32 (y1 + a1) < w32 y3 then
      some (0)
    else
      some (1)
def X12_doMeet_j22 (n : Nat) (a4 : Int) (a2 : Int) (σ : SG) (a3 : Int) (a1 : Int) (y1 : Int) : Option (Int) :=
  ((if w32 a4 = 0 then
    rdA 5 a2 fun j6 =>
    some (((σ 68 j6) - a3))
  else
    rdA 5 a2 fun j5 =>
    some ((σ 68 j5))) : Option (Int)).bind (fun s => X12_doMeet_j47 n a3 y1 a1 s)
def X12_doMeet (n : Nat) (a0 : Int) (a1 : Int) (a2 : Int) (a3 : Int) (a4 : Int) (σ : SG) : Option (Int) :=
  ((if w32 a4 = 0 then
    rdA 5 a0 fun j8 =>
    some (((σ 68 j8) - a1))
  else
    rdA 5 a0 fun j7 =>
    some ((σ 68 j7))) : Option (Int)).bind (fun s => X12_doMeet_j22 n a4 a2 σ a3 a1 s)
set_option maxHeartbeats 4000000 in
set_option maxRecDepth 100000 in
theorem A_X12_doMeet {Γ : GA} (hΓ : (gl Γ).stackTraces = false) {n : Nat} {a0 : Int} {a1 : Int} {a2 : Int} {a3 : Int} {a4 : Int} {σ : SG} {r : Int}  (h : X12_doMeet n a0 a1 a2 a3 a4 σ = some r) : AM Γ mX12_doMeet 1 0 0 [vR 57, vI a0, vI a1, vI a2, vI a3, vI a4] (85, σ) (0, r) (85, σ) := by
  refine AM.of pl_X12 rfl wC_X12_doMeet (le45 rfl) hΓ ?_
  refine AW.to (ls'' := [some (vR 57), some (vI a0), some (vI a1), some (vI a2), some (vI a3), some (vI a4), none, none]) ?_ (lle_s rfl (lle_s rfl (lle_s rfl (lle_s rfl (lle_s rfl (lle_s rfl (lle_e (lle_e (lle_z)))))))))
  unfold X12_doMeet at h
  refine AW.iload (n := 2) (dat D_X12_doMeet 0 rfl) rfl rfl ?_
  obtain ⟨s2, h, hq2⟩ := ob_some h
  obtain ⟨y1, e2⟩ : ∃ z, z = s2 := ⟨_, rfl⟩
  subst e2
  have hJ2 : AW Γ mX12_doMeet 1 (0, r) (85, σ) 0 0 22 [some (vR 57), none, some (vI a1), some (vI a2), some (vI a3), some (vI a4), none, none] [vI y1] (85, σ) := by
    have h : X12_doMeet_j22 n a4 a2 σ a3 a1 y1 = some _ := hq2
    unfold X12_doMeet_j22 at h
    refine AW.istore (n := 24) (ls' := [some (vR 57), none, some (vI a1), some (vI a2), some (vI a3), some (vI a4), some (vI y1), none]) (dat D_X12_doMeet 13 rfl) rfl (le45 rfl) (le45 rfl) rfl rfl ?_
    refine AW.iload (n := 26) (dat D_X12_doMeet 14 rfl) rfl rfl ?_
    obtain ⟨s4, h, hq4⟩ := ob_some h
    obtain ⟨y3, e4⟩ : ∃ z, z = s4 := ⟨_, rfl⟩
    subst e4
    have hJ4 : AW Γ mX12_doMeet 1 (0, r) (85, σ) 0 0 47 [none, none, some (vI a1), none, some (vI a3), none, some (vI y1), none] [vI y3] (85, σ) := by
      have h : X12_doMeet_j47 n a3 y1 a1 y3 = some _ := hq4
      unfold X12_doMeet_j47 at h
      refine AW.istore (n := 49) (ls' := [none, none, some (vI a1), none, some (vI a3), none, some (vI y1), some (vI y3)]) (dat D_X12_doMeet 27 rfl) rfl (le45 rfl) (le45 rfl) rfl rfl ?_
      refine AW.iload (n := 51) (dat D_X12_doMeet 28 rfl) rfl rfl ?_
      refine AW.iload (n := 53) (dat D_X12_doMeet 29 rfl) rfl rfl ?_
      refine AW.iload (n := 55) (dat D_X12_doMeet 30 rfl) rfl rfl ?_
      refine AW.iadd (n := 56) (dat D_X12_doMeet 31 rfl) rfl ?_
      refine AW.icmp_gtH (t := 72) (n := 59) h (dat D_X12_doMeet 32 rfl) rfl rfl rfl rfl (fun h => ?_) (fun h => ?_)
      · refine AW.iconst (n := 73) (dat D_X12_doMeet 40 rfl) rfl ?_
        cases h
        exact AW.zret rfl (by decide) rfl rfl (dat D_X12_doMeet 41 rfl)
      · refine AW.iload (n := 61) (dat D_X12_doMeet 33 rfl) rfl rfl ?_
        refine AW.iload (n := 63) (dat D_X12_doMeet 34 rfl) rfl rfl ?_
        refine AW.iload_n (n := 64) (dat D_X12_doMeet 35 rfl) rfl rfl ?_
        refine AW.iadd (n := 65) (dat D_X12_doMeet 36 rfl) rfl ?_
        refine AW.icmp_gtH (t := 72) (n := 68) h (dat D_X12_doMeet 37 rfl) rfl rfl rfl rfl (fun h => ?_) (fun h => ?_)
        · refine AW.iconst (n := 73) (dat D_X12_doMeet 40 rfl) rfl ?_
          cases h
          exact AW.zret rfl (by decide) rfl rfl (dat D_X12_doMeet 41 rfl)
        · refine AW.iconst (n := 69) (dat D_X12_doMeet 38 rfl) rfl ?_
          refine AW.goto (t := 73) (dat D_X12_doMeet 39 rfl) rfl ?_
          cases h
          exact AW.zret rfl (by decide) rfl rfl (dat D_X12_doMeet 41 rfl)
    refine AW.if_neH (t := 41) (n := 29) h (dat D_X12_doMeet 15 rfl) rfl rfl (fun h => ?_) (fun h => ?_)
    · refine AW.aload_n (n := 30) (dat D_X12_doMeet 16 rfl) rfl rfl ?_
      refine AW.getR (n := 33) (t := 68) fX12_38 wF_X12_56 ly_57 (le45 rfl) rfl (dat D_X12_doMeet 17 rfl) rfl ?_
      refine AW.iload_n (n := 34) (dat D_X12_doMeet 18 rfl) rfl rfl ?_
      refine AW.ialdH h (n := 35) rfl ly_68 (le45 rfl) (dat D_X12_doMeet 19 rfl) rfl (fun j6 h => ?_)
      refine AW.iload (n := 37) (dat D_X12_doMeet 20 rfl) rfl rfl ?_
      refine AW.isub (n := 38) (dat D_X12_doMeet 21 rfl) rfl ?_
      refine AW.goto (t := 47) (dat D_X12_doMeet 22 rfl) rfl ?_
      cases h
      exact AW.to hJ4 (lle_n (lle_n (lle_s rfl (lle_n (lle_s rfl (lle_n (lle_s rfl (lle_n (lle_z)))))))))
    · refine AW.aload_n (n := 42) (dat D_X12_doMeet 23 rfl) rfl rfl ?_
      refine AW.getR (n := 45) (t := 68) fX12_38 wF_X12_56 ly_57 (le45 rfl) rfl (dat D_X12_doMeet 24 rfl) rfl ?_
      refine AW.iload_n (n := 46) (dat D_X12_doMeet 25 rfl) rfl rfl ?_
      refine AW.ialdH h (n := 47) rfl ly_68 (le45 rfl) (dat D_X12_doMeet 26 rfl) rfl (fun j5 h => ?_)
      cases h
      exact AW.to hJ4 (lle_n (lle_n (lle_s rfl (lle_n (lle_s rfl (lle_n (lle_s rfl (lle_n (lle_z)))))))))
  refine AW.if_neH (t := 16) (n := 5) h (dat D_X12_doMeet 1 rfl) rfl rfl (fun h => ?_) (fun h => ?_)
  · refine AW.aload_n (n := 6) (dat D_X12_doMeet 2 rfl) rfl rfl ?_
    refine AW.getR (n := 9) (t := 68) fX12_38 wF_X12_56 ly_57 (le45 rfl) rfl (dat D_X12_doMeet 3 rfl) rfl ?_
    refine AW.iload_n (n := 10) (dat D_X12_doMeet 4 rfl) rfl rfl ?_
    refine AW.ialdH h (n := 11) rfl ly_68 (le45 rfl) (dat D_X12_doMeet 5 rfl) rfl (fun j8 h => ?_)
    refine AW.iload_n (n := 12) (dat D_X12_doMeet 6 rfl) rfl rfl ?_
    refine AW.isub (n := 13) (dat D_X12_doMeet 7 rfl) rfl ?_
    refine AW.goto (t := 22) (dat D_X12_doMeet 8 rfl) rfl ?_
    cases h
    exact AW.to hJ2 (lle_s rfl (lle_n (lle_s rfl (lle_s rfl (lle_s rfl (lle_s rfl (lle_n (lle_n (lle_z)))))))))
  · refine AW.aload_n (n := 17) (dat D_X12_doMeet 9 rfl) rfl rfl ?_
    refine AW.getR (n := 20) (t := 68) fX12_38 wF_X12_56 ly_57 (le45 rfl) rfl (dat D_X12_doMeet 10 rfl) rfl ?_
    refine AW.iload_n (n := 21) (dat D_X12_doMeet 11 rfl) rfl rfl ?_
    refine AW.ialdH h (n := 22) rfl ly_68 (le45 rfl) (dat D_X12_doMeet 12 rfl) rfl (fun j7 h => ?_)
    cases h
    exact AW.to hJ2 (lle_s rfl (lle_n (lle_s rfl (lle_s rfl (lle_s rfl (lle_s rfl (lle_n (lle_n (lle_z)))))))))
def L_X12_hindersBy : List (Nat × Instr × Nat) := [(0, .iconst 0, 1), (1, .istore 4, 2), (3, .iconst 0, 1), (4, .istore 5, 2), (6, .iload 5, 2), (8, .aload_n 0, 1), (9, .invokevirtual 378, 3), (12, .if_icmp .ge 75, 3), (15, .iload 5, 2), (17, .iload_n 1, 1), (18, .if_icmp .eq 63, 3), (21, .aload_n 0, 1), (22, .iload 5, 2), (24, .invokevirtual 387, 3), (27, .ifCond .eq 54, 3), (30, .aload_n 0, 1), (31, .getfield 71, 3), (34, .iload 5, 2), (36, .iaload, 1), (37, .iload_n 2, 1), (38, .if_icmp .ne 43, 3), (41, .aload_n 0, 1), (42, .iload_n 1, 1), (43, .iload_n 3, 1), (44, .iload 5, 2), (46, .aload_n 0, 1), (47, .getfield 74, 3), (50, .iload 5, 2), (52, .iaload, 1), (53, .iload_n 2, 1), (54, .invokevirtual 390, 3), (57, .ifCond .eq 24, 3), (60, .aload_n 0, 1), (61, .iload_n 1, 1), (62, .iload 5, 2), (64, .invokevirtual 394, 3), (67, .iload 5, 2), (69, .if_icmp .ne 12, 3), (72, .iload 4, 2), (74, .iconst 1, 1), (75, .iload 5, 2), (77, .ishl, 1), (78, .ior, 1), (79, .istore 4, 2), (81, .iinc 5 1, 3), (84, .goto (-78), 3), (87, .iload 4, 2), (89, .ireturn, 1)]
theorem D_X12_hindersBy : dOK cX12_hindersBy L_X12_hindersBy = true := by decide +kernel
theorem cf_X12_hindersBy : CFV mX12_hindersBy 3 := ⟨wI_X12_hindersBy, wS_X12_hindersBy, wN_WaveRightModel, wC_X12_hindersBy, rfl, ⟨by decide +kernel, by decide +kernel, by decide +kernel⟩, le45 rfl⟩
def X12_hindersBy_e6 (n : Nat) (e4 : Int) : Option (Int) :=
  some (e4)
def X12_hindersBy_j81 (n : Nat) (z2 : Int) (y7 : Int) : Option ((Int × Int) ⊕ (Int)) :=
  lt (z2 + 1) fun x9 =>
  some (.inl (y7, x9))
def X12_hindersBy_l6 (n : Nat) (σ : SG) (a0 : Int) (a1 : Int) (a2 : Int) (z1 : Int) (z2 : Int) : Option ((Int × Int) ⊕ (Int)) :=
  (X12_surfers n σ).bind fun v6 =>
  if w32 v6 ≤ w32 z2 then
    some (.inr z1)
  else
    ((if w32 z2 = w32 a0 then
      some (z1)
    else
      (X12_hasTaken n z2 σ).bind fun v11 =>
      if w32 v11 = 0 then
        some (z1)
      else
        rdA 5 z2 fun j12 =>
        if w32 (σ 73 j12) = w32 a1 then
          rdA 5 z2 fun j13 =>
          (X12_doMeet n a0 a2 z2 (σ 74 j13) a1 σ).bind fun v15 =>
          if w32 v15 = 0 then
            some (z1)
          else
            (X12_rightOf n a0 z2 σ).bind fun v17 =>
            if w32 v17 = w32 z2 then
              lt (bOr z1 (bShl 1 z2)) fun x18 =>
              some (x18)
            else
              some (z1)
        else
          some (z1)) : Option (Int)).bind (fun s => X12_hindersBy_j81 n z2 s)
def X12_hindersBy (n : Nat) (a0 : Int) (a1 : Int) (a2 : Int) (σ : SG) : Option (Int) :=
  ((iter n (fun s : Int × Int => X12_hindersBy_l6 n σ a0 a1 a2 s.1 s.2) (0, 0)) : Option (Int)).bind (fun s => X12_hindersBy_e6 n s)
set_option maxHeartbeats 4000000 in
set_option maxRecDepth 100000 in
theorem A_X12_hindersBy {Γ : GA} (hΓ : (gl Γ).stackTraces = false) {n : Nat} {a0 : Int} {a1 : Int} {a2 : Int} {σ : SG} {r : Int}  (h : X12_hindersBy n a0 a1 a2 σ = some r) : AM Γ mX12_hindersBy 4 0 0 [vR 57, vI a0, vI a1, vI a2] (85, σ) (0, r) (85, σ) := by
  refine AM.of pl_X12 rfl wC_X12_hindersBy (le45 rfl) hΓ ?_
  refine AW.to (ls'' := [some (vR 57), some (vI a0), some (vI a1), some (vI a2), none, none]) ?_ (lle_s rfl (lle_s rfl (lle_s rfl (lle_s rfl (lle_e (lle_e (lle_z)))))))
  unfold X12_hindersBy at h
  refine AW.iconst (n := 1) (dat D_X12_hindersBy 0 rfl) rfl ?_
  refine AW.istore (n := 3) (ls' := [some (vR 57), some (vI a0), some (vI a1), some (vI a2), some (vI 0), none]) (dat D_X12_hindersBy 1 rfl) rfl (le45 rfl) (le45 rfl) rfl rfl ?_
  refine AW.iconst (n := 4) (dat D_X12_hindersBy 2 rfl) rfl ?_
  refine AW.istore (n := 6) (ls' := [some (vR 57), some (vI a0), some (vI a1), some (vI a2), some (vI 0), some (vI 0)]) (dat D_X12_hindersBy 3 rfl) rfl (le45 rfl) (le45 rfl) rfl rfl ?_
  obtain ⟨b3, hi3, hq3⟩ := ob_some h
  obtain ⟨e4, e3⟩ : ∃ z, z = b3 := ⟨_, rfl⟩
  subst e3
  have hR3 : AW Γ mX12_hindersBy 4 (0, r) (85, σ) 0 0 87 [none, none, none, none, some (vI e4), none] [] (85, σ) := by
    have h : X12_hindersBy_e6 n e4 = some _ := hq3
    unfold X12_hindersBy_e6 at h
    refine AW.iload (n := 89) (dat D_X12_hindersBy 46 rfl) rfl rfl ?_
    cases h
    exact AW.iret rfl rfl rfl (dat D_X12_hindersBy 47 rfl)
  refine AW.to (ls'' := [some (vR 57), some (vI a0), some (vI a1), some (vI a2), some (vI 0), some (vI 0)]) ?_ (lle_s rfl (lle_s rfl (lle_s rfl (lle_s rfl (lle_s rfl (lle_s rfl (lle_z)))))))
  refine aw_iter (fun s : Int × Int => AW Γ mX12_hindersBy 4 (0, r) (85, σ) 0 0 6 [some (vR 57), some (vI a0), some (vI a1), some (vI a2), some (vI (s.1)), some (vI (s.2))] [] (85, σ)) (fun s y h hk3 hb3 => ?_) _ _ hi3
  obtain ⟨z1, z2⟩ := s
  show AW Γ mX12_hindersBy 4 (0, r) (85, σ) 0 0 6 [some (vR 57), some (vI a0), some (vI a1), some (vI a2), some (vI z1), some (vI z2)] [] (85, σ)
  have h : X12_hindersBy_l6 n σ a0 a1 a2 z1 z2 = some y := h
  unfold X12_hindersBy_l6 at h
  refine AW.iload (n := 8) (dat D_X12_hindersBy 4 rfl) rfl rfl ?_
  refine AW.aload_n (n := 9) (dat D_X12_hindersBy 5 rfl) rfl rfl ?_
  obtain ⟨v6, hc5, h⟩ := ob_some h
  refine AW.cV (n := 12) (as := []) (st := [vI z2]) (st' := [vI v6, vI z2]) (uc' := 0) (us' := 0) (A_X12_surfers hΓ hc5) cf_X12_surfers ly_57 (le45 rfl) vc_12 (le45 rfl) wM_X12_378 (le45 rfl) (le45 rfl) (dat D_X12_hindersBy 6 rfl) rfl rfl (le45 rfl) (le45 rfl) rfl (fun _ => ?_) nlt0
  refine AW.icmp_geH (t := 87) (n := 15) h (dat D_X12_hindersBy 7 rfl) rfl rfl rfl rfl (fun h => ?_) (fun h => ?_)
  · cases h
    have hb := hb3 _ rfl
    cases hb
    exact AW.to hR3 (lle_n (lle_n (lle_n (lle_n (lle_s rfl (lle_n (lle_z)))))))
  · refine AW.iload (n := 17) (dat D_X12_hindersBy 8 rfl) rfl rfl ?_
    refine AW.iload_n (n := 18) (dat D_X12_hindersBy 9 rfl) rfl rfl ?_
    obtain ⟨s8, h, hq8⟩ := ob_some h
    obtain ⟨y7, e8⟩ : ∃ z, z = s8 := ⟨_, rfl⟩
    subst e8
    have hJ8 : AW Γ mX12_hindersBy 4 (0, r) (85, σ) 0 0 81 [some (vR 57), some (vI a0), some (vI a1), some (vI a2), some (vI y7), some (vI z2)] [] (85, σ) := by
      have h : X12_hindersBy_j81 n z2 y7 = some _ := hq8
      unfold X12_hindersBy_j81 at h
      refine AW.iincH h (n := 84) (dat D_X12_hindersBy 44 rfl) rfl rfl (le45 rfl) rfl (fun x9 h => ?_)
      refine AW.lq (ls' := [some (vR 57), some (vI a0), some (vI a1), some (vI a2), some (vI y7), some (vI x9)]) rfl ?_
      refine AW.goto (t := 6) (dat D_X12_hindersBy 45 rfl) rfl ?_
      cases h
      exact AW.to (hk3 _ rfl) (lle_s rfl (lle_s rfl (lle_s rfl (lle_s rfl (lle_s rfl (lle_s rfl (lle_z)))))))
    refine AW.icmp_eqH (t := 81) (n := 21) h (dat D_X12_hindersBy 10 rfl) rfl rfl rfl rfl (fun h => ?_) (fun h => ?_)
    · cases h
      exact AW.to hJ8 (lle_s rfl (lle_s rfl (lle_s rfl (lle_s rfl (lle_s rfl (lle_s rfl (lle_z)))))))
    · refine AW.aload_n (n := 22) (dat D_X12_hindersBy 11 rfl) rfl rfl ?_
      refine AW.iload (n := 24) (dat D_X12_hindersBy 12 rfl) rfl rfl ?_
      obtain ⟨v11, hc10, h⟩ := ob_some h
      refine AW.cV (n := 27) (as := [vI z2]) (st := []) (st' := [vI v11]) (uc' := 0) (us' := 0) (A_X12_hasTaken hΓ hc10) cf_X12_hasTaken ly_57 (le45 rfl) vc_12 (le45 rfl) wM_X12_387 (le45 rfl) (le45 rfl) (dat D_X12_hindersBy 13 rfl) rfl rfl (le45 rfl) (le45 rfl) rfl (fun _ => ?_) nlt0
      refine AW.if_eqH (t := 81) (n := 30) h (dat D_X12_hindersBy 14 rfl) rfl rfl (fun h => ?_) (fun h => ?_)
      · cases h
        exact AW.to hJ8 (lle_s rfl (lle_s rfl (lle_s rfl (lle_s rfl (lle_s rfl (lle_s rfl (lle_z)))))))
      · refine AW.aload_n (n := 31) (dat D_X12_hindersBy 15 rfl) rfl rfl ?_
        refine AW.getR (n := 34) (t := 73) fX12_43 wF_X12_71 ly_57 (le45 rfl) rfl (dat D_X12_hindersBy 16 rfl) rfl ?_
        refine AW.iload (n := 36) (dat D_X12_hindersBy 17 rfl) rfl rfl ?_
        refine AW.ialdH h (n := 37) rfl ly_73 (le45 rfl) (dat D_X12_hindersBy 18 rfl) rfl (fun j12 h => ?_)
        refine AW.iload_n (n := 38) (dat D_X12_hindersBy 19 rfl) rfl rfl ?_
        refine AW.icmp_neH (t := 81) (n := 41) h (dat D_X12_hindersBy 20 rfl) rfl rfl rfl rfl (fun h => ?_) (fun h => ?_)
        · refine AW.aload_n (n := 42) (dat D_X12_hindersBy 21 rfl) rfl rfl ?_
          refine AW.iload_n (n := 43) (dat D_X12_hindersBy 22 rfl) rfl rfl ?_
          refine AW.iload_n (n := 44) (dat D_X12_hindersBy 23 rfl) rfl rfl ?_
          refine AW.iload (n := 46) (dat D_X12_hindersBy 24 rfl) rfl rfl ?_
          refine AW.aload_n (n := 47) (dat D_X12_hindersBy 25 rfl) rfl rfl ?_
          refine AW.getR (n := 50) (t := 74) fX12_44 wF_X12_74 ly_57 (le45 rfl) rfl (dat D_X12_hindersBy 26 rfl) rfl ?_
          refine AW.iload (n := 52) (dat D_X12_hindersBy 27 rfl) rfl rfl ?_
          refine AW.ialdH h (n := 53) rfl ly_74 (le45 rfl) (dat D_X12_hindersBy 28 rfl) rfl (fun j13 h => ?_)
          refine AW.iload_n (n := 54) (dat D_X12_hindersBy 29 rfl) rfl rfl ?_
          obtain ⟨v15, hc14, h⟩ := ob_some h
          refine AW.cV (n := 57) (as := [vI a0, vI a2, vI z2, vI (σ 74 j13), vI a1]) (st := []) (st' := [vI v15]) (uc' := 0) (us' := 0) (A_X12_doMeet hΓ hc14) cf_X12_doMeet ly_57 (le45 rfl) vc_12 (le45 rfl) wM_X12_390 (le45 rfl) (le45 rfl) (dat D_X12_hindersBy 30 rfl) rfl rfl (le45 rfl) (le45 rfl) rfl (fun _ => ?_) nlt0
          refine AW.if_eqH (t := 81) (n := 60) h (dat D_X12_hindersBy 31 rfl) rfl rfl (fun h => ?_) (fun h => ?_)
          · cases h
            exact AW.to hJ8 (lle_s rfl (lle_s rfl (lle_s rfl (lle_s rfl (lle_s rfl (lle_s rfl (lle_z)))))))
          · refine AW.aload_n (n := 61) (dat D_X12_hindersBy 32 rfl) rfl rfl ?_
            refine AW.iload_n (n := 62) (dat D_X12_hindersBy 33 rfl) rfl rfl ?_
            refine AW.iload (n := 64) (dat D_X12_hindersBy 34 rfl) rfl rfl ?_
            obtain ⟨v17, hc16, h⟩ := ob_some h
            refine AW.cV (n := 67) (as := [vI a0, vI z2]) (st := []) (st' := [vI v17]) (uc' := 0) (us' := 0) (A_X12_rightOf hΓ hc16) cf_X12_rightOf ly_57 (le45 rfl) vc_12 (le45 rfl) wM_X12_394 (le45 rfl) (le45 rfl) (dat D_X12_hindersBy 35 rfl) rfl rfl (le45 rfl) (le45 rfl) rfl (fun _ => ?_) nlt0
            refine AW.iload (n := 69) (dat D_X12_hindersBy 36 rfl) rfl rfl ?_
            refine AW.icmp_neH (t := 81) (n := 72) h (dat D_X12_hindersBy 37 rfl) rfl rfl rfl rfl (fun h => ?_) (fun h => ?_)
            · refine AW.iload (n := 74) (dat D_X12_hindersBy 38 rfl) rfl rfl ?_
              refine AW.iconst (n := 75) (dat D_X12_hindersBy 39 rfl) rfl ?_
              refine AW.iload (n := 77) (dat D_X12_hindersBy 40 rfl) rfl rfl ?_
              refine AW.ishl (n := 78) (dat D_X12_hindersBy 41 rfl) rfl ?_
              refine AW.ior (n := 79) (dat D_X12_hindersBy 42 rfl) rfl ?_
              refine AW.ltI h (fun x18 h => ?_)
              refine AW.istore (n := 81) (ls' := [some (vR 57), some (vI a0), some (vI a1), some (vI a2), some (vI x18), some (vI z2)]) (dat D_X12_hindersBy 43 rfl) rfl (le45 rfl) (le45 rfl) rfl rfl ?_
              cases h
              exact AW.to hJ8 (lle_s rfl (lle_s rfl (lle_s rfl (lle_s rfl (lle_s rfl (lle_s rfl (lle_z)))))))
            · cases h
              exact AW.to hJ8 (lle_s rfl (lle_s rfl (lle_s rfl (lle_s rfl (lle_s rfl (lle_s rfl (lle_z)))))))
        · cases h
          exact AW.to hJ8 (lle_s rfl (lle_s rfl (lle_s rfl (lle_s rfl (lle_s rfl (lle_s rfl (lle_z)))))))
def L_X12_hindersNow : List (Nat × Instr × Nat) := [(0, .aload_n 0, 1), (1, .getfield 49, 3), (4, .iconst (-1), 1), (5, .if_icmp .eq 31, 3), (8, .aload_n 0, 1), (9, .iload_n 1, 1), (10, .invokevirtual 387, 3), (13, .ifCond .eq 23, 3), (16, .aload_n 0, 1), (17, .iload_n 1, 1), (18, .aload_n 0, 1), (19, .getfield 71, 3), (22, .iload_n 1, 1), (23, .iaload, 1), (24, .aload_n 0, 1), (25, .getfield 74, 3), (28, .iload_n 1, 1), (29, .iaload, 1), (30, .invokevirtual 397, 3), (33, .goto 4, 3), (36, .iconst 0, 1), (37, .ireturn, 1)]
theorem D_X12_hindersNow : dOK cX12_hindersNow L_X12_hindersNow = true := by decide +kernel
theorem cf_X12_hindersNow : CFV mX12_hindersNow 1 := ⟨wI_X12_hindersNow, wS_X12_hindersNow, wN_WaveRightModel, wC_X12_hindersNow, rfl, ⟨by decide +kernel, by decide +kernel, by decide +kernel⟩, le45 rfl⟩
def X12_hindersNow (n : Nat) (a0 : Int) (σ : SG) : Option (Int) :=
  if w32 (σ 57 27) = (-1) then
    some (0)
  else
    (X12_hasTaken n a0 σ).bind fun v2 =>
    if w32 v2 = 0 then
      some (0)
    else
      rdA 5 a0 fun j3 =>
      rdA 5 a0 fun j4 =>
      (X12_hindersBy n a0 (σ 73 j3) (σ 74 j4) σ).bind fun v6 =>
      some (v6)
set_option maxHeartbeats 4000000 in
set_option maxRecDepth 100000 in
theorem A_X12_hindersNow {Γ : GA} (hΓ : (gl Γ).stackTraces = false) {n : Nat} {a0 : Int} {σ : SG} {r : Int}  (h : X12_hindersNow n a0 σ = some r) : AM Γ mX12_hindersNow 5 0 0 [vR 57, vI a0] (85, σ) (0, r) (85, σ) := by
  refine AM.of pl_X12 rfl wC_X12_hindersNow (le45 rfl) hΓ ?_
  refine AW.to (ls'' := [some (vR 57), some (vI a0)]) ?_ (lle_s rfl (lle_s rfl (lle_z)))
  unfold X12_hindersNow at h
  refine AW.aload_n (n := 1) (dat D_X12_hindersNow 0 rfl) rfl rfl ?_
  refine AW.getI (n := 4) fX12_27 wF_X12_49 ly_57 (le45 rfl) rfl rfl (dat D_X12_hindersNow 1 rfl) rfl ?_
  refine AW.iconst (n := 5) (dat D_X12_hindersNow 2 rfl) rfl ?_
  refine AW.icmp_eqH (t := 36) (n := 8) h (dat D_X12_hindersNow 3 rfl) rfl rfl rfl (by decide) (fun h => ?_) (fun h => ?_)
  · refine AW.iconst (n := 37) (dat D_X12_hindersNow 20 rfl) rfl ?_
    cases h
    exact AW.iret rfl rfl rfl (dat D_X12_hindersNow 21 rfl)
  · refine AW.aload_n (n := 9) (dat D_X12_hindersNow 4 rfl) rfl rfl ?_
    refine AW.iload_n (n := 10) (dat D_X12_hindersNow 5 rfl) rfl rfl ?_
    obtain ⟨v2, hc1, h⟩ := ob_some h
    refine AW.cV (n := 13) (as := [vI a0]) (st := []) (st' := [vI v2]) (uc' := 0) (us' := 0) (A_X12_hasTaken hΓ hc1) cf_X12_hasTaken ly_57 (le45 rfl) vc_12 (le45 rfl) wM_X12_387 (le45 rfl) (le45 rfl) (dat D_X12_hindersNow 6 rfl) rfl rfl (le45 rfl) (le45 rfl) rfl (fun _ => ?_) nlt0
    refine AW.if_eqH (t := 36) (n := 16) h (dat D_X12_hindersNow 7 rfl) rfl rfl (fun h => ?_) (fun h => ?_)
    · refine AW.iconst (n := 37) (dat D_X12_hindersNow 20 rfl) rfl ?_
      cases h
      exact AW.iret rfl rfl rfl (dat D_X12_hindersNow 21 rfl)
    · refine AW.aload_n (n := 17) (dat D_X12_hindersNow 8 rfl) rfl rfl ?_
      refine AW.iload_n (n := 18) (dat D_X12_hindersNow 9 rfl) rfl rfl ?_
      refine AW.aload_n (n := 19) (dat D_X12_hindersNow 10 rfl) rfl rfl ?_
      refine AW.getR (n := 22) (t := 73) fX12_43 wF_X12_71 ly_57 (le45 rfl) rfl (dat D_X12_hindersNow 11 rfl) rfl ?_
      refine AW.iload_n (n := 23) (dat D_X12_hindersNow 12 rfl) rfl rfl ?_
      refine AW.ialdH h (n := 24) rfl ly_73 (le45 rfl) (dat D_X12_hindersNow 13 rfl) rfl (fun j3 h => ?_)
      refine AW.aload_n (n := 25) (dat D_X12_hindersNow 14 rfl) rfl rfl ?_
      refine AW.getR (n := 28) (t := 74) fX12_44 wF_X12_74 ly_57 (le45 rfl) rfl (dat D_X12_hindersNow 15 rfl) rfl ?_
      refine AW.iload_n (n := 29) (dat D_X12_hindersNow 16 rfl) rfl rfl ?_
      refine AW.ialdH h (n := 30) rfl ly_74 (le45 rfl) (dat D_X12_hindersNow 17 rfl) rfl (fun j4 h => ?_)
      obtain ⟨v6, hc5, h⟩ := ob_some h
      refine AW.cV (n := 33) (as := [vI a0, vI (σ 73 j3), vI (σ 74 j4)]) (st := []) (st' := [vI v6]) (uc' := 0) (us' := 0) (A_X12_hindersBy hΓ hc5) cf_X12_hindersBy ly_57 (le45 rfl) vc_12 (le45 rfl) wM_X12_397 (le45 rfl) (le45 rfl) (dat D_X12_hindersNow 18 rfl) rfl rfl (le45 rfl) (le45 rfl) rfl (fun _ => ?_) nlt0
      refine AW.goto (t := 37) (dat D_X12_hindersNow 19 rfl) rfl ?_
      cases h
      exact AW.iret rfl rfl rfl (dat D_X12_hindersNow 21 rfl)
def L_X12_changesRow : List (Nat × Instr × Nat) := [(0, .iconst 0, 1), (1, .istore_n 1, 1), (2, .aload_n 0, 1), (3, .getfield 372, 3), (6, .ifCond .ne 56, 3), (9, .iconst 0, 1), (10, .istore_n 2, 1), (11, .iload_n 2, 1), (12, .aload_n 0, 1), (13, .invokevirtual 378, 3), (16, .if_icmp .ge 38, 3), (19, .aload_n 0, 1), (20, .iload_n 2, 1), (21, .invokevirtual 387, 3), (24, .ifCond .ne 24, 3), (27, .aload_n 0, 1), (28, .iload_n 2, 1), (29, .invokevirtual 416, 3), (32, .ifCond .eq 6, 3), (35, .goto 13, 3), (38, .aload_n 0, 1), (39, .getfield 80, 3), (42, .iload_n 1, 1), (43, .iload_n 2, 1), (44, .iastore, 1), (45, .iinc 1 1, 3), (48, .iinc 2 1, 3), (51, .goto (-40), 3), (54, .aload_n 0, 1), (55, .iconst 1, 1), (56, .putfield 372, 3), (59, .goto 50, 3), (62, .iconst 0, 1), (63, .istore_n 2, 1), (64, .iload_n 2, 1), (65, .aload_n 0, 1), (66, .getfield 369, 3), (69, .if_icmp .ge 40, 3), (72, .aload_n 0, 1), (73, .aload_n 0, 1), (74, .getfield 80, 3), (77, .iload_n 2, 1), (78, .iaload, 1), (79, .invokevirtual 387, 3), (82, .ifCond .eq 6, 3), (85, .goto 18, 3), (88, .aload_n 0, 1), (89, .getfield 80, 3), (92, .iload_n 1, 1), (93, .aload_n 0, 1), (94, .getfield 80, 3), (97, .iload_n 2, 1), (98, .iaload, 1), (99, .iastore, 1), (100, .iinc 1 1, 3), (103, .iinc 2 1, 3), (106, .goto (-42), 3), (109, .aload_n 0, 1), (110, .iload_n 1, 1), (111, .putfield 369, 3), (114, .return_, 1)]
theorem D_X12_changesRow : dOK cX12_changesRow L_X12_changesRow = true := by decide +kernel
theorem cf_X12_changesRow : CFV mX12_changesRow 0 := ⟨wI_X12_changesRow, wS_X12_changesRow, wN_WaveRightModel, wC_X12_changesRow, rfl, ⟨by decide +kernel, by decide +kernel, by decide +kernel⟩, le45 rfl⟩
def X12_changesRow_j109 (n : Nat) (y1 : Int) (σ2 : SG) : Option (SG) :=
  lt (up σ2 57 34 y1) fun σ4 =>
  some (σ4)
def X12_changesRow_e64 (n : Nat) (e9 : Int) (σ10 : SG) : Option (Int × SG) :=
  some ((e9, σ10))
def X12_changesRow_j103 (n : Nat) (z6 : Int) (y14 : Int) (σ15 : SG) : Option ((Int × Int × SG) ⊕ (Int × SG)) :=
  lt (z6 + 1) fun x17 =>
  some (.inl (y14, x17, σ15))
def X12_changesRow_l64 (n : Nat) (z5 : Int) (z6 : Int) (σ7 : SG) : Option ((Int × Int × SG) ⊕ (Int × SG)) :=
  if w32 (σ7 57 34) ≤ w32 z6 then
    some (.inr (z5, σ7))
  else
    rdA 5 z6 fun j11 =>
    (X12_hasTaken n (σ7 76 j11) σ7).bind fun v13 =>
    ((if w32 v13 = 0 then
      rdA 5 z6 fun j18 =>
      rdA 5 z5 fun j19 => lt (up σ7 76 j19 (σ7 76 j18)) fun σ20 =>
      lt (z5 + 1) fun x21 =>
      some ((x21, σ20))
    else
      some ((z5, σ7))) : Option (Int × SG)).bind (fun s => X12_changesRow_j103 n z6 s.1 s.2)
def X12_changesRow_e11 (n : Nat) (e26 : Int) (σ27 : SG) : Option (Int × SG) :=
  lt (up σ27 57 36 1) fun σ28 =>
  some ((e26, σ28))
def X12_changesRow_j48 (n : Nat) (z23 : Int) (y33 : Int) (σ34 : SG) : Option ((Int × Int × SG) ⊕ (Int × SG)) :=
  lt (z23 + 1) fun x36 =>
  some (.inl (y33, x36, σ34))
def X12_changesRow_l11 (n : Nat) (z22 : Int) (z23 : Int) (σ24 : SG) : Option ((Int × Int × SG) ⊕ (Int × SG)) :=
  (X12_surfers n σ24).bind fun v30 =>
  if w32 v30 ≤ w32 z23 then
    some (.inr (z22, σ24))
  else
    (X12_hasTaken n z23 σ24).bind fun v32 =>
    ((if w32 v32 = 0 then
      (X12_isSentIn n z23 σ24).bind fun v38 =>
      if w32 v38 = 0 then
        rdA 5 z22 fun j39 => lt (up σ24 76 j39 z23) fun σ40 =>
        lt (z22 + 1) fun x41 =>
        some ((x41, σ40))
      else
        some ((z22, σ24))
    else
      some ((z22, σ24))) : Option (Int × SG)).bind (fun s => X12_changesRow_j48 n z23 s.1 s.2)
def X12_changesRow (n : Nat) (σ : SG) : Option (SG) :=
  ((if w32 (σ 57 36) = 0 then
    ((iter n (fun s : Int × Int × SG => X12_changesRow_l11 n s.1 s.2.1 s.2.2) (0, 0, σ)) : Option (Int × SG)).bind (fun s => X12_changesRow_e11 n s.1 s.2)
  else
    ((iter n (fun s : Int × Int × SG => X12_changesRow_l64 n s.1 s.2.1 s.2.2) (0, 0, σ)) : Option (Int × SG)).bind (fun s => X12_changesRow_e64 n s.1 s.2)) : Option (Int × SG)).bind (fun s => X12_changesRow_j109 n s.1 s.2)
set_option maxHeartbeats 4000000 in
set_option maxRecDepth 100000 in
theorem A_X12_changesRow {Γ : GA} (hΓ : (gl Γ).stackTraces = false) {n : Nat} {σ : SG} {τ : SG}  (h : X12_changesRow n σ = some τ) : AM Γ mX12_changesRow 2 0 0 [vR 57] (85, σ) (0, 0) (85, τ) := by
  refine AM.of pl_X12 rfl wC_X12_changesRow (le45 rfl) hΓ ?_
  refine AW.to (ls'' := [some (vR 57), none, none]) ?_ (lle_s rfl (lle_e (lle_e (lle_z))))
  unfold X12_changesRow at h
  refine AW.iconst (n := 1) (dat D_X12_changesRow 0 rfl) rfl ?_
  refine AW.istore_n (n := 2) (ls' := [some (vR 57), some (vI 0), none]) (dat D_X12_changesRow 1 rfl) rfl (le45 rfl) (le45 rfl) rfl rfl ?_
  refine AW.aload_n (n := 3) (dat D_X12_changesRow 2 rfl) rfl rfl ?_
  refine AW.getI (n := 6) fX12_36 wF_X12_372 ly_57 (le45 rfl) rfl rfl (dat D_X12_changesRow 3 rfl) rfl ?_
  obtain ⟨s3, h, hq3⟩ := ob_some h
  obtain ⟨y1, σ2⟩ := s3
  have hJ3 : AW Γ mX12_changesRow 2 (0, 0) (85, τ) 0 0 109 [some (vR 57), some (vI y1), none] [] (85, σ2) := by
    have h : X12_changesRow_j109 n y1 σ2 = some _ := hq3
    unfold X12_changesRow_j109 at h
    refine AW.aload_n (n := 110) (dat D_X12_changesRow 57 rfl) rfl rfl ?_
    refine AW.iload_n (n := 111) (dat D_X12_changesRow 58 rfl) rfl rfl ?_
    refine AW.putI (n := 114) fX12_34 wF_X12_369 ly_57 (le45 rfl) rfl rfl rfl (dat D_X12_changesRow 59 rfl) rfl ?_
    refine AW.ltS h (fun σ4 h => ?_)
    cases h
    exact AW.vret rfl rfl rfl (dat D_X12_changesRow 60 rfl)
  refine AW.if_neH (t := 62) (n := 9) h (dat D_X12_changesRow 4 rfl) rfl rfl (fun h => ?_) (fun h => ?_)
  · refine AW.iconst (n := 10) (dat D_X12_changesRow 5 rfl) rfl ?_
    refine AW.istore_n (n := 11) (ls' := [some (vR 57), some (vI 0), some (vI 0)]) (dat D_X12_changesRow 6 rfl) rfl (le45 rfl) (le45 rfl) rfl rfl ?_
    obtain ⟨b25, hi25, hq25⟩ := ob_some h
    obtain ⟨e26, σ27⟩ := b25
    have hR25 : AW Γ mX12_changesRow 2 (0, 0) (85, τ) 0 0 54 [some (vR 57), some (vI e26), none] [] (85, σ27) := by
      have h : X12_changesRow_e11 n e26 σ27 = some _ := hq25
      unfold X12_changesRow_e11 at h
      refine AW.aload_n (n := 55) (dat D_X12_changesRow 28 rfl) rfl rfl ?_
      refine AW.iconst (n := 56) (dat D_X12_changesRow 29 rfl) rfl ?_
      refine AW.putZ (n := 59) (Or.inr rfl) fX12_36 wF_X12_372 ly_57 (le45 rfl) rfl rfl rfl (dat D_X12_changesRow 30 rfl) rfl ?_
      refine AW.ltS h (fun σ28 h => ?_)
      refine AW.goto (t := 109) (dat D_X12_changesRow 31 rfl) rfl ?_
      cases h
      exact AW.to hJ3 (lle_s rfl (lle_s rfl (lle_n (lle_z))))
    refine AW.to (ls'' := [some (vR 57), some (vI 0), some (vI 0)]) ?_ (lle_s rfl (lle_s rfl (lle_s rfl (lle_z))))
    refine aw_iter (fun s : Int × Int × SG => AW Γ mX12_changesRow 2 (0, 0) (85, τ) 0 0 11 [some (vR 57), some (vI (s.1)), some (vI (s.2.1))] [] (85, s.2.2)) (fun s y h hk25 hb25 => ?_) _ _ hi25
    obtain ⟨z22, z23, σ24⟩ := s
    show AW Γ mX12_changesRow 2 (0, 0) (85, τ) 0 0 11 [some (vR 57), some (vI z22), some (vI z23)] [] (85, σ24)
    have h : X12_changesRow_l11 n z22 z23 σ24 = some y := h
    unfold X12_changesRow_l11 at h
    refine AW.iload_n (n := 12) (dat D_X12_changesRow 7 rfl) rfl rfl ?_
    refine AW.aload_n (n := 13) (dat D_X12_changesRow 8 rfl) rfl rfl ?_
    obtain ⟨v30, hc29, h⟩ := ob_some h
    refine AW.cV (n := 16) (as := []) (st := [vI z23]) (st' := [vI v30, vI z23]) (uc' := 0) (us' := 0) (A_X12_surfers hΓ hc29) cf_X12_surfers ly_57 (le45 rfl) vc_12 (le45 rfl) wM_X12_378 (le45 rfl) (le45 rfl) (dat D_X12_changesRow 9 rfl) rfl rfl (le45 rfl) (le45 rfl) rfl (fun _ => ?_) nlt0
    refine AW.icmp_geH (t := 54) (n := 19) h (dat D_X12_changesRow 10 rfl) rfl rfl rfl rfl (fun h => ?_) (fun h => ?_)
    · cases h
      have hb := hb25 _ rfl
      cases hb
      exact AW.to hR25 (lle_s rfl (lle_s rfl (lle_n (lle_z))))
    · refine AW.aload_n (n := 20) (dat D_X12_changesRow 11 rfl) rfl rfl ?_
      refine AW.iload_n (n := 21) (dat D_X12_changesRow 12 rfl) rfl rfl ?_
      obtain ⟨v32, hc31, h⟩ := ob_some h
      refine AW.cV (n := 24) (as := [vI z23]) (st := []) (st' := [vI v32]) (uc' := 0) (us' := 0) (A_X12_hasTaken hΓ hc31) cf_X12_hasTaken ly_57 (le45 rfl) vc_12 (le45 rfl) wM_X12_387 (le45 rfl) (le45 rfl) (dat D_X12_changesRow 13 rfl) rfl rfl (le45 rfl) (le45 rfl) rfl (fun _ => ?_) nlt0
      obtain ⟨s35, h, hq35⟩ := ob_some h
      obtain ⟨y33, σ34⟩ := s35
      have hJ35 : AW Γ mX12_changesRow 2 (0, 0) (85, τ) 0 0 48 [some (vR 57), some (vI y33), some (vI z23)] [] (85, σ34) := by
        have h : X12_changesRow_j48 n z23 y33 σ34 = some _ := hq35
        unfold X12_changesRow_j48 at h
        refine AW.iincH h (n := 51) (dat D_X12_changesRow 26 rfl) rfl rfl (le45 rfl) rfl (fun x36 h => ?_)
        refine AW.lq (ls' := [some (vR 57), some (vI y33), some (vI x36)]) rfl ?_
        refine AW.goto (t := 11) (dat D_X12_changesRow 27 rfl) rfl ?_
        cases h
        exact AW.to (hk25 _ rfl) (lle_s rfl (lle_s rfl (lle_s rfl (lle_z))))
      refine AW.if_neH (t := 48) (n := 27) h (dat D_X12_changesRow 14 rfl) rfl rfl (fun h => ?_) (fun h => ?_)
      · refine AW.aload_n (n := 28) (dat D_X12_changesRow 15 rfl) rfl rfl ?_
        refine AW.iload_n (n := 29) (dat D_X12_changesRow 16 rfl) rfl rfl ?_
        obtain ⟨v38, hc37, h⟩ := ob_some h
        refine AW.cV (n := 32) (as := [vI z23]) (st := []) (st' := [vI v38]) (uc' := 0) (us' := 0) (A_X12_isSentIn hΓ hc37) cf_X12_isSentIn ly_57 (le45 rfl) vc_12 (le45 rfl) wM_X12_416 (le45 rfl) (le45 rfl) (dat D_X12_changesRow 17 rfl) rfl rfl (le45 rfl) (le45 rfl) rfl (fun _ => ?_) nlt0
        refine AW.if_eqH (t := 38) (n := 35) h (dat D_X12_changesRow 18 rfl) rfl rfl (fun h => ?_) (fun h => ?_)
        · refine AW.aload_n (n := 39) (dat D_X12_changesRow 20 rfl) rfl rfl ?_
          refine AW.getR (n := 42) (t := 76) fX12_46 wF_X12_80 ly_57 (le45 rfl) rfl (dat D_X12_changesRow 21 rfl) rfl ?_
          refine AW.iload_n (n := 43) (dat D_X12_changesRow 22 rfl) rfl rfl ?_
          refine AW.iload_n (n := 44) (dat D_X12_changesRow 23 rfl) rfl rfl ?_
          refine AW.iastH h (n := 45) rfl ly_76 (le45 rfl) (dat D_X12_changesRow 24 rfl) rfl (fun j39 h => ?_)
          refine AW.ltS h (fun σ40 h => ?_)
          refine AW.iincH h (n := 48) (dat D_X12_changesRow 25 rfl) rfl rfl (le45 rfl) rfl (fun x41 h => ?_)
          refine AW.lq (ls' := [some (vR 57), some (vI x41), some (vI z23)]) rfl ?_
          cases h
          exact AW.to hJ35 (lle_s rfl (lle_s rfl (lle_s rfl (lle_z))))
        · refine AW.goto (t := 48) (dat D_X12_changesRow 19 rfl) rfl ?_
          cases h
          exact AW.to hJ35 (lle_s rfl (lle_s rfl (lle_s rfl (lle_z))))
      · cases h
        exact AW.to hJ35 (lle_s rfl (lle_s rfl (lle_s rfl (lle_z))))
  · refine AW.iconst (n := 63) (dat D_X12_changesRow 32 rfl) rfl ?_
    refine AW.istore_n (n := 64) (ls' := [some (vR 57), some (vI 0), some (vI 0)]) (dat D_X12_changesRow 33 rfl) rfl (le45 rfl) (le45 rfl) rfl rfl ?_
    obtain ⟨b8, hi8, hq8⟩ := ob_some h
    obtain ⟨e9, σ10⟩ := b8
    have hR8 : AW Γ mX12_changesRow 2 (0, 0) (85, τ) 0 0 109 [some (vR 57), some (vI e9), none] [] (85, σ10) := by
      have h : X12_changesRow_e64 n e9 σ10 = some _ := hq8
      unfold X12_changesRow_e64 at h
      cases h
      exact AW.to hJ3 (lle_s rfl (lle_s rfl (lle_n (lle_z))))
    refine AW.to (ls'' := [some (vR 57), some (vI 0), some (vI 0)]) ?_ (lle_s rfl (lle_s rfl (lle_s rfl (lle_z))))
    refine aw_iter (fun s : Int × Int × SG => AW Γ mX12_changesRow 2 (0, 0) (85, τ) 0 0 64 [some (vR 57), some (vI (s.1)), some (vI (s.2.1))] [] (85, s.2.2)) (fun s y h hk8 hb8 => ?_) _ _ hi8
    obtain ⟨z5, z6, σ7⟩ := s
    show AW Γ mX12_changesRow 2 (0, 0) (85, τ) 0 0 64 [some (vR 57), some (vI z5), some (vI z6)] [] (85, σ7)
    have h : X12_changesRow_l64 n z5 z6 σ7 = some y := h
    unfold X12_changesRow_l64 at h
    refine AW.iload_n (n := 65) (dat D_X12_changesRow 34 rfl) rfl rfl ?_
    refine AW.aload_n (n := 66) (dat D_X12_changesRow 35 rfl) rfl rfl ?_
    refine AW.getI (n := 69) fX12_34 wF_X12_369 ly_57 (le45 rfl) rfl rfl (dat D_X12_changesRow 36 rfl) rfl ?_
    refine AW.icmp_geH (t := 109) (n := 72) h (dat D_X12_changesRow 37 rfl) rfl rfl rfl rfl (fun h => ?_) (fun h => ?_)
    · cases h
      have hb := hb8 _ rfl
      cases hb
      exact AW.to hR8 (lle_s rfl (lle_s rfl (lle_n (lle_z))))
    · refine AW.aload_n (n := 73) (dat D_X12_changesRow 38 rfl) rfl rfl ?_
      refine AW.aload_n (n := 74) (dat D_X12_changesRow 39 rfl) rfl rfl ?_
      refine AW.getR (n := 77) (t := 76) fX12_46 wF_X12_80 ly_57 (le45 rfl) rfl (dat D_X12_changesRow 40 rfl) rfl ?_
      refine AW.iload_n (n := 78) (dat D_X12_changesRow 41 rfl) rfl rfl ?_
      refine AW.ialdH h (n := 79) rfl ly_76 (le45 rfl) (dat D_X12_changesRow 42 rfl) rfl (fun j11 h => ?_)
      obtain ⟨v13, hc12, h⟩ := ob_some h
      refine AW.cV (n := 82) (as := [vI (σ7 76 j11)]) (st := []) (st' := [vI v13]) (uc' := 0) (us' := 0) (A_X12_hasTaken hΓ hc12) cf_X12_hasTaken ly_57 (le45 rfl) vc_12 (le45 rfl) wM_X12_387 (le45 rfl) (le45 rfl) (dat D_X12_changesRow 43 rfl) rfl rfl (le45 rfl) (le45 rfl) rfl (fun _ => ?_) nlt0
      obtain ⟨s16, h, hq16⟩ := ob_some h
      obtain ⟨y14, σ15⟩ := s16
      have hJ16 : AW Γ mX12_changesRow 2 (0, 0) (85, τ) 0 0 103 [some (vR 57), some (vI y14), some (vI z6)] [] (85, σ15) := by
        have h : X12_changesRow_j103 n z6 y14 σ15 = some _ := hq16
        unfold X12_changesRow_j103 at h
        refine AW.iincH h (n := 106) (dat D_X12_changesRow 55 rfl) rfl rfl (le45 rfl) rfl (fun x17 h => ?_)
        refine AW.lq (ls' := [some (vR 57), some (vI y14), some (vI x17)]) rfl ?_
        refine AW.goto (t := 64) (dat D_X12_changesRow 56 rfl) rfl ?_
        cases h
        exact AW.to (hk8 _ rfl) (lle_s rfl (lle_s rfl (lle_s rfl (lle_z))))
      refine AW.if_eqH (t := 88) (n := 85) h (dat D_X12_changesRow 44 rfl) rfl rfl (fun h => ?_) (fun h => ?_)
      · refine AW.aload_n (n := 89) (dat D_X12_changesRow 46 rfl) rfl rfl ?_
        refine AW.getR (n := 92) (t := 76) fX12_46 wF_X12_80 ly_57 (le45 rfl) rfl (dat D_X12_changesRow 47 rfl) rfl ?_
        refine AW.iload_n (n := 93) (dat D_X12_changesRow 48 rfl) rfl rfl ?_
        refine AW.aload_n (n := 94) (dat D_X12_changesRow 49 rfl) rfl rfl ?_
        refine AW.getR (n := 97) (t := 76) fX12_46 wF_X12_80 ly_57 (le45 rfl) rfl (dat D_X12_changesRow 50 rfl) rfl ?_
        refine AW.iload_n (n := 98) (dat D_X12_changesRow 51 rfl) rfl rfl ?_
        refine AW.ialdH h (n := 99) rfl ly_76 (le45 rfl) (dat D_X12_changesRow 52 rfl) rfl (fun j18 h => ?_)
        refine AW.iastH h (n := 100) rfl ly_76 (le45 rfl) (dat D_X12_changesRow 53 rfl) rfl (fun j19 h => ?_)
        refine AW.ltS h (fun σ20 h => ?_)
        refine AW.iincH h (n := 103) (dat D_X12_changesRow 54 rfl) rfl rfl (le45 rfl) rfl (fun x21 h => ?_)
        refine AW.lq (ls' := [some (vR 57), some (vI x21), some (vI z6)]) rfl ?_
        cases h
        exact AW.to hJ16 (lle_s rfl (lle_s rfl (lle_s rfl (lle_z))))
      · refine AW.goto (t := 103) (dat D_X12_changesRow 45 rfl) rfl ?_
        cases h
        exact AW.to hJ16 (lle_s rfl (lle_s rfl (lle_s rfl (lle_z))))
def L_X12_sees : List (Nat × Instr × Nat) := [(0, .aload_n 0, 1), (1, .getfield 366, 3), (4, .iconst 5, 1), (5, .invokestatic 315, 3), (8, .istore_n 2, 1), (9, .iload_n 2, 1), (10, .ifCond .le 23, 3), (13, .aload_n 0, 1), (14, .getfield 83, 3), (17, .iload_n 2, 1), (18, .aload_n 0, 1), (19, .getfield 83, 3), (22, .iload_n 2, 1), (23, .iconst 1, 1), (24, .isub, 1), (25, .iaload, 1), (26, .iastore, 1), (27, .iinc 2 (-1), 3), (30, .goto (-21), 3), (33, .aload_n 0, 1), (34, .getfield 83, 3), (37, .iconst 0, 1), (38, .iload_n 1, 1), (39, .iastore, 1), (40, .aload_n 0, 1), (41, .bipush 6, 2), (43, .aload_n 0, 1), (44, .getfield 366, 3), (47, .iconst 1, 1), (48, .iadd, 1), (49, .invokestatic 315, 3), (52, .putfield 366, 3), (55, .return_, 1)]
theorem D_X12_sees : dOK cX12_sees L_X12_sees = true := by decide +kernel
theorem cf_X12_sees : CFV mX12_sees 1 := ⟨wI_X12_sees, wS_X12_sees, wN_WaveRightModel, wC_X12_sees, rfl, ⟨by decide +kernel, by decide +kernel, by decide +kernel⟩, le45 rfl⟩
def X12_sees_e9 (n : Nat) (a0 : Int) (σ5 : SG) : Option (SG) :=
  rdA 6 0 fun j6 => lt (up σ5 77 j6 a0) fun σ7 =>
  lt (up σ7 57 33 (mn32 6 ((σ7 57 33) + 1))) fun σ8 =>
  some (σ8)
def X12_sees_l9 (n : Nat) (z2 : Int) (σ3 : SG) : Option ((Int × SG) ⊕ (SG)) :=
  if w32 z2 ≤ 0 then
    some (.inr σ3)
  else
    rdA 6 (z2 - 1) fun j9 =>
    rdA 6 z2 fun j10 => lt (up σ3 77 j10 (σ3 77 j9)) fun σ11 =>
    lt (z2 + (-1)) fun x12 =>
    some (.inl (x12, σ11))
def X12_sees (n : Nat) (a0 : Int) (σ : SG) : Option (SG) :=
  lt (mn32 (σ 57 33) 5) fun x1 =>
  ((iter n (fun s : Int × SG => X12_sees_l9 n s.1 s.2) (x1, σ)) : Option (SG)).bind (fun s => X12_sees_e9 n a0 s)
set_option maxHeartbeats 4000000 in
set_option maxRecDepth 100000 in
theorem A_X12_sees {Γ : GA} (hΓ : (gl Γ).stackTraces = false) {n : Nat} {a0 : Int} {σ : SG} {τ : SG}  (h : X12_sees n a0 σ = some τ) : AM Γ mX12_sees 2 0 0 [vR 57, vI a0] (85, σ) (0, 0) (85, τ) := by
  refine AM.of pl_X12 rfl wC_X12_sees (le45 rfl) hΓ ?_
  refine AW.to (ls'' := [some (vR 57), some (vI a0), none]) ?_ (lle_s rfl (lle_s rfl (lle_e (lle_z))))
  unfold X12_sees at h
  refine AW.aload_n (n := 1) (dat D_X12_sees 0 rfl) rfl rfl ?_
  refine AW.getI (n := 4) fX12_33 wF_X12_366 ly_57 (le45 rfl) rfl rfl (dat D_X12_sees 1 rfl) rfl ?_
  refine AW.iconst (n := 5) (dat D_X12_sees 2 rfl) rfl ?_
  refine AW.mmin (n := 8) wM_X12_315 (le45 rfl) (le45 rfl) (dat D_X12_sees 3 rfl) rfl ?_
  refine AW.ltI h (fun x1 h => ?_)
  refine AW.istore_n (n := 9) (ls' := [some (vR 57), some (vI a0), some (vI x1)]) (dat D_X12_sees 4 rfl) rfl (le45 rfl) (le45 rfl) rfl rfl ?_
  obtain ⟨b4, hi4, hq4⟩ := ob_some h
  obtain ⟨σ5, e4⟩ : ∃ z, z = b4 := ⟨_, rfl⟩
  subst e4
  have hR4 : AW Γ mX12_sees 2 (0, 0) (85, τ) 0 0 33 [some (vR 57), some (vI a0), none] [] (85, σ5) := by
    have h : X12_sees_e9 n a0 σ5 = some _ := hq4
    unfold X12_sees_e9 at h
    refine AW.aload_n (n := 34) (dat D_X12_sees 19 rfl) rfl rfl ?_
    refine AW.getR (n := 37) (t := 77) fX12_47 wF_X12_83 ly_57 (le45 rfl) rfl (dat D_X12_sees 20 rfl) rfl ?_
    refine AW.iconst (n := 38) (dat D_X12_sees 21 rfl) rfl ?_
    refine AW.iload_n (n := 39) (dat D_X12_sees 22 rfl) rfl rfl ?_
    refine AW.iastH h (n := 40) rfl ly_77 (le45 rfl) (dat D_X12_sees 23 rfl) rfl (fun j6 h => ?_)
    refine AW.ltS h (fun σ7 h => ?_)
    refine AW.aload_n (n := 41) (dat D_X12_sees 24 rfl) rfl rfl ?_
    refine AW.bipush (n := 43) (dat D_X12_sees 25 rfl) rfl (by decide) ?_
    refine AW.aload_n (n := 44) (dat D_X12_sees 26 rfl) rfl rfl ?_
    refine AW.getI (n := 47) fX12_33 wF_X12_366 ly_57 (le45 rfl) rfl rfl (dat D_X12_sees 27 rfl) rfl ?_
    refine AW.iconst (n := 48) (dat D_X12_sees 28 rfl) rfl ?_
    refine AW.iadd (n := 49) (dat D_X12_sees 29 rfl) rfl ?_
    refine AW.mmin (n := 52) wM_X12_315 (le45 rfl) (le45 rfl) (dat D_X12_sees 30 rfl) rfl ?_
    refine AW.putI (n := 55) fX12_33 wF_X12_366 ly_57 (le45 rfl) rfl rfl rfl (dat D_X12_sees 31 rfl) rfl ?_
    refine AW.ltS h (fun σ8 h => ?_)
    cases h
    exact AW.vret rfl rfl rfl (dat D_X12_sees 32 rfl)
  refine AW.to (ls'' := [some (vR 57), some (vI a0), some (vI x1)]) ?_ (lle_s rfl (lle_s rfl (lle_s rfl (lle_z))))
  refine aw_iter (fun s : Int × SG => AW Γ mX12_sees 2 (0, 0) (85, τ) 0 0 9 [some (vR 57), some (vI a0), some (vI (s.1))] [] (85, s.2)) (fun s y h hk4 hb4 => ?_) _ _ hi4
  obtain ⟨z2, σ3⟩ := s
  show AW Γ mX12_sees 2 (0, 0) (85, τ) 0 0 9 [some (vR 57), some (vI a0), some (vI z2)] [] (85, σ3)
  have h : X12_sees_l9 n z2 σ3 = some y := h
  unfold X12_sees_l9 at h
  refine AW.iload_n (n := 10) (dat D_X12_sees 5 rfl) rfl rfl ?_
  refine AW.if_leH (t := 33) (n := 13) h (dat D_X12_sees 6 rfl) rfl rfl (fun h => ?_) (fun h => ?_)
  · cases h
    have hb := hb4 _ rfl
    cases hb
    exact AW.to hR4 (lle_s rfl (lle_s rfl (lle_n (lle_z))))
  · refine AW.aload_n (n := 14) (dat D_X12_sees 7 rfl) rfl rfl ?_
    refine AW.getR (n := 17) (t := 77) fX12_47 wF_X12_83 ly_57 (le45 rfl) rfl (dat D_X12_sees 8 rfl) rfl ?_
    refine AW.iload_n (n := 18) (dat D_X12_sees 9 rfl) rfl rfl ?_
    refine AW.aload_n (n := 19) (dat D_X12_sees 10 rfl) rfl rfl ?_
    refine AW.getR (n := 22) (t := 77) fX12_47 wF_X12_83 ly_57 (le45 rfl) rfl (dat D_X12_sees 11 rfl) rfl ?_
    refine AW.iload_n (n := 23) (dat D_X12_sees 12 rfl) rfl rfl ?_
    refine AW.iconst (n := 24) (dat D_X12_sees 13 rfl) rfl ?_
    refine AW.isub (n := 25) (dat D_X12_sees 14 rfl) rfl ?_
    refine AW.ialdH h (n := 26) rfl ly_77 (le45 rfl) (dat D_X12_sees 15 rfl) rfl (fun j9 h => ?_)
    refine AW.iastH h (n := 27) rfl ly_77 (le45 rfl) (dat D_X12_sees 16 rfl) rfl (fun j10 h => ?_)
    refine AW.ltS h (fun σ11 h => ?_)
    refine AW.iincH h (n := 30) (dat D_X12_sees 17 rfl) rfl rfl (le45 rfl) rfl (fun x12 h => ?_)
    refine AW.lq (ls' := [some (vR 57), some (vI a0), some (vI x12)]) rfl ?_
    refine AW.goto (t := 9) (dat D_X12_sees 18 rfl) rfl ?_
    cases h
    exact AW.to (hk4 _ rfl) (lle_s rfl (lle_s rfl (lle_s rfl (lle_z))))
def L_X12_judges : List (Nat × Instr × Nat) := [(0, .bipush 7, 2), (2, .bipush 20, 2), (4, .iload_n 1, 1), (5, .imul, 1), (6, .aload_n 0, 1), (7, .getfield 68, 3), (10, .iload_n 1, 1), (11, .iaload, 1), (12, .iadd, 1), (13, .imul, 1), (14, .istore_n 2, 1), (15, .aload_n 0, 1), (16, .getfield 93, 3), (19, .iload_n 1, 1), (20, .iaload, 1), (21, .ifCond .eq 7, 3), (24, .iconst 1, 1), (25, .goto 4, 3), (28, .iconst 0, 1), (29, .istore_n 3, 1), (30, .aload_n 0, 1), (31, .iconst 0, 1), (32, .putfield 304, 3), (35, .iload_n 3, 1), (36, .ifCond .eq 7, 3), (39, .iconst 0, 1), (40, .goto 30, 3), (43, .aload_n 0, 1), (44, .iload_n 1, 1), (45, .aload_n 0, 1), (46, .getfield 49, 3), (49, .aload_n 0, 1), (50, .getfield 56, 3), (53, .iload_n 1, 1), (54, .iaload, 1), (55, .aload_n 0, 1), (56, .getfield 74, 3), (59, .iload_n 1, 1), (60, .iaload, 1), (61, .aload_n 0, 1), (62, .getfield 77, 3), (65, .iload_n 1, 1), (66, .iaload, 1), (67, .invokevirtual 409, 3), (70, .istore 4, 2), (72, .aload_n 0, 1), (73, .getfield 90, 3), (76, .iload_n 2, 1), (77, .iload 4, 2), (79, .iastore, 1), (80, .aload_n 0, 1), (81, .getfield 90, 3), (84, .iload_n 2, 1), (85, .iconst 1, 1), (86, .iadd, 1), (87, .aload_n 0, 1), (88, .getfield 49, 3), (91, .iastore, 1), (92, .aload_n 0, 1), (93, .getfield 90, 3), (96, .iload_n 2, 1), (97, .iconst 2, 1), (98, .iadd, 1), (99, .aload_n 0, 1), (100, .getfield 74, 3), (103, .iload_n 1, 1), (104, .iaload, 1), (105, .iastore, 1), (106, .aload_n 0, 1), (107, .getfield 90, 3), (110, .iload_n 2, 1), (111, .iconst 3, 1), (112, .iadd, 1), (113, .aload_n 0, 1), (114, .getfield 77, 3), (117, .iload_n 1, 1), (118, .iaload, 1), (119, .iastore, 1), (120, .aload_n 0, 1), (121, .getfield 90, 3), (124, .iload_n 2, 1), (125, .iconst 4, 1), (126, .iadd, 1), (127, .aload_n 0, 1), (128, .getfield 71, 3), (131, .iload_n 1, 1), (132, .iaload, 1), (133, .iastore, 1), (134, .aload_n 0, 1), (135, .getfield 90, 3), (138, .iload_n 2, 1), (139, .iconst 5, 1), (140, .iadd, 1), (141, .iload_n 3, 1), (142, .ifCond .eq 7, 3), (145, .iconst 1, 1), (146, .goto 4, 3), (149, .iconst 0, 1), (150, .iastore, 1), (151, .aload_n 0, 1), (152, .getfield 90, 3), (155, .iload_n 2, 1), (156, .bipush 6, 2), (158, .iadd, 1), (159, .aload_n 0, 1), (160, .getfield 304, 3), (163, .iastore, 1), (164, .aload_n 0, 1), (165, .getfield 68, 3), (168, .iload_n 1, 1), (169, .dup2, 1), (170, .iaload, 1), (171, .iconst 1, 1), (172, .iadd, 1), (173, .iastore, 1), (174, .aload_n 0, 1), (175, .dup, 1), (176, .getfield 360, 3), (179, .iconst 1, 1), (180, .iadd, 1), (181, .putfield 360, 3), (184, .aload_n 0, 1), (185, .dup, 1), (186, .getfield 363, 3), (189, .aload_n 0, 1), (190, .getfield 304, 3), (193, .ifCond .le 7, 3), (196, .iconst 1, 1), (197, .goto 4, 3), (200, .iconst 0, 1), (201, .iadd, 1), (202, .putfield 363, 3), (205, .iload_n 3, 1), (206, .ifCond .eq 16, 3), (209, .aload_n 0, 1), (210, .getfield 65, 3), (213, .iload_n 1, 1), (214, .dup2, 1), (215, .iaload, 1), (216, .iconst 1, 1), (217, .iadd, 1), (218, .iastore, 1), (219, .goto 16, 3), (222, .aload_n 0, 1), (223, .getfield 304, 3), (226, .ifCond .ne 9, 3), (229, .aload_n 0, 1), (230, .iload 4, 2), (232, .invokevirtual 413, 3), (235, .aload_n 0, 1), (236, .getfield 62, 3), (239, .iload_n 1, 1), (240, .aload_n 0, 1), (241, .iload_n 1, 1), (242, .invokevirtual 416, 3), (245, .ifCond .eq 7, 3), (248, .iconst (-1), 1), (249, .goto 38, 3), (252, .aload_n 0, 1), (253, .getfield 352, 3), (256, .iconst 1, 1), (257, .iadd, 1), (258, .aload_n 0, 1), (259, .getfield 74, 3), (262, .iload_n 1, 1), (263, .iaload, 1), (264, .aload_n 0, 1), (265, .getfield 21, 3), (268, .bipush 39, 2), (270, .iload_n 1, 1), (271, .iadd, 1), (272, .iaload, 1), (273, .iadd, 1), (274, .iconst 1, 1), (275, .isub, 1), (276, .aload_n 0, 1), (277, .getfield 21, 3), (280, .bipush 39, 2), (282, .iload_n 1, 1), (283, .iadd, 1), (284, .iaload, 1), (285, .idiv, 1), (286, .iadd, 1), (287, .iastore, 1), (288, .return_, 1)]
theorem D_X12_judges : dOK cX12_judges L_X12_judges = true := by decide +kernel
theorem cf_X12_judges : CFV mX12_judges 1 := ⟨wI_X12_judges, wS_X12_judges, wN_WaveRightModel, wC_X12_judges, rfl, ⟨by decide +kernel, by decide +kernel, by decide +kernel⟩, le45 rfl⟩
def X12_judges_j235 (n : Nat) (a0 : Int) (σ36 : SG) : Option (SG) :=
  (X12_isSentIn n a0 σ36).bind fun v39 =>
  if w32 v39 = 0 then
    rdA 5 a0 fun j40 =>
    rdA 144 (39 + a0) fun j41 =>
    rdA 144 (39 + a0) fun j42 =>
    if w32 (σ36 60 j42) = 0 then none else
    rdA 5 a0 fun j44 => lt (up σ36 70 j44 (((σ36 57 25) + 1) + (dv32 (((σ36 74 j40) + (σ36 60 j41)) - 1) (σ36 60 j42)))) fun σ45 =>
    some (σ45)
  else
    rdA 5 a0 fun j46 => lt (up σ36 70 j46 (-1)) fun σ47 =>
    some (σ47)
def X12_judges_j201 (n : Nat) (σ32 : SG) (y4 : Int) (y7 : Int) (a0 : Int) (y33 : Int) : Option (SG) :=
  lt (up σ32 57 32 ((σ32 57 32) + y33)) fun σ35 =>
  ((if w32 y4 = 0 then
    if w32 (σ35 57 23) = 0 then
      (X12_sees n y7 σ35).bind fun σ49 =>
      some (σ49)
    else
      some (σ35)
  else
    rdA 5 a0 fun j50 =>
    rdA 5 a0 fun j51 => lt (up σ35 71 j51 ((σ35 71 j50) + 1)) fun σ52 =>
    some (σ52)) : Option (SG)).bind (fun s => X12_judges_j235 n a0 s)
def X12_judges_j150 (n : Nat) (x2 : Int) (σ22 : SG) (a0 : Int) (y4 : Int) (y7 : Int) (y23 : Int) : Option (SG) :=
  rdA 700 (x2 + 5) fun j25 => lt (up σ22 79 j25 y23) fun σ26 =>
  rdA 700 (x2 + 6) fun j27 => lt (up σ26 79 j27 (σ26 57 23)) fun σ28 =>
  rdA 5 a0 fun j29 =>
  rdA 5 a0 fun j30 => lt (up σ28 72 j30 ((σ28 72 j29) + 1)) fun σ31 =>
  lt (up σ31 57 31 ((σ31 57 31) + 1)) fun σ32 =>
  ((if w32 (σ32 57 23) ≤ 0 then
    some (0)
  else
    some (1)) : Option (Int)).bind (fun s => X12_judges_j201 n σ32 y4 y7 a0 s)
def X12_judges_j70 (n : Nat) (x2 : Int) (a0 : Int) (y4 : Int) (y7 : Int) (σ8 : SG) : Option (SG) :=
  rdA 700 x2 fun j10 => lt (up σ8 79 j10 y7) fun σ11 =>
  rdA 700 (x2 + 1) fun j12 => lt (up σ11 79 j12 (σ11 57 27)) fun σ13 =>
  rdA 5 a0 fun j14 =>
  rdA 700 (x2 + 2) fun j15 => lt (up σ13 79 j15 (σ13 74 j14)) fun σ16 =>
  rdA 5 a0 fun j17 =>
  rdA 700 (x2 + 3) fun j18 => lt (up σ16 79 j18 (σ16 75 j17)) fun σ19 =>
  rdA 5 a0 fun j20 =>
  rdA 700 (x2 + 4) fun j21 => lt (up σ19 79 j21 (σ19 73 j20)) fun σ22 =>
  ((if w32 y4 = 0 then
    some (0)
  else
    some (1)) : Option (Int)).bind (fun s => X12_judges_j150 n x2 σ22 a0 y4 y7 s)
def X12_judges_j29 (n : Nat) (σ : SG) (a0 : Int) (x2 : Int) (y4 : Int) : Option (SG) :=
  lt (up σ 57 23 0) fun σ6 =>
  ((if w32 y4 = 0 then
    rdA 5 a0 fun j53 =>
    rdA 5 a0 fun j54 =>
    rdA 5 a0 fun j55 =>
    bnd2 (X12_scoreBy n a0 (σ6 57 27) (σ6 68 j53) (σ6 74 j54) (σ6 75 j55) σ6) fun v57 σ58 =>
    some ((v57, σ58))
  else
    some ((0, σ6))) : Option (Int × SG)).bind (fun s => X12_judges_j70 n x2 a0 y4 s.1 s.2)
def X12_judges (n : Nat) (a0 : Int) (σ : SG) : Option (SG) :=
  rdA 5 a0 fun j1 =>
  lt (7 * ((20 * a0) + (σ 72 j1))) fun x2 =>
  rdA 5 a0 fun j3 =>
  ((if w32 (σ 80 j3) = 0 then
    some (0)
  else
    some (1)) : Option (Int)).bind (fun s => X12_judges_j29 n σ a0 x2 s)
set_option maxHeartbeats 4000000 in
set_option maxRecDepth 100000 in
theorem A_X12_judges {Γ : GA} (hΓ : (gl Γ).stackTraces = false) {n : Nat} {a0 : Int} {σ : SG} {τ : SG}  (h : X12_judges n a0 σ = some τ) : AM Γ mX12_judges 6 0 0 [vR 57, vI a0] (85, σ) (0, 0) (85, τ) := by
  refine AM.of pl_X12 rfl wC_X12_judges (le45 rfl) hΓ ?_
  refine AW.to (ls'' := [some (vR 57), some (vI a0), none, none, none]) ?_ (lle_s rfl (lle_s rfl (lle_e (lle_e (lle_e (lle_z))))))
  unfold X12_judges at h
  refine AW.bipush (n := 2) (dat D_X12_judges 0 rfl) rfl (by decide) ?_
  refine AW.bipush (n := 4) (dat D_X12_judges 1 rfl) rfl (by decide) ?_
  refine AW.iload_n (n := 5) (dat D_X12_judges 2 rfl) rfl rfl ?_
  refine AW.imul (n := 6) (dat D_X12_judges 3 rfl) rfl ?_
  refine AW.aload_n (n := 7) (dat D_X12_judges 4 rfl) rfl rfl ?_
  refine AW.getR (n := 10) (t := 72) fX12_42 wF_X12_68 ly_57 (le45 rfl) rfl (dat D_X12_judges 5 rfl) rfl ?_
  refine AW.iload_n (n := 11) (dat D_X12_judges 6 rfl) rfl rfl ?_
  refine AW.ialdH h (n := 12) rfl ly_72 (le45 rfl) (dat D_X12_judges 7 rfl) rfl (fun j1 h => ?_)
  refine AW.iadd (n := 13) (dat D_X12_judges 8 rfl) rfl ?_
  refine AW.imul (n := 14) (dat D_X12_judges 9 rfl) rfl ?_
  refine AW.ltI h (fun x2 h => ?_)
  refine AW.istore_n (n := 15) (ls' := [some (vR 57), some (vI a0), some (vI x2), none, none]) (dat D_X12_judges 10 rfl) rfl (le45 rfl) (le45 rfl) rfl rfl ?_
  refine AW.aload_n (n := 16) (dat D_X12_judges 11 rfl) rfl rfl ?_
  refine AW.getR (n := 19) (t := 80) fX12_50 wF_X12_93 ly_57 (le45 rfl) rfl (dat D_X12_judges 12 rfl) rfl ?_
  refine AW.iload_n (n := 20) (dat D_X12_judges 13 rfl) rfl rfl ?_
  refine AW.ialdH h (n := 21) rfl ly_80 (le45 rfl) (dat D_X12_judges 14 rfl) rfl (fun j3 h => ?_)
  obtain ⟨s5, h, hq5⟩ := ob_some h
  obtain ⟨y4, e5⟩ : ∃ z, z = s5 := ⟨_, rfl⟩
  subst e5
  have hJ5 : AW Γ mX12_judges 6 (0, 0) (85, τ) 0 0 29 [some (vR 57), some (vI a0), some (vI x2), none, none] [vI y4] (85, σ) := by
    have h : X12_judges_j29 n σ a0 x2 y4 = some _ := hq5
    unfold X12_judges_j29 at h
    refine AW.istore_n (n := 30) (ls' := [some (vR 57), some (vI a0), some (vI x2), some (vI y4), none]) (dat D_X12_judges 19 rfl) rfl (le45 rfl) (le45 rfl) rfl rfl ?_
    refine AW.aload_n (n := 31) (dat D_X12_judges 20 rfl) rfl rfl ?_
    refine AW.iconst (n := 32) (dat D_X12_judges 21 rfl) rfl ?_
    refine AW.putI (n := 35) fX12_23 wF_X12_304 ly_57 (le45 rfl) rfl rfl rfl (dat D_X12_judges 22 rfl) rfl ?_
    refine AW.ltS h (fun σ6 h => ?_)
    refine AW.iload_n (n := 36) (dat D_X12_judges 23 rfl) rfl rfl ?_
    obtain ⟨s9, h, hq9⟩ := ob_some h
    obtain ⟨y7, σ8⟩ := s9
    have hJ9 : AW Γ mX12_judges 6 (0, 0) (85, τ) 0 0 70 [some (vR 57), some (vI a0), some (vI x2), some (vI y4), none] [vI y7] (85, σ8) := by
      have h : X12_judges_j70 n x2 a0 y4 y7 σ8 = some _ := hq9
      unfold X12_judges_j70 at h
      refine AW.istore (n := 72) (ls' := [some (vR 57), some (vI a0), some (vI x2), some (vI y4), some (vI y7)]) (dat D_X12_judges 44 rfl) rfl (le45 rfl) (le45 rfl) rfl rfl ?_
      refine AW.aload_n (n := 73) (dat D_X12_judges 45 rfl) rfl rfl ?_
      refine AW.getR (n := 76) (t := 79) fX12_49 wF_X12_90 ly_57 (le45 rfl) rfl (dat D_X12_judges 46 rfl) rfl ?_
      refine AW.iload_n (n := 77) (dat D_X12_judges 47 rfl) rfl rfl ?_
      refine AW.iload (n := 79) (dat D_X12_judges 48 rfl) rfl rfl ?_
      refine AW.iastH h (n := 80) rfl ly_79 (le45 rfl) (dat D_X12_judges 49 rfl) rfl (fun j10 h => ?_)
      refine AW.ltS h (fun σ11 h => ?_)
      refine AW.aload_n (n := 81) (dat D_X12_judges 50 rfl) rfl rfl ?_
      refine AW.getR (n := 84) (t := 79) fX12_49 wF_X12_90 ly_57 (le45 rfl) rfl (dat D_X12_judges 51 rfl) rfl ?_
      refine AW.iload_n (n := 85) (dat D_X12_judges 52 rfl) rfl rfl ?_
      refine AW.iconst (n := 86) (dat D_X12_judges 53 rfl) rfl ?_
      refine AW.iadd (n := 87) (dat D_X12_judges 54 rfl) rfl ?_
      refine AW.aload_n (n := 88) (dat D_X12_judges 55 rfl) rfl rfl ?_
      refine AW.getI (n := 91) fX12_27 wF_X12_49 ly_57 (le45 rfl) rfl rfl (dat D_X12_judges 56 rfl) rfl ?_
      refine AW.iastH h (n := 92) rfl ly_79 (le45 rfl) (dat D_X12_judges 57 rfl) rfl (fun j12 h => ?_)
      refine AW.ltS h (fun σ13 h => ?_)
      refine AW.aload_n (n := 93) (dat D_X12_judges 58 rfl) rfl rfl ?_
      refine AW.getR (n := 96) (t := 79) fX12_49 wF_X12_90 ly_57 (le45 rfl) rfl (dat D_X12_judges 59 rfl) rfl ?_
      refine AW.iload_n (n := 97) (dat D_X12_judges 60 rfl) rfl rfl ?_
      refine AW.iconst (n := 98) (dat D_X12_judges 61 rfl) rfl ?_
      refine AW.iadd (n := 99) (dat D_X12_judges 62 rfl) rfl ?_
      refine AW.aload_n (n := 100) (dat D_X12_judges 63 rfl) rfl rfl ?_
      refine AW.getR (n := 103) (t := 74) fX12_44 wF_X12_74 ly_57 (le45 rfl) rfl (dat D_X12_judges 64 rfl) rfl ?_
      refine AW.iload_n (n := 104) (dat D_X12_judges 65 rfl) rfl rfl ?_
      refine AW.ialdH h (n := 105) rfl ly_74 (le45 rfl) (dat D_X12_judges 66 rfl) rfl (fun j14 h => ?_)
      refine AW.iastH h (n := 106) rfl ly_79 (le45 rfl) (dat D_X12_judges 67 rfl) rfl (fun j15 h => ?_)
      refine AW.ltS h (fun σ16 h => ?_)
      refine AW.aload_n (n := 107) (dat D_X12_judges 68 rfl) rfl rfl ?_
      refine AW.getR (n := 110) (t := 79) fX12_49 wF_X12_90 ly_57 (le45 rfl) rfl (dat D_X12_judges 69 rfl) rfl ?_
      refine AW.iload_n (n := 111) (dat D_X12_judges 70 rfl) rfl rfl ?_
      refine AW.iconst (n := 112) (dat D_X12_judges 71 rfl) rfl ?_
      refine AW.iadd (n := 113) (dat D_X12_judges 72 rfl) rfl ?_
      refine AW.aload_n (n := 114) (dat D_X12_judges 73 rfl) rfl rfl ?_
      refine AW.getR (n := 117) (t := 75) fX12_45 wF_X12_77 ly_57 (le45 rfl) rfl (dat D_X12_judges 74 rfl) rfl ?_
      refine AW.iload_n (n := 118) (dat D_X12_judges 75 rfl) rfl rfl ?_
      refine AW.ialdH h (n := 119) rfl ly_75 (le45 rfl) (dat D_X12_judges 76 rfl) rfl (fun j17 h => ?_)
      refine AW.iastH h (n := 120) rfl ly_79 (le45 rfl) (dat D_X12_judges 77 rfl) rfl (fun j18 h => ?_)
      refine AW.ltS h (fun σ19 h => ?_)
      refine AW.aload_n (n := 121) (dat D_X12_judges 78 rfl) rfl rfl ?_
      refine AW.getR (n := 124) (t := 79) fX12_49 wF_X12_90 ly_57 (le45 rfl) rfl (dat D_X12_judges 79 rfl) rfl ?_
      refine AW.iload_n (n := 125) (dat D_X12_judges 80 rfl) rfl rfl ?_
      refine AW.iconst (n := 126) (dat D_X12_judges 81 rfl) rfl ?_
      refine AW.iadd (n := 127) (dat D_X12_judges 82 rfl) rfl ?_
      refine AW.aload_n (n := 128) (dat D_X12_judges 83 rfl) rfl rfl ?_
      refine AW.getR (n := 131) (t := 73) fX12_43 wF_X12_71 ly_57 (le45 rfl) rfl (dat D_X12_judges 84 rfl) rfl ?_
      refine AW.iload_n (n := 132) (dat D_X12_judges 85 rfl) rfl rfl ?_
      refine AW.ialdH h (n := 133) rfl ly_73 (le45 rfl) (dat D_X12_judges 86 rfl) rfl (fun j20 h => ?_)
      refine AW.iastH h (n := 134) rfl ly_79 (le45 rfl) (dat D_X12_judges 87 rfl) rfl (fun j21 h => ?_)
      refine AW.ltS h (fun σ22 h => ?_)
      refine AW.aload_n (n := 135) (dat D_X12_judges 88 rfl) rfl rfl ?_
      refine AW.getR (n := 138) (t := 79) fX12_49 wF_X12_90 ly_57 (le45 rfl) rfl (dat D_X12_judges 89 rfl) rfl ?_
      refine AW.iload_n (n := 139) (dat D_X12_judges 90 rfl) rfl rfl ?_
      refine AW.iconst (n := 140) (dat D_X12_judges 91 rfl) rfl ?_
      refine AW.iadd (n := 141) (dat D_X12_judges 92 rfl) rfl ?_
      refine AW.iload_n (n := 142) (dat D_X12_judges 93 rfl) rfl rfl ?_
      obtain ⟨s24, h, hq24⟩ := ob_some h
      obtain ⟨y23, e24⟩ : ∃ z, z = s24 := ⟨_, rfl⟩
      subst e24
      have hJ24 : AW Γ mX12_judges 6 (0, 0) (85, τ) 0 0 150 [some (vR 57), some (vI a0), some (vI x2), some (vI y4), some (vI y7)] [vI y23, vI (x2 + 5), vR 79] (85, σ22) := by
        have h : X12_judges_j150 n x2 σ22 a0 y4 y7 y23 = some _ := hq24
        unfold X12_judges_j150 at h
        refine AW.iastH h (n := 151) rfl ly_79 (le45 rfl) (dat D_X12_judges 98 rfl) rfl (fun j25 h => ?_)
        refine AW.ltS h (fun σ26 h => ?_)
        refine AW.aload_n (n := 152) (dat D_X12_judges 99 rfl) rfl rfl ?_
        refine AW.getR (n := 155) (t := 79) fX12_49 wF_X12_90 ly_57 (le45 rfl) rfl (dat D_X12_judges 100 rfl) rfl ?_
        refine AW.iload_n (n := 156) (dat D_X12_judges 101 rfl) rfl rfl ?_
        refine AW.bipush (n := 158) (dat D_X12_judges 102 rfl) rfl (by decide) ?_
        refine AW.iadd (n := 159) (dat D_X12_judges 103 rfl) rfl ?_
        refine AW.aload_n (n := 160) (dat D_X12_judges 104 rfl) rfl rfl ?_
        refine AW.getI (n := 163) fX12_23 wF_X12_304 ly_57 (le45 rfl) rfl rfl (dat D_X12_judges 105 rfl) rfl ?_
        refine AW.iastH h (n := 164) rfl ly_79 (le45 rfl) (dat D_X12_judges 106 rfl) rfl (fun j27 h => ?_)
        refine AW.ltS h (fun σ28 h => ?_)
        refine AW.aload_n (n := 165) (dat D_X12_judges 107 rfl) rfl rfl ?_
        refine AW.getR (n := 168) (t := 72) fX12_42 wF_X12_68 ly_57 (le45 rfl) rfl (dat D_X12_judges 108 rfl) rfl ?_
        refine AW.iload_n (n := 169) (dat D_X12_judges 109 rfl) rfl rfl ?_
        refine AW.dup2 (n := 170) (dat D_X12_judges 110 rfl) rfl (cI _) (cR _) ?_
        refine AW.ialdH h (n := 171) rfl ly_72 (le45 rfl) (dat D_X12_judges 111 rfl) rfl (fun j29 h => ?_)
        refine AW.iconst (n := 172) (dat D_X12_judges 112 rfl) rfl ?_
        refine AW.iadd (n := 173) (dat D_X12_judges 113 rfl) rfl ?_
        refine AW.iastH h (n := 174) rfl ly_72 (le45 rfl) (dat D_X12_judges 114 rfl) rfl (fun j30 h => ?_)
        refine AW.ltS h (fun σ31 h => ?_)
        refine AW.aload_n (n := 175) (dat D_X12_judges 115 rfl) rfl rfl ?_
        refine AW.dup (n := 176) (dat D_X12_judges 116 rfl) rfl (cR _) ?_
        refine AW.getI (n := 179) fX12_31 wF_X12_360 ly_57 (le45 rfl) rfl rfl (dat D_X12_judges 117 rfl) rfl ?_
        refine AW.iconst (n := 180) (dat D_X12_judges 118 rfl) rfl ?_
        refine AW.iadd (n := 181) (dat D_X12_judges 119 rfl) rfl ?_
        refine AW.putI (n := 184) fX12_31 wF_X12_360 ly_57 (le45 rfl) rfl rfl rfl (dat D_X12_judges 120 rfl) rfl ?_
        refine AW.ltS h (fun σ32 h => ?_)
        refine AW.aload_n (n := 185) (dat D_X12_judges 121 rfl) rfl rfl ?_
        refine AW.dup (n := 186) (dat D_X12_judges 122 rfl) rfl (cR _) ?_
        refine AW.getI (n := 189) fX12_32 wF_X12_363 ly_57 (le45 rfl) rfl rfl (dat D_X12_judges 123 rfl) rfl ?_
        refine AW.aload_n (n := 190) (dat D_X12_judges 124 rfl) rfl rfl ?_
        refine AW.getI (n := 193) fX12_23 wF_X12_304 ly_57 (le45 rfl) rfl rfl (dat D_X12_judges 125 rfl) rfl ?_
        obtain ⟨s34, h, hq34⟩ := ob_some h
        obtain ⟨y33, e34⟩ : ∃ z, z = s34 := ⟨_, rfl⟩
        subst e34
        have hJ34 : AW Γ mX12_judges 6 (0, 0) (85, τ) 0 0 201 [some (vR 57), some (vI a0), none, some (vI y4), some (vI y7)] [vI y33, vI (σ32 57 32), vR 57] (85, σ32) := by
          have h : X12_judges_j201 n σ32 y4 y7 a0 y33 = some _ := hq34
          unfold X12_judges_j201 at h
          refine AW.iadd (n := 202) (dat D_X12_judges 130 rfl) rfl ?_
          refine AW.putI (n := 205) fX12_32 wF_X12_363 ly_57 (le45 rfl) rfl rfl rfl (dat D_X12_judges 131 rfl) rfl ?_
          refine AW.ltS h (fun σ35 h => ?_)
          refine AW.iload_n (n := 206) (dat D_X12_judges 132 rfl) rfl rfl ?_
          obtain ⟨s37, h, hq37⟩ := ob_some h
          obtain ⟨σ36, e37⟩ : ∃ z, z = s37 := ⟨_, rfl⟩
          subst e37
          have hJ37 : AW Γ mX12_judges 6 (0, 0) (85, τ) 0 0 235 [some (vR 57), some (vI a0), none, none, none] [] (85, σ36) := by
            have h : X12_judges_j235 n a0 σ36 = some _ := hq37
            unfold X12_judges_j235 at h
            refine AW.aload_n (n := 236) (dat D_X12_judges 149 rfl) rfl rfl ?_
            refine AW.getR (n := 239) (t := 70) fX12_40 wF_X12_62 ly_57 (le45 rfl) rfl (dat D_X12_judges 150 rfl) rfl ?_
            refine AW.iload_n (n := 240) (dat D_X12_judges 151 rfl) rfl rfl ?_
            refine AW.aload_n (n := 241) (dat D_X12_judges 152 rfl) rfl rfl ?_
            refine AW.iload_n (n := 242) (dat D_X12_judges 153 rfl) rfl rfl ?_
            obtain ⟨v39, hc38, h⟩ := ob_some h
            refine AW.cV (n := 245) (as := [vI a0]) (st := [vI a0, vR 70]) (st' := [vI v39, vI a0, vR 70]) (uc' := 0) (us' := 0) (A_X12_isSentIn hΓ hc38) cf_X12_isSentIn ly_57 (le45 rfl) vc_12 (le45 rfl) wM_X12_416 (le45 rfl) (le45 rfl) (dat D_X12_judges 154 rfl) rfl rfl (le45 rfl) (le45 rfl) rfl (fun _ => ?_) nlt0
            refine AW.if_eqH (t := 252) (n := 248) h (dat D_X12_judges 155 rfl) rfl rfl (fun h => ?_) (fun h => ?_)
            · refine AW.aload_n (n := 253) (dat D_X12_judges 158 rfl) rfl rfl ?_
              refine AW.getI (n := 256) fX12_25 wF_X12_352 ly_57 (le45 rfl) rfl rfl (dat D_X12_judges 159 rfl) rfl ?_
              refine AW.iconst (n := 257) (dat D_X12_judges 160 rfl) rfl ?_
              refine AW.iadd (n := 258) (dat D_X12_judges 161 rfl) rfl ?_
              refine AW.aload_n (n := 259) (dat D_X12_judges 162 rfl) rfl rfl ?_
              refine AW.getR (n := 262) (t := 74) fX12_44 wF_X12_74 ly_57 (le45 rfl) rfl (dat D_X12_judges 163 rfl) rfl ?_
              refine AW.iload_n (n := 263) (dat D_X12_judges 164 rfl) rfl rfl ?_
              refine AW.ialdH h (n := 264) rfl ly_74 (le45 rfl) (dat D_X12_judges 165 rfl) rfl (fun j40 h => ?_)
              refine AW.aload_n (n := 265) (dat D_X12_judges 166 rfl) rfl rfl ?_
              refine AW.getR (n := 268) (t := 60) fX12_9 wF_X12_21 ly_57 (le45 rfl) rfl (dat D_X12_judges 167 rfl) rfl ?_
              refine AW.bipush (n := 270) (dat D_X12_judges 168 rfl) rfl (by decide) ?_
              refine AW.iload_n (n := 271) (dat D_X12_judges 169 rfl) rfl rfl ?_
              refine AW.iadd (n := 272) (dat D_X12_judges 170 rfl) rfl ?_
              refine AW.ialdH h (n := 273) rfl ly_60 (le45 rfl) (dat D_X12_judges 171 rfl) rfl (fun j41 h => ?_)
              refine AW.iadd (n := 274) (dat D_X12_judges 172 rfl) rfl ?_
              refine AW.iconst (n := 275) (dat D_X12_judges 173 rfl) rfl ?_
              refine AW.isub (n := 276) (dat D_X12_judges 174 rfl) rfl ?_
              refine AW.aload_n (n := 277) (dat D_X12_judges 175 rfl) rfl rfl ?_
              refine AW.getR (n := 280) (t := 60) fX12_9 wF_X12_21 ly_57 (le45 rfl) rfl (dat D_X12_judges 176 rfl) rfl ?_
              refine AW.bipush (n := 282) (dat D_X12_judges 177 rfl) rfl (by decide) ?_
              refine AW.iload_n (n := 283) (dat D_X12_judges 178 rfl) rfl rfl ?_
              refine AW.iadd (n := 284) (dat D_X12_judges 179 rfl) rfl ?_
              refine AW.ialdH h (n := 285) rfl ly_60 (le45 rfl) (dat D_X12_judges 180 rfl) rfl (fun j42 h => ?_)
              obtain ⟨q43, h⟩ := ite_n h
              refine AW.idiv (n := 286) (dat D_X12_judges 181 rfl) rfl q43 ?_
              refine AW.iadd (n := 287) (dat D_X12_judges 182 rfl) rfl ?_
              refine AW.iastH h (n := 288) rfl ly_70 (le45 rfl) (dat D_X12_judges 183 rfl) rfl (fun j44 h => ?_)
              refine AW.ltS h (fun σ45 h => ?_)
              cases h
              exact AW.vret rfl rfl rfl (dat D_X12_judges 184 rfl)
            · refine AW.iconst (n := 249) (dat D_X12_judges 156 rfl) rfl ?_
              refine AW.goto (t := 287) (dat D_X12_judges 157 rfl) rfl ?_
              refine AW.iastH h (n := 288) rfl ly_70 (le45 rfl) (dat D_X12_judges 183 rfl) rfl (fun j46 h => ?_)
              refine AW.ltS h (fun σ47 h => ?_)
              cases h
              exact AW.vret rfl rfl rfl (dat D_X12_judges 184 rfl)
          refine AW.if_eqH (t := 222) (n := 209) h (dat D_X12_judges 133 rfl) rfl rfl (fun h => ?_) (fun h => ?_)
          · refine AW.aload_n (n := 223) (dat D_X12_judges 143 rfl) rfl rfl ?_
            refine AW.getI (n := 226) fX12_23 wF_X12_304 ly_57 (le45 rfl) rfl rfl (dat D_X12_judges 144 rfl) rfl ?_
            refine AW.if_neH (t := 235) (n := 229) h (dat D_X12_judges 145 rfl) rfl rfl (fun h => ?_) (fun h => ?_)
            · refine AW.aload_n (n := 230) (dat D_X12_judges 146 rfl) rfl rfl ?_
              refine AW.iload (n := 232) (dat D_X12_judges 147 rfl) rfl rfl ?_
              obtain ⟨σ49, hc48, h⟩ := ob_some h
              refine AW.cV (n := 235) (as := [vI y7]) (st := []) (st' := []) (uc' := 0) (us' := 0) (A_X12_sees hΓ hc48) cf_X12_sees ly_57 (le45 rfl) vc_12 (le45 rfl) wM_X12_413 (le45 rfl) (le45 rfl) (dat D_X12_judges 148 rfl) rfl rfl (le45 rfl) (le45 rfl) rfl (fun _ => ?_) nlt0
              cases h
              exact AW.to hJ37 (lle_s rfl (lle_s rfl (lle_n (lle_n (lle_n (lle_z))))))
            · cases h
              exact AW.to hJ37 (lle_s rfl (lle_s rfl (lle_n (lle_n (lle_n (lle_z))))))
          · refine AW.aload_n (n := 210) (dat D_X12_judges 134 rfl) rfl rfl ?_
            refine AW.getR (n := 213) (t := 71) fX12_41 wF_X12_65 ly_57 (le45 rfl) rfl (dat D_X12_judges 135 rfl) rfl ?_
            refine AW.iload_n (n := 214) (dat D_X12_judges 136 rfl) rfl rfl ?_
            refine AW.dup2 (n := 215) (dat D_X12_judges 137 rfl) rfl (cI _) (cR _) ?_
            refine AW.ialdH h (n := 216) rfl ly_71 (le45 rfl) (dat D_X12_judges 138 rfl) rfl (fun j50 h => ?_)
            refine AW.iconst (n := 217) (dat D_X12_judges 139 rfl) rfl ?_
            refine AW.iadd (n := 218) (dat D_X12_judges 140 rfl) rfl ?_
            refine AW.iastH h (n := 219) rfl ly_71 (le45 rfl) (dat D_X12_judges 141 rfl) rfl (fun j51 h => ?_)
            refine AW.ltS h (fun σ52 h => ?_)
            refine AW.goto (t := 235) (dat D_X12_judges 142 rfl) rfl ?_
            cases h
            exact AW.to hJ37 (lle_s rfl (lle_s rfl (lle_n (lle_n (lle_n (lle_z))))))
        refine AW.if_leH (t := 200) (n := 196) h (dat D_X12_judges 126 rfl) rfl rfl (fun h => ?_) (fun h => ?_)
        · refine AW.iconst (n := 201) (dat D_X12_judges 129 rfl) rfl ?_
          cases h
          exact AW.to hJ34 (lle_s rfl (lle_s rfl (lle_n (lle_s rfl (lle_s rfl (lle_z))))))
        · refine AW.iconst (n := 197) (dat D_X12_judges 127 rfl) rfl ?_
          refine AW.goto (t := 201) (dat D_X12_judges 128 rfl) rfl ?_
          cases h
          exact AW.to hJ34 (lle_s rfl (lle_s rfl (lle_n (lle_s rfl (lle_s rfl (lle_z))))))
      refine AW.if_eqH (t := 149) (n := 145) h (dat D_X12_judges 94 rfl) rfl rfl (fun h => ?_) (fun h => ?_)
      · refine AW.iconst (n := 150) (dat D_X12_judges 97 rfl) rfl ?_
        cases h
        exact AW.to hJ24 (lle_s rfl (lle_s rfl (lle_s rfl (lle_s rfl (lle_s rfl (lle_z))))))
      · refine AW.iconst (n := 146) (dat D_X12_judges 95 rfl) rfl ?_
        refine AW.goto (t := 150) (dat D_X12_judges 96 rfl) rfl ?_
        cases h
        exact AW.to hJ24 (lle_s rfl (lle_s rfl (lle_s rfl (lle_s rfl (lle_s rfl (lle_z))))))
    refine AW.if_eqH (t := 43) (n := 39) h (dat D_X12_judges 24 rfl) rfl rfl (fun h => ?_) (fun h => ?_)
    · refine AW.aload_n (n := 44) (dat D_X12_judges 27 rfl) rfl rfl ?_
      refine AW.iload_n (n := 45) (dat D_X12_judges 28 rfl) rfl rfl ?_
      refine AW.aload_n (n := 46) (dat D_X12_judges 29 rfl) rfl rfl ?_
      refine AW.getI (n := 49) fX12_27 wF_X12_49 ly_57 (le45 rfl) rfl rfl (dat D_X12_judges 30 rfl) rfl ?_
      refine AW.aload_n (n := 50) (dat D_X12_judges 31 rfl) rfl rfl ?_
      refine AW.getR (n := 53) (t := 68) fX12_38 wF_X12_56 ly_57 (le45 rfl) rfl (dat D_X12_judges 32 rfl) rfl ?_
      refine AW.iload_n (n := 54) (dat D_X12_judges 33 rfl) rfl rfl ?_
      refine AW.ialdH h (n := 55) rfl ly_68 (le45 rfl) (dat D_X12_judges 34 rfl) rfl (fun j53 h => ?_)
      refine AW.aload_n (n := 56) (dat D_X12_judges 35 rfl) rfl rfl ?_
      refine AW.getR (n := 59) (t := 74) fX12_44 wF_X12_74 ly_57 (le45 rfl) rfl (dat D_X12_judges 36 rfl) rfl ?_
      refine AW.iload_n (n := 60) (dat D_X12_judges 37 rfl) rfl rfl ?_
      refine AW.ialdH h (n := 61) rfl ly_74 (le45 rfl) (dat D_X12_judges 38 rfl) rfl (fun j54 h => ?_)
      refine AW.aload_n (n := 62) (dat D_X12_judges 39 rfl) rfl rfl ?_
      refine AW.getR (n := 65) (t := 75) fX12_45 wF_X12_77 ly_57 (le45 rfl) rfl (dat D_X12_judges 40 rfl) rfl ?_
      refine AW.iload_n (n := 66) (dat D_X12_judges 41 rfl) rfl rfl ?_
      refine AW.ialdH h (n := 67) rfl ly_75 (le45 rfl) (dat D_X12_judges 42 rfl) rfl (fun j55 h => ?_)
      obtain ⟨v57, σ58, hc56, h⟩ := bnd2_some h
      refine AW.cV (n := 70) (as := [vI a0, vI (σ6 57 27), vI (σ6 68 j53), vI (σ6 74 j54), vI (σ6 75 j55)]) (st := []) (st' := [vI v57]) (uc' := 0) (us' := 0) (A_X12_scoreBy hΓ hc56) cf_X12_scoreBy ly_57 (le45 rfl) vc_12 (le45 rfl) wM_X12_409 (le45 rfl) (le45 rfl) (dat D_X12_judges 43 rfl) rfl rfl (le45 rfl) (le45 rfl) rfl (fun _ => ?_) nlt0
      cases h
      exact AW.to hJ9 (lle_s rfl (lle_s rfl (lle_s rfl (lle_s rfl (lle_n (lle_z))))))
    · refine AW.iconst (n := 40) (dat D_X12_judges 25 rfl) rfl ?_
      refine AW.goto (t := 70) (dat D_X12_judges 26 rfl) rfl ?_
      cases h
      exact AW.to hJ9 (lle_s rfl (lle_s rfl (lle_s rfl (lle_s rfl (lle_n (lle_z))))))
  refine AW.if_eqH (t := 28) (n := 24) h (dat D_X12_judges 15 rfl) rfl rfl (fun h => ?_) (fun h => ?_)
  · refine AW.iconst (n := 29) (dat D_X12_judges 18 rfl) rfl ?_
    cases h
    exact AW.to hJ5 (lle_s rfl (lle_s rfl (lle_s rfl (lle_n (lle_n (lle_z))))))
  · refine AW.iconst (n := 25) (dat D_X12_judges 16 rfl) rfl ?_
    refine AW.goto (t := 29) (dat D_X12_judges 17 rfl) rfl ?_
    cases h
    exact AW.to hJ5 (lle_s rfl (lle_s rfl (lle_s rfl (lle_n (lle_n (lle_z))))))
def L_X12_goesBy : List (Nat × Instr × Nat) := [(0, .iconst 0, 1), (1, .istore_n 1, 1), (2, .iload_n 1, 1), (3, .aload_n 0, 1), (4, .invokevirtual 378, 3), (7, .if_icmp .ge 20, 3), (10, .aload_n 0, 1), (11, .getfield 93, 3), (14, .iload_n 1, 1), (15, .aload_n 0, 1), (16, .iload_n 1, 1), (17, .invokevirtual 400, 3), (20, .iastore, 1), (21, .iinc 1 1, 3), (24, .goto (-22), 3), (27, .iconst 0, 1), (28, .istore_n 1, 1), (29, .iload_n 1, 1), (30, .aload_n 0, 1), (31, .invokevirtual 378, 3), (34, .if_icmp .ge 22, 3), (37, .aload_n 0, 1), (38, .iload_n 1, 1), (39, .invokevirtual 387, 3), (42, .ifCond .eq 8, 3), (45, .aload_n 0, 1), (46, .iload_n 1, 1), (47, .invokevirtual 403, 3), (50, .iinc 1 1, 3), (53, .goto (-24), 3), (56, .aload_n 0, 1), (57, .getfield 349, 3), (60, .ifCond .eq 7, 3), (63, .aload_n 0, 1), (64, .invokevirtual 406, 3), (67, .aload_n 0, 1), (68, .iconst 0, 1), (69, .putfield 349, 3), (72, .aload_n 0, 1), (73, .iconst (-1), 1), (74, .putfield 49, 3), (77, .return_, 1)]
theorem D_X12_goesBy : dOK cX12_goesBy L_X12_goesBy = true := by decide +kernel
theorem cf_X12_goesBy : CFV mX12_goesBy 0 := ⟨wI_X12_goesBy, wS_X12_goesBy, wN_WaveRightModel, wC_X12_goesBy, rfl, ⟨by decide +kernel, by decide +kernel, by decide +kernel⟩, le45 rfl⟩
def X12_goesBy_j67 (n : Nat) (σ9 : SG) : Option (SG) :=
  lt (up σ9 57 30 0) fun σ11 =>
  lt (up σ11 57 27 (-1)) fun σ12 =>
  some (σ12)
def X12_goesBy_e29 (n : Nat) (σ8 : SG) : Option (SG) :=
  ((if w32 (σ8 57 30) = 0 then
    some (σ8)
  else
    (X12_changesRow n σ8).bind fun σ14 =>
    some (σ14)) : Option (SG)).bind (fun s => X12_goesBy_j67 n s)
def X12_goesBy_j50 (n : Nat) (z5 : Int) (σ19 : SG) : Option ((Int × SG) ⊕ (SG)) :=
  lt (z5 + 1) fun x21 =>
  some (.inl (x21, σ19))
def X12_goesBy_l29 (n : Nat) (z5 : Int) (σ6 : SG) : Option ((Int × SG) ⊕ (SG)) :=
  (X12_surfers n σ6).bind fun v16 =>
  if w32 v16 ≤ w32 z5 then
    some (.inr σ6)
  else
    (X12_hasTaken n z5 σ6).bind fun v18 =>
    ((if w32 v18 = 0 then
      some (σ6)
    else
      (X12_judges n z5 σ6).bind fun σ23 =>
      some (σ23)) : Option (SG)).bind (fun s => X12_goesBy_j50 n z5 s)
def X12_goesBy_e2 (n : Nat) (σ4 : SG) : Option (SG) :=
  ((iter n (fun s : Int × SG => X12_goesBy_l29 n s.1 s.2) (0, σ4)) : Option (SG)).bind (fun s => X12_goesBy_e29 n s)
def X12_goesBy_l2 (n : Nat) (z1 : Int) (σ2 : SG) : Option ((Int × SG) ⊕ (SG)) :=
  (X12_surfers n σ2).bind fun v25 =>
  if w32 v25 ≤ w32 z1 then
    some (.inr σ2)
  else
    (X12_hindersNow n z1 σ2).bind fun v27 =>
    rdA 5 z1 fun j28 => lt (up σ2 80 j28 v27) fun σ29 =>
    lt (z1 + 1) fun x30 =>
    some (.inl (x30, σ29))
def X12_goesBy (n : Nat) (σ : SG) : Option (SG) :=
  ((iter n (fun s : Int × SG => X12_goesBy_l2 n s.1 s.2) (0, σ)) : Option (SG)).bind (fun s => X12_goesBy_e2 n s)
set_option maxHeartbeats 4000000 in
set_option maxRecDepth 100000 in
theorem A_X12_goesBy {Γ : GA} (hΓ : (gl Γ).stackTraces = false) {n : Nat} {σ : SG} {τ : SG}  (h : X12_goesBy n σ = some τ) : AM Γ mX12_goesBy 7 0 0 [vR 57] (85, σ) (0, 0) (85, τ) := by
  refine AM.of pl_X12 rfl wC_X12_goesBy (le45 rfl) hΓ ?_
  refine AW.to (ls'' := [some (vR 57), none]) ?_ (lle_s rfl (lle_e (lle_z)))
  unfold X12_goesBy at h
  refine AW.iconst (n := 1) (dat D_X12_goesBy 0 rfl) rfl ?_
  refine AW.istore_n (n := 2) (ls' := [some (vR 57), some (vI 0)]) (dat D_X12_goesBy 1 rfl) rfl (le45 rfl) (le45 rfl) rfl rfl ?_
  obtain ⟨b3, hi3, hq3⟩ := ob_some h
  obtain ⟨σ4, e3⟩ : ∃ z, z = b3 := ⟨_, rfl⟩
  subst e3
  have hR3 : AW Γ mX12_goesBy 7 (0, 0) (85, τ) 0 0 27 [some (vR 57), none] [] (85, σ4) := by
    have h : X12_goesBy_e2 n σ4 = some _ := hq3
    unfold X12_goesBy_e2 at h
    refine AW.iconst (n := 28) (dat D_X12_goesBy 15 rfl) rfl ?_
    refine AW.istore_n (n := 29) (ls' := [some (vR 57), some (vI 0)]) (dat D_X12_goesBy 16 rfl) rfl (le45 rfl) (le45 rfl) rfl rfl ?_
    obtain ⟨b7, hi7, hq7⟩ := ob_some h
    obtain ⟨σ8, e7⟩ : ∃ z, z = b7 := ⟨_, rfl⟩
    subst e7
    have hR7 : AW Γ mX12_goesBy 7 (0, 0) (85, τ) 0 0 56 [some (vR 57), none] [] (85, σ8) := by
      have h : X12_goesBy_e29 n σ8 = some _ := hq7
      unfold X12_goesBy_e29 at h
      refine AW.aload_n (n := 57) (dat D_X12_goesBy 30 rfl) rfl rfl ?_
      refine AW.getI (n := 60) fX12_30 wF_X12_349 ly_57 (le45 rfl) rfl rfl (dat D_X12_goesBy 31 rfl) rfl ?_
      obtain ⟨s10, h, hq10⟩ := ob_some h
      obtain ⟨σ9, e10⟩ : ∃ z, z = s10 := ⟨_, rfl⟩
      subst e10
      have hJ10 : AW Γ mX12_goesBy 7 (0, 0) (85, τ) 0 0 67 [some (vR 57), none] [] (85, σ9) := by
        have h : X12_goesBy_j67 n σ9 = some _ := hq10
        unfold X12_goesBy_j67 at h
        refine AW.aload_n (n := 68) (dat D_X12_goesBy 35 rfl) rfl rfl ?_
        refine AW.iconst (n := 69) (dat D_X12_goesBy 36 rfl) rfl ?_
        refine AW.putI (n := 72) fX12_30 wF_X12_349 ly_57 (le45 rfl) rfl rfl rfl (dat D_X12_goesBy 37 rfl) rfl ?_
        refine AW.ltS h (fun σ11 h => ?_)
        refine AW.aload_n (n := 73) (dat D_X12_goesBy 38 rfl) rfl rfl ?_
        refine AW.iconst (n := 74) (dat D_X12_goesBy 39 rfl) rfl ?_
        refine AW.putI (n := 77) fX12_27 wF_X12_49 ly_57 (le45 rfl) rfl rfl rfl (dat D_X12_goesBy 40 rfl) rfl ?_
        refine AW.ltS h (fun σ12 h => ?_)
        cases h
        exact AW.vret rfl rfl rfl (dat D_X12_goesBy 41 rfl)
      refine AW.if_eqH (t := 67) (n := 63) h (dat D_X12_goesBy 32 rfl) rfl rfl (fun h => ?_) (fun h => ?_)
      · cases h
        exact AW.to hJ10 (lle_s rfl (lle_n (lle_z)))
      · refine AW.aload_n (n := 64) (dat D_X12_goesBy 33 rfl) rfl rfl ?_
        obtain ⟨σ14, hc13, h⟩ := ob_some h
        refine AW.cV (n := 67) (as := []) (st := []) (st' := []) (uc' := 0) (us' := 0) (A_X12_changesRow hΓ hc13) cf_X12_changesRow ly_57 (le45 rfl) vc_12 (le45 rfl) wM_X12_406 (le45 rfl) (le45 rfl) (dat D_X12_goesBy 34 rfl) rfl rfl (le45 rfl) (le45 rfl) rfl (fun _ => ?_) nlt0
        cases h
        exact AW.to hJ10 (lle_s rfl (lle_n (lle_z)))
    refine AW.to (ls'' := [some (vR 57), some (vI 0)]) ?_ (lle_s rfl (lle_s rfl (lle_z)))
    refine aw_iter (fun s : Int × SG => AW Γ mX12_goesBy 7 (0, 0) (85, τ) 0 0 29 [some (vR 57), some (vI (s.1))] [] (85, s.2)) (fun s y h hk7 hb7 => ?_) _ _ hi7
    obtain ⟨z5, σ6⟩ := s
    show AW Γ mX12_goesBy 7 (0, 0) (85, τ) 0 0 29 [some (vR 57), some (vI z5)] [] (85, σ6)
    have h : X12_goesBy_l29 n z5 σ6 = some y := h
    unfold X12_goesBy_l29 at h
    refine AW.iload_n (n := 30) (dat D_X12_goesBy 17 rfl) rfl rfl ?_
    refine AW.aload_n (n := 31) (dat D_X12_goesBy 18 rfl) rfl rfl ?_
    obtain ⟨v16, hc15, h⟩ := ob_some h
    refine AW.cV (n := 34) (as := []) (st := [vI z5]) (st' := [vI v16, vI z5]) (uc' := 0) (us' := 0) (A_X12_surfers hΓ hc15) cf_X12_surfers ly_57 (le45 rfl) vc_12 (le45 rfl) wM_X12_378 (le45 rfl) (le45 rfl) (dat D_X12_goesBy 19 rfl) rfl rfl (le45 rfl) (le45 rfl) rfl (fun _ => ?_) nlt0
    refine AW.icmp_geH (t := 56) (n := 37) h (dat D_X12_goesBy 20 rfl) rfl rfl rfl rfl (fun h => ?_) (fun h => ?_)
    · cases h
      have hb := hb7 _ rfl
      cases hb
      exact AW.to hR7 (lle_s rfl (lle_n (lle_z)))
    · refine AW.aload_n (n := 38) (dat D_X12_goesBy 21 rfl) rfl rfl ?_
      refine AW.iload_n (n := 39) (dat D_X12_goesBy 22 rfl) rfl rfl ?_
      obtain ⟨v18, hc17, h⟩ := ob_some h
      refine AW.cV (n := 42) (as := [vI z5]) (st := []) (st' := [vI v18]) (uc' := 0) (us' := 0) (A_X12_hasTaken hΓ hc17) cf_X12_hasTaken ly_57 (le45 rfl) vc_12 (le45 rfl) wM_X12_387 (le45 rfl) (le45 rfl) (dat D_X12_goesBy 23 rfl) rfl rfl (le45 rfl) (le45 rfl) rfl (fun _ => ?_) nlt0
      obtain ⟨s20, h, hq20⟩ := ob_some h
      obtain ⟨σ19, e20⟩ : ∃ z, z = s20 := ⟨_, rfl⟩
      subst e20
      have hJ20 : AW Γ mX12_goesBy 7 (0, 0) (85, τ) 0 0 50 [some (vR 57), some (vI z5)] [] (85, σ19) := by
        have h : X12_goesBy_j50 n z5 σ19 = some _ := hq20
        unfold X12_goesBy_j50 at h
        refine AW.iincH h (n := 53) (dat D_X12_goesBy 28 rfl) rfl rfl (le45 rfl) rfl (fun x21 h => ?_)
        refine AW.lq (ls' := [some (vR 57), some (vI x21)]) rfl ?_
        refine AW.goto (t := 29) (dat D_X12_goesBy 29 rfl) rfl ?_
        cases h
        exact AW.to (hk7 _ rfl) (lle_s rfl (lle_s rfl (lle_z)))
      refine AW.if_eqH (t := 50) (n := 45) h (dat D_X12_goesBy 24 rfl) rfl rfl (fun h => ?_) (fun h => ?_)
      · cases h
        exact AW.to hJ20 (lle_s rfl (lle_s rfl (lle_z)))
      · refine AW.aload_n (n := 46) (dat D_X12_goesBy 25 rfl) rfl rfl ?_
        refine AW.iload_n (n := 47) (dat D_X12_goesBy 26 rfl) rfl rfl ?_
        obtain ⟨σ23, hc22, h⟩ := ob_some h
        refine AW.cV (n := 50) (as := [vI z5]) (st := []) (st' := []) (uc' := 0) (us' := 0) (A_X12_judges hΓ hc22) cf_X12_judges ly_57 (le45 rfl) vc_12 (le45 rfl) wM_X12_403 (le45 rfl) (le45 rfl) (dat D_X12_goesBy 27 rfl) rfl rfl (le45 rfl) (le45 rfl) rfl (fun _ => ?_) nlt0
        cases h
        exact AW.to hJ20 (lle_s rfl (lle_s rfl (lle_z)))
  refine AW.to (ls'' := [some (vR 57), some (vI 0)]) ?_ (lle_s rfl (lle_s rfl (lle_z)))
  refine aw_iter (fun s : Int × SG => AW Γ mX12_goesBy 7 (0, 0) (85, τ) 0 0 2 [some (vR 57), some (vI (s.1))] [] (85, s.2)) (fun s y h hk3 hb3 => ?_) _ _ hi3
  obtain ⟨z1, σ2⟩ := s
  show AW Γ mX12_goesBy 7 (0, 0) (85, τ) 0 0 2 [some (vR 57), some (vI z1)] [] (85, σ2)
  have h : X12_goesBy_l2 n z1 σ2 = some y := h
  unfold X12_goesBy_l2 at h
  refine AW.iload_n (n := 3) (dat D_X12_goesBy 2 rfl) rfl rfl ?_
  refine AW.aload_n (n := 4) (dat D_X12_goesBy 3 rfl) rfl rfl ?_
  obtain ⟨v25, hc24, h⟩ := ob_some h
  refine AW.cV (n := 7) (as := []) (st := [vI z1]) (st' := [vI v25, vI z1]) (uc' := 0) (us' := 0) (A_X12_surfers hΓ hc24) cf_X12_surfers ly_57 (le45 rfl) vc_12 (le45 rfl) wM_X12_378 (le45 rfl) (le45 rfl) (dat D_X12_goesBy 4 rfl) rfl rfl (le45 rfl) (le45 rfl) rfl (fun _ => ?_) nlt0
  refine AW.icmp_geH (t := 27) (n := 10) h (dat D_X12_goesBy 5 rfl) rfl rfl rfl rfl (fun h => ?_) (fun h => ?_)
  · cases h
    have hb := hb3 _ rfl
    cases hb
    exact AW.to hR3 (lle_s rfl (lle_n (lle_z)))
  · refine AW.aload_n (n := 11) (dat D_X12_goesBy 6 rfl) rfl rfl ?_
    refine AW.getR (n := 14) (t := 80) fX12_50 wF_X12_93 ly_57 (le45 rfl) rfl (dat D_X12_goesBy 7 rfl) rfl ?_
    refine AW.iload_n (n := 15) (dat D_X12_goesBy 8 rfl) rfl rfl ?_
    refine AW.aload_n (n := 16) (dat D_X12_goesBy 9 rfl) rfl rfl ?_
    refine AW.iload_n (n := 17) (dat D_X12_goesBy 10 rfl) rfl rfl ?_
    obtain ⟨v27, hc26, h⟩ := ob_some h
    refine AW.cV (n := 20) (as := [vI z1]) (st := [vI z1, vR 80]) (st' := [vI v27, vI z1, vR 80]) (uc' := 0) (us' := 0) (A_X12_hindersNow hΓ hc26) cf_X12_hindersNow ly_57 (le45 rfl) vc_12 (le45 rfl) wM_X12_400 (le45 rfl) (le45 rfl) (dat D_X12_goesBy 11 rfl) rfl rfl (le45 rfl) (le45 rfl) rfl (fun _ => ?_) nlt0
    refine AW.iastH h (n := 21) rfl ly_80 (le45 rfl) (dat D_X12_goesBy 12 rfl) rfl (fun j28 h => ?_)
    refine AW.ltS h (fun σ29 h => ?_)
    refine AW.iincH h (n := 24) (dat D_X12_goesBy 13 rfl) rfl rfl (le45 rfl) rfl (fun x30 h => ?_)
    refine AW.lq (ls' := [some (vR 57), some (vI x30)]) rfl ?_
    refine AW.goto (t := 2) (dat D_X12_goesBy 14 rfl) rfl ?_
    cases h
    exact AW.to (hk3 _ rfl) (lle_s rfl (lle_s rfl (lle_z)))
def L_X12_comeBack : List (Nat × Instr × Nat) := [(0, .iconst (-1), 1), (1, .istore_n 1, 1), (2, .iconst 0, 1), (3, .istore_n 2, 1), (4, .iload_n 2, 1), (5, .aload_n 0, 1), (6, .invokevirtual 378, 3), (9, .if_icmp .ge 63, 3), (12, .aload_n 0, 1), (13, .getfield 86, 3), (16, .iload_n 2, 1), (17, .baload, 1), (18, .ifCond .ne 48, 3), (21, .aload_n 0, 1), (22, .getfield 62, 3), (25, .iload_n 2, 1), (26, .iaload, 1), (27, .iconst (-1), 1), (28, .if_icmp .eq 38, 3), (31, .aload_n 0, 1), (32, .getfield 62, 3), (35, .iload_n 2, 1), (36, .iaload, 1), (37, .aload_n 0, 1), (38, .getfield 352, 3), (41, .if_icmp .gt 25, 3), (44, .iload_n 1, 1), (45, .iconst (-1), 1), (46, .if_icmp .eq 18, 3), (49, .aload_n 0, 1), (50, .getfield 62, 3), (53, .iload_n 2, 1), (54, .iaload, 1), (55, .aload_n 0, 1), (56, .getfield 62, 3), (59, .iload_n 1, 1), (60, .iaload, 1), (61, .if_icmp .ge 5, 3), (64, .iload_n 2, 1), (65, .istore_n 1, 1), (66, .iinc 2 1, 3), (69, .goto (-65), 3), (72, .iload_n 1, 1), (73, .iconst (-1), 1), (74, .if_icmp .ne 4, 3), (77, .return_, 1), (78, .aload_n 0, 1), (79, .getfield 86, 3), (82, .iload_n 1, 1), (83, .iconst 1, 1), (84, .bastore, 1), (85, .aload_n 0, 1), (86, .getfield 62, 3), (89, .iload_n 1, 1), (90, .iconst (-1), 1), (91, .iastore, 1), (92, .aload_n 0, 1), (93, .getfield 59, 3), (96, .iload_n 1, 1), (97, .aload_n 0, 1), (98, .getfield 56, 3), (101, .iload_n 1, 1), (102, .iaload, 1), (103, .iastore, 1), (104, .aload_n 0, 1), (105, .getfield 372, 3), (108, .ifCond .ne 6, 3), (111, .goto (-111), 3), (114, .aload_n 0, 1), (115, .getfield 80, 3), (118, .aload_n 0, 1), (119, .getfield 369, 3), (122, .iload_n 1, 1), (123, .iastore, 1), (124, .aload_n 0, 1), (125, .dup, 1), (126, .getfield 369, 3), (129, .iconst 1, 1), (130, .iadd, 1), (131, .putfield 369, 3), (134, .goto (-134), 3)]
theorem D_X12_comeBack : dOK cX12_comeBack L_X12_comeBack = true := by decide +kernel
theorem cf_X12_comeBack : CFV mX12_comeBack 0 := ⟨wI_X12_comeBack, wS_X12_comeBack, wN_WaveRightModel, wC_X12_comeBack, rfl, ⟨by decide +kernel, by decide +kernel, by decide +kernel⟩, le45 rfl⟩
def X12_comeBack_e0 (n : Nat) (σ3 : SG) : Option (SG) :=
  some (σ3)
def X12_comeBack_e4 (n : Nat) (σ1 : SG) (e7 : Int) : Option ((SG) ⊕ (SG)) :=
  if w32 e7 = (-1) then
    some (.inr σ1)
  else
    rdA 5 e7 fun j8 => lt (up σ1 78 j8 (wZ 1)) fun σ9 =>
    rdA 5 e7 fun j10 => lt (up σ9 70 j10 (-1)) fun σ11 =>
    rdA 5 e7 fun j12 =>
    rdA 5 e7 fun j13 => lt (up σ11 69 j13 (σ11 68 j12)) fun σ14 =>
    if w32 (σ14 57 36) = 0 then
      some (.inl σ14)
    else
      rdA 5 (σ14 57 34) fun j15 => lt (up σ14 76 j15 e7) fun σ16 =>
      lt (up σ16 57 34 ((σ16 57 34) + 1)) fun σ17 =>
      some (.inl σ17)
def X12_comeBack_j66 (n : Nat) (z5 : Int) (y21 : Int) : Option ((Int × Int) ⊕ (Int)) :=
  lt (z5 + 1) fun x23 =>
  some (.inl (y21, x23))
def X12_comeBack_l4 (n : Nat) (σ1 : SG) (z4 : Int) (z5 : Int) : Option ((Int × Int) ⊕ (Int)) :=
  (X12_surfers n σ1).bind fun v19 =>
  if w32 v19 ≤ w32 z5 then
    some (.inr z4)
  else
    rdA 5 z5 fun j20 =>
    ((if w32 (σ1 78 j20) = 0 then
      rdA 5 z5 fun j24 =>
      if w32 (σ1 70 j24) = (-1) then
        some (z4)
      else
        rdA 5 z5 fun j25 =>
        if w32 (σ1 57 25) < w32 (σ1 70 j25) then
          some (z4)
        else
          if w32 z4 = (-1) then
            some (z5)
          else
            rdA 5 z5 fun j26 =>
            rdA 5 z4 fun j27 =>
            if w32 (σ1 70 j27) ≤ w32 (σ1 70 j26) then
              some (z4)
            else
              some (z5)
    else
      some (z4)) : Option (Int)).bind (fun s => X12_comeBack_j66 n z5 s)
def X12_comeBack_l0 (n : Nat) (σ1 : SG) : Option ((SG) ⊕ (SG)) :=
  ((iter n (fun s : Int × Int => X12_comeBack_l4 n σ1 s.1 s.2) ((-1), 0)) : Option (Int)).bind (fun s => X12_comeBack_e4 n σ1 s)
def X12_comeBack (n : Nat) (σ : SG) : Option (SG) :=
  ((iter n (fun s : SG => X12_comeBack_l0 n s) σ) : Option (SG)).bind (fun s => X12_comeBack_e0 n s)
set_option maxHeartbeats 4000000 in
set_option maxRecDepth 100000 in
theorem A_X12_comeBack {Γ : GA} (hΓ : (gl Γ).stackTraces = false) {n : Nat} {σ : SG} {τ : SG}  (h : X12_comeBack n σ = some τ) : AM Γ mX12_comeBack 2 0 0 [vR 57] (85, σ) (0, 0) (85, τ) := by
  refine AM.of pl_X12 rfl wC_X12_comeBack (le45 rfl) hΓ ?_
  refine AW.to (ls'' := [some (vR 57), none, none]) ?_ (lle_s rfl (lle_e (lle_e (lle_z))))
  unfold X12_comeBack at h
  obtain ⟨b2, hi2, hq2⟩ := ob_some h
  obtain ⟨σ3, e2⟩ : ∃ z, z = b2 := ⟨_, rfl⟩
  subst e2
  have hR2 : AW Γ mX12_comeBack 2 (0, 0) (85, τ) 0 0 77 [none, none, none] [] (85, σ3) := by
    have h : X12_comeBack_e0 n σ3 = some _ := hq2
    unfold X12_comeBack_e0 at h
    cases h
    exact AW.vret rfl rfl rfl (dat D_X12_comeBack 45 rfl)
  refine AW.to (ls'' := [some (vR 57), none, none]) ?_ (lle_s rfl (lle_n (lle_n (lle_z))))
  refine aw_iter (fun s : SG => AW Γ mX12_comeBack 2 (0, 0) (85, τ) 0 0 0 [some (vR 57), none, none] [] (85, s)) (fun s y h hk2 hb2 => ?_) _ _ hi2
  obtain ⟨σ1, e2⟩ : ∃ z, z = s := ⟨_, rfl⟩
  subst e2
  show AW Γ mX12_comeBack 2 (0, 0) (85, τ) 0 0 0 [some (vR 57), none, none] [] (85, σ1)
  have h : X12_comeBack_l0 n σ1 = some y := h
  unfold X12_comeBack_l0 at h
  refine AW.iconst (n := 1) (dat D_X12_comeBack 0 rfl) rfl ?_
  refine AW.istore_n (n := 2) (ls' := [some (vR 57), some (vI (-1)), none]) (dat D_X12_comeBack 1 rfl) rfl (le45 rfl) (le45 rfl) rfl rfl ?_
  refine AW.iconst (n := 3) (dat D_X12_comeBack 2 rfl) rfl ?_
  refine AW.istore_n (n := 4) (ls' := [some (vR 57), some (vI (-1)), some (vI 0)]) (dat D_X12_comeBack 3 rfl) rfl (le45 rfl) (le45 rfl) rfl rfl ?_
  obtain ⟨b6, hi6, hq6⟩ := ob_some h
  obtain ⟨e7, e6⟩ : ∃ z, z = b6 := ⟨_, rfl⟩
  subst e6
  have hR6 : AW Γ mX12_comeBack 2 (0, 0) (85, τ) 0 0 72 [some (vR 57), some (vI e7), none] [] (85, σ1) := by
    have h : X12_comeBack_e4 n σ1 e7 = some _ := hq6
    unfold X12_comeBack_e4 at h
    refine AW.iload_n (n := 73) (dat D_X12_comeBack 42 rfl) rfl rfl ?_
    refine AW.iconst (n := 74) (dat D_X12_comeBack 43 rfl) rfl ?_
    refine AW.icmp_neH (t := 78) (n := 77) h (dat D_X12_comeBack 44 rfl) rfl rfl rfl (by decide) (fun h => ?_) (fun h => ?_)
    · cases h
      have hb := hb2 _ rfl
      cases hb
      exact AW.to hR2 (lle_n (lle_n (lle_n (lle_z))))
    · refine AW.aload_n (n := 79) (dat D_X12_comeBack 46 rfl) rfl rfl ?_
      refine AW.getR (n := 82) (t := 78) fX12_48 wF_X12_86 ly_57 (le45 rfl) rfl (dat D_X12_comeBack 47 rfl) rfl ?_
      refine AW.iload_n (n := 83) (dat D_X12_comeBack 48 rfl) rfl rfl ?_
      refine AW.iconst (n := 84) (dat D_X12_comeBack 49 rfl) rfl ?_
      refine AW.zastH h (n := 85) rfl ly_78 (le45 rfl) (dat D_X12_comeBack 50 rfl) rfl (fun j8 h => ?_)
      refine AW.ltS h (fun σ9 h => ?_)
      refine AW.aload_n (n := 86) (dat D_X12_comeBack 51 rfl) rfl rfl ?_
      refine AW.getR (n := 89) (t := 70) fX12_40 wF_X12_62 ly_57 (le45 rfl) rfl (dat D_X12_comeBack 52 rfl) rfl ?_
      refine AW.iload_n (n := 90) (dat D_X12_comeBack 53 rfl) rfl rfl ?_
      refine AW.iconst (n := 91) (dat D_X12_comeBack 54 rfl) rfl ?_
      refine AW.iastH h (n := 92) rfl ly_70 (le45 rfl) (dat D_X12_comeBack 55 rfl) rfl (fun j10 h => ?_)
      refine AW.ltS h (fun σ11 h => ?_)
      refine AW.aload_n (n := 93) (dat D_X12_comeBack 56 rfl) rfl rfl ?_
      refine AW.getR (n := 96) (t := 69) fX12_39 wF_X12_59 ly_57 (le45 rfl) rfl (dat D_X12_comeBack 57 rfl) rfl ?_
      refine AW.iload_n (n := 97) (dat D_X12_comeBack 58 rfl) rfl rfl ?_
      refine AW.aload_n (n := 98) (dat D_X12_comeBack 59 rfl) rfl rfl ?_
      refine AW.getR (n := 101) (t := 68) fX12_38 wF_X12_56 ly_57 (le45 rfl) rfl (dat D_X12_comeBack 60 rfl) rfl ?_
      refine AW.iload_n (n := 102) (dat D_X12_comeBack 61 rfl) rfl rfl ?_
      refine AW.ialdH h (n := 103) rfl ly_68 (le45 rfl) (dat D_X12_comeBack 62 rfl) rfl (fun j12 h => ?_)
      refine AW.iastH h (n := 104) rfl ly_69 (le45 rfl) (dat D_X12_comeBack 63 rfl) rfl (fun j13 h => ?_)
      refine AW.ltS h (fun σ14 h => ?_)
      refine AW.aload_n (n := 105) (dat D_X12_comeBack 64 rfl) rfl rfl ?_
      refine AW.getI (n := 108) fX12_36 wF_X12_372 ly_57 (le45 rfl) rfl rfl (dat D_X12_comeBack 65 rfl) rfl ?_
      refine AW.if_neH (t := 114) (n := 111) h (dat D_X12_comeBack 66 rfl) rfl rfl (fun h => ?_) (fun h => ?_)
      · refine AW.goto (t := 0) (dat D_X12_comeBack 67 rfl) rfl ?_
        cases h
        exact AW.to (hk2 _ rfl) (lle_s rfl (lle_n (lle_n (lle_z))))
      · refine AW.aload_n (n := 115) (dat D_X12_comeBack 68 rfl) rfl rfl ?_
        refine AW.getR (n := 118) (t := 76) fX12_46 wF_X12_80 ly_57 (le45 rfl) rfl (dat D_X12_comeBack 69 rfl) rfl ?_
        refine AW.aload_n (n := 119) (dat D_X12_comeBack 70 rfl) rfl rfl ?_
        refine AW.getI (n := 122) fX12_34 wF_X12_369 ly_57 (le45 rfl) rfl rfl (dat D_X12_comeBack 71 rfl) rfl ?_
        refine AW.iload_n (n := 123) (dat D_X12_comeBack 72 rfl) rfl rfl ?_
        refine AW.iastH h (n := 124) rfl ly_76 (le45 rfl) (dat D_X12_comeBack 73 rfl) rfl (fun j15 h => ?_)
        refine AW.ltS h (fun σ16 h => ?_)
        refine AW.aload_n (n := 125) (dat D_X12_comeBack 74 rfl) rfl rfl ?_
        refine AW.dup (n := 126) (dat D_X12_comeBack 75 rfl) rfl (cR _) ?_
        refine AW.getI (n := 129) fX12_34 wF_X12_369 ly_57 (le45 rfl) rfl rfl (dat D_X12_comeBack 76 rfl) rfl ?_
        refine AW.iconst (n := 130) (dat D_X12_comeBack 77 rfl) rfl ?_
        refine AW.iadd (n := 131) (dat D_X12_comeBack 78 rfl) rfl ?_
        refine AW.putI (n := 134) fX12_34 wF_X12_369 ly_57 (le45 rfl) rfl rfl rfl (dat D_X12_comeBack 79 rfl) rfl ?_
        refine AW.ltS h (fun σ17 h => ?_)
        refine AW.goto (t := 0) (dat D_X12_comeBack 80 rfl) rfl ?_
        cases h
        exact AW.to (hk2 _ rfl) (lle_s rfl (lle_n (lle_n (lle_z))))
  refine AW.to (ls'' := [some (vR 57), some (vI (-1)), some (vI 0)]) ?_ (lle_s rfl (lle_s rfl (lle_s rfl (lle_z))))
  refine aw_iter (fun s : Int × Int => AW Γ mX12_comeBack 2 (0, 0) (85, τ) 0 0 4 [some (vR 57), some (vI (s.1)), some (vI (s.2))] [] (85, σ1)) (fun s y h hk6 hb6 => ?_) _ _ hi6
  obtain ⟨z4, z5⟩ := s
  show AW Γ mX12_comeBack 2 (0, 0) (85, τ) 0 0 4 [some (vR 57), some (vI z4), some (vI z5)] [] (85, σ1)
  have h : X12_comeBack_l4 n σ1 z4 z5 = some y := h
  unfold X12_comeBack_l4 at h
  refine AW.iload_n (n := 5) (dat D_X12_comeBack 4 rfl) rfl rfl ?_
  refine AW.aload_n (n := 6) (dat D_X12_comeBack 5 rfl) rfl rfl ?_
  obtain ⟨v19, hc18, h⟩ := ob_some h
  refine AW.cV (n := 9) (as := []) (st := [vI z5]) (st' := [vI v19, vI z5]) (uc' := 0) (us' := 0) (A_X12_surfers hΓ hc18) cf_X12_surfers ly_57 (le45 rfl) vc_12 (le45 rfl) wM_X12_378 (le45 rfl) (le45 rfl) (dat D_X12_comeBack 6 rfl) rfl rfl (le45 rfl) (le45 rfl) rfl (fun _ => ?_) nlt0
  refine AW.icmp_geH (t := 72) (n := 12) h (dat D_X12_comeBack 7 rfl) rfl rfl rfl rfl (fun h => ?_) (fun h => ?_)
  · cases h
    have hb := hb6 _ rfl
    cases hb
    exact AW.to hR6 (lle_s rfl (lle_s rfl (lle_n (lle_z))))
  · refine AW.aload_n (n := 13) (dat D_X12_comeBack 8 rfl) rfl rfl ?_
    refine AW.getR (n := 16) (t := 78) fX12_48 wF_X12_86 ly_57 (le45 rfl) rfl (dat D_X12_comeBack 9 rfl) rfl ?_
    refine AW.iload_n (n := 17) (dat D_X12_comeBack 10 rfl) rfl rfl ?_
    refine AW.zaldH h (n := 18) rfl ly_78 (le45 rfl) (dat D_X12_comeBack 11 rfl) rfl (fun j20 h => ?_)
    obtain ⟨s22, h, hq22⟩ := ob_some h
    obtain ⟨y21, e22⟩ : ∃ z, z = s22 := ⟨_, rfl⟩
    subst e22
    have hJ22 : AW Γ mX12_comeBack 2 (0, 0) (85, τ) 0 0 66 [some (vR 57), some (vI y21), some (vI z5)] [] (85, σ1) := by
      have h : X12_comeBack_j66 n z5 y21 = some _ := hq22
      unfold X12_comeBack_j66 at h
      refine AW.iincH h (n := 69) (dat D_X12_comeBack 40 rfl) rfl rfl (le45 rfl) rfl (fun x23 h => ?_)
      refine AW.lq (ls' := [some (vR 57), some (vI y21), some (vI x23)]) rfl ?_
      refine AW.goto (t := 4) (dat D_X12_comeBack 41 rfl) rfl ?_
      cases h
      exact AW.to (hk6 _ rfl) (lle_s rfl (lle_s rfl (lle_s rfl (lle_z))))
    refine AW.if_neH (t := 66) (n := 21) h (dat D_X12_comeBack 12 rfl) rfl rfl (fun h => ?_) (fun h => ?_)
    · refine AW.aload_n (n := 22) (dat D_X12_comeBack 13 rfl) rfl rfl ?_
      refine AW.getR (n := 25) (t := 70) fX12_40 wF_X12_62 ly_57 (le45 rfl) rfl (dat D_X12_comeBack 14 rfl) rfl ?_
      refine AW.iload_n (n := 26) (dat D_X12_comeBack 15 rfl) rfl rfl ?_
      refine AW.ialdH h (n := 27) rfl ly_70 (le45 rfl) (dat D_X12_comeBack 16 rfl) rfl (fun j24 h => ?_)
      refine AW.iconst (n := 28) (dat D_X12_comeBack 17 rfl) rfl ?_
      refine AW.icmp_eqH (t := 66) (n := 31) h (dat D_X12_comeBack 18 rfl) rfl rfl rfl (by decide) (fun h => ?_) (fun h => ?_)
      · cases h
        exact AW.to hJ22 (lle_s rfl (lle_s rfl (lle_s rfl (lle_z))))
      · refine AW.aload_n (n := 32) (dat D_X12_comeBack 19 rfl) rfl rfl ?_
        refine AW.getR (n := 35) (t := 70) fX12_40 wF_X12_62 ly_57 (le45 rfl) rfl (dat D_X12_comeBack 20 rfl) rfl ?_
        refine AW.iload_n (n := 36) (dat D_X12_comeBack 21 rfl) rfl rfl ?_
        refine AW.ialdH h (n := 37) rfl ly_70 (le45 rfl) (dat D_X12_comeBack 22 rfl) rfl (fun j25 h => ?_)
        refine AW.aload_n (n := 38) (dat D_X12_comeBack 23 rfl) rfl rfl ?_
        refine AW.getI (n := 41) fX12_25 wF_X12_352 ly_57 (le45 rfl) rfl rfl (dat D_X12_comeBack 24 rfl) rfl ?_
        refine AW.icmp_gtH (t := 66) (n := 44) h (dat D_X12_comeBack 25 rfl) rfl rfl rfl rfl (fun h => ?_) (fun h => ?_)
        · cases h
          exact AW.to hJ22 (lle_s rfl (lle_s rfl (lle_s rfl (lle_z))))
        · refine AW.iload_n (n := 45) (dat D_X12_comeBack 26 rfl) rfl rfl ?_
          refine AW.iconst (n := 46) (dat D_X12_comeBack 27 rfl) rfl ?_
          refine AW.icmp_eqH (t := 64) (n := 49) h (dat D_X12_comeBack 28 rfl) rfl rfl rfl (by decide) (fun h => ?_) (fun h => ?_)
          · refine AW.iload_n (n := 65) (dat D_X12_comeBack 38 rfl) rfl rfl ?_
            refine AW.istore_n (n := 66) (ls' := [some (vR 57), some (vI z5), some (vI z5)]) (dat D_X12_comeBack 39 rfl) rfl (le45 rfl) (le45 rfl) rfl rfl ?_
            cases h
            exact AW.to hJ22 (lle_s rfl (lle_s rfl (lle_s rfl (lle_z))))
          · refine AW.aload_n (n := 50) (dat D_X12_comeBack 29 rfl) rfl rfl ?_
            refine AW.getR (n := 53) (t := 70) fX12_40 wF_X12_62 ly_57 (le45 rfl) rfl (dat D_X12_comeBack 30 rfl) rfl ?_
            refine AW.iload_n (n := 54) (dat D_X12_comeBack 31 rfl) rfl rfl ?_
            refine AW.ialdH h (n := 55) rfl ly_70 (le45 rfl) (dat D_X12_comeBack 32 rfl) rfl (fun j26 h => ?_)
            refine AW.aload_n (n := 56) (dat D_X12_comeBack 33 rfl) rfl rfl ?_
            refine AW.getR (n := 59) (t := 70) fX12_40 wF_X12_62 ly_57 (le45 rfl) rfl (dat D_X12_comeBack 34 rfl) rfl ?_
            refine AW.iload_n (n := 60) (dat D_X12_comeBack 35 rfl) rfl rfl ?_
            refine AW.ialdH h (n := 61) rfl ly_70 (le45 rfl) (dat D_X12_comeBack 36 rfl) rfl (fun j27 h => ?_)
            refine AW.icmp_geH (t := 66) (n := 64) h (dat D_X12_comeBack 37 rfl) rfl rfl rfl rfl (fun h => ?_) (fun h => ?_)
            · cases h
              exact AW.to hJ22 (lle_s rfl (lle_s rfl (lle_s rfl (lle_z))))
            · refine AW.iload_n (n := 65) (dat D_X12_comeBack 38 rfl) rfl rfl ?_
              refine AW.istore_n (n := 66) (ls' := [some (vR 57), some (vI z5), some (vI z5)]) (dat D_X12_comeBack 39 rfl) rfl (le45 rfl) (le45 rfl) rfl rfl ?_
              cases h
              exact AW.to hJ22 (lle_s rfl (lle_s rfl (lle_s rfl (lle_z))))
    · cases h
      exact AW.to hJ22 (lle_s rfl (lle_s rfl (lle_s rfl (lle_z))))
def L_X12_swims : List (Nat × Instr × Nat) := [(0, .iconst 0, 1), (1, .istore_n 2, 1), (2, .iload_n 2, 1), (3, .aload_n 0, 1), (4, .invokevirtual 378, 3), (7, .if_icmp .ge 61, 3), (10, .iload_n 1, 1), (11, .aload_n 0, 1), (12, .getfield 21, 3), (15, .bipush 39, 2), (17, .iload_n 2, 1), (18, .iadd, 1), (19, .iaload, 1), (20, .imul, 1), (21, .istore_n 3, 1), (22, .aload_n 0, 1), (23, .getfield 86, 3), (26, .iload_n 2, 1), (27, .baload, 1), (28, .ifCond .eq 34, 3), (31, .aload_n 0, 1), (32, .getfield 56, 3), (35, .iload_n 2, 1), (36, .dup2, 1), (37, .iaload, 1), (38, .iload_n 3, 1), (39, .ineg, 1), (40, .iload_n 3, 1), (41, .aload_n 0, 1), (42, .getfield 59, 3), (45, .iload_n 2, 1), (46, .iaload, 1), (47, .aload_n 0, 1), (48, .getfield 56, 3), (51, .iload_n 2, 1), (52, .iaload, 1), (53, .isub, 1), (54, .invokestatic 315, 3), (57, .invokestatic 427, 3), (60, .iadd, 1), (61, .iastore, 1), (62, .iinc 2 1, 3), (65, .goto (-63), 3), (68, .return_, 1)]
theorem D_X12_swims : dOK cX12_swims L_X12_swims = true := by decide +kernel
theorem cf_X12_swims : CFV mX12_swims 1 := ⟨wI_X12_swims, wS_X12_swims, wN_WaveRightModel, wC_X12_swims, rfl, ⟨by decide +kernel, by decide +kernel, by decide +kernel⟩, le45 rfl⟩
def X12_swims_e2 (n : Nat) (σ4 : SG) : Option (SG) :=
  some (σ4)
def X12_swims_j62 (n : Nat) (z1 : Int) (σ10 : SG) : Option ((Int × SG) ⊕ (SG)) :=
  lt (z1 + 1) fun x12 =>
  some (.inl (x12, σ10))
def X12_swims_l2 (n : Nat) (a0 : Int) (z1 : Int) (σ2 : SG) : Option ((Int × SG) ⊕ (SG)) :=
  (X12_surfers n σ2).bind fun v6 =>
  if w32 v6 ≤ w32 z1 then
    some (.inr σ2)
  else
    rdA 144 (39 + z1) fun j7 =>
    lt (a0 * (σ2 60 j7)) fun x8 =>
    rdA 5 z1 fun j9 =>
    ((if w32 (σ2 78 j9) = 0 then
      some (σ2)
    else
      rdA 5 z1 fun j13 =>
      rdA 5 z1 fun j14 =>
      rdA 5 z1 fun j15 =>
      rdA 5 z1 fun j16 => lt (up σ2 68 j16 ((σ2 68 j13) + (mx32 (-x8) (mn32 x8 ((σ2 69 j14) - (σ2 68 j15)))))) fun σ17 =>
      some (σ17)) : Option (SG)).bind (fun s => X12_swims_j62 n z1 s)
def X12_swims (n : Nat) (a0 : Int) (σ : SG) : Option (SG) :=
  ((iter n (fun s : Int × SG => X12_swims_l2 n a0 s.1 s.2) (0, σ)) : Option (SG)).bind (fun s => X12_swims_e2 n s)
set_option maxHeartbeats 4000000 in
set_option maxRecDepth 100000 in
theorem A_X12_swims {Γ : GA} (hΓ : (gl Γ).stackTraces = false) {n : Nat} {a0 : Int} {σ : SG} {τ : SG}  (h : X12_swims n a0 σ = some τ) : AM Γ mX12_swims 2 0 0 [vR 57, vI a0] (85, σ) (0, 0) (85, τ) := by
  refine AM.of pl_X12 rfl wC_X12_swims (le45 rfl) hΓ ?_
  refine AW.to (ls'' := [some (vR 57), some (vI a0), none, none]) ?_ (lle_s rfl (lle_s rfl (lle_e (lle_e (lle_z)))))
  unfold X12_swims at h
  refine AW.iconst (n := 1) (dat D_X12_swims 0 rfl) rfl ?_
  refine AW.istore_n (n := 2) (ls' := [some (vR 57), some (vI a0), some (vI 0), none]) (dat D_X12_swims 1 rfl) rfl (le45 rfl) (le45 rfl) rfl rfl ?_
  obtain ⟨b3, hi3, hq3⟩ := ob_some h
  obtain ⟨σ4, e3⟩ : ∃ z, z = b3 := ⟨_, rfl⟩
  subst e3
  have hR3 : AW Γ mX12_swims 2 (0, 0) (85, τ) 0 0 68 [none, none, none, none] [] (85, σ4) := by
    have h : X12_swims_e2 n σ4 = some _ := hq3
    unfold X12_swims_e2 at h
    cases h
    exact AW.vret rfl rfl rfl (dat D_X12_swims 43 rfl)
  refine AW.to (ls'' := [some (vR 57), some (vI a0), some (vI 0), none]) ?_ (lle_s rfl (lle_s rfl (lle_s rfl (lle_n (lle_z)))))
  refine aw_iter (fun s : Int × SG => AW Γ mX12_swims 2 (0, 0) (85, τ) 0 0 2 [some (vR 57), some (vI a0), some (vI (s.1)), none] [] (85, s.2)) (fun s y h hk3 hb3 => ?_) _ _ hi3
  obtain ⟨z1, σ2⟩ := s
  show AW Γ mX12_swims 2 (0, 0) (85, τ) 0 0 2 [some (vR 57), some (vI a0), some (vI z1), none] [] (85, σ2)
  have h : X12_swims_l2 n a0 z1 σ2 = some y := h
  unfold X12_swims_l2 at h
  refine AW.iload_n (n := 3) (dat D_X12_swims 2 rfl) rfl rfl ?_
  refine AW.aload_n (n := 4) (dat D_X12_swims 3 rfl) rfl rfl ?_
  obtain ⟨v6, hc5, h⟩ := ob_some h
  refine AW.cV (n := 7) (as := []) (st := [vI z1]) (st' := [vI v6, vI z1]) (uc' := 0) (us' := 0) (A_X12_surfers hΓ hc5) cf_X12_surfers ly_57 (le45 rfl) vc_12 (le45 rfl) wM_X12_378 (le45 rfl) (le45 rfl) (dat D_X12_swims 4 rfl) rfl rfl (le45 rfl) (le45 rfl) rfl (fun _ => ?_) nlt0
  refine AW.icmp_geH (t := 68) (n := 10) h (dat D_X12_swims 5 rfl) rfl rfl rfl rfl (fun h => ?_) (fun h => ?_)
  · cases h
    have hb := hb3 _ rfl
    cases hb
    exact AW.to hR3 (lle_n (lle_n (lle_n (lle_n (lle_z)))))
  · refine AW.iload_n (n := 11) (dat D_X12_swims 6 rfl) rfl rfl ?_
    refine AW.aload_n (n := 12) (dat D_X12_swims 7 rfl) rfl rfl ?_
    refine AW.getR (n := 15) (t := 60) fX12_9 wF_X12_21 ly_57 (le45 rfl) rfl (dat D_X12_swims 8 rfl) rfl ?_
    refine AW.bipush (n := 17) (dat D_X12_swims 9 rfl) rfl (by decide) ?_
    refine AW.iload_n (n := 18) (dat D_X12_swims 10 rfl) rfl rfl ?_
    refine AW.iadd (n := 19) (dat D_X12_swims 11 rfl) rfl ?_
    refine AW.ialdH h (n := 20) rfl ly_60 (le45 rfl) (dat D_X12_swims 12 rfl) rfl (fun j7 h => ?_)
    refine AW.imul (n := 21) (dat D_X12_swims 13 rfl) rfl ?_
    refine AW.ltI h (fun x8 h => ?_)
    refine AW.istore_n (n := 22) (ls' := [some (vR 57), some (vI a0), some (vI z1), some (vI x8)]) (dat D_X12_swims 14 rfl) rfl (le45 rfl) (le45 rfl) rfl rfl ?_
    refine AW.aload_n (n := 23) (dat D_X12_swims 15 rfl) rfl rfl ?_
    refine AW.getR (n := 26) (t := 78) fX12_48 wF_X12_86 ly_57 (le45 rfl) rfl (dat D_X12_swims 16 rfl) rfl ?_
    refine AW.iload_n (n := 27) (dat D_X12_swims 17 rfl) rfl rfl ?_
    refine AW.zaldH h (n := 28) rfl ly_78 (le45 rfl) (dat D_X12_swims 18 rfl) rfl (fun j9 h => ?_)
    obtain ⟨s11, h, hq11⟩ := ob_some h
    obtain ⟨σ10, e11⟩ : ∃ z, z = s11 := ⟨_, rfl⟩
    subst e11
    have hJ11 : AW Γ mX12_swims 2 (0, 0) (85, τ) 0 0 62 [some (vR 57), some (vI a0), some (vI z1), none] [] (85, σ10) := by
      have h : X12_swims_j62 n z1 σ10 = some _ := hq11
      unfold X12_swims_j62 at h
      refine AW.iincH h (n := 65) (dat D_X12_swims 41 rfl) rfl rfl (le45 rfl) rfl (fun x12 h => ?_)
      refine AW.lq (ls' := [some (vR 57), some (vI a0), some (vI x12), none]) rfl ?_
      refine AW.goto (t := 2) (dat D_X12_swims 42 rfl) rfl ?_
      cases h
      exact AW.to (hk3 _ rfl) (lle_s rfl (lle_s rfl (lle_s rfl (lle_n (lle_z)))))
    refine AW.if_eqH (t := 62) (n := 31) h (dat D_X12_swims 19 rfl) rfl rfl (fun h => ?_) (fun h => ?_)
    · cases h
      exact AW.to hJ11 (lle_s rfl (lle_s rfl (lle_s rfl (lle_n (lle_z)))))
    · refine AW.aload_n (n := 32) (dat D_X12_swims 20 rfl) rfl rfl ?_
      refine AW.getR (n := 35) (t := 68) fX12_38 wF_X12_56 ly_57 (le45 rfl) rfl (dat D_X12_swims 21 rfl) rfl ?_
      refine AW.iload_n (n := 36) (dat D_X12_swims 22 rfl) rfl rfl ?_
      refine AW.dup2 (n := 37) (dat D_X12_swims 23 rfl) rfl (cI _) (cR _) ?_
      refine AW.ialdH h (n := 38) rfl ly_68 (le45 rfl) (dat D_X12_swims 24 rfl) rfl (fun j13 h => ?_)
      refine AW.iload_n (n := 39) (dat D_X12_swims 25 rfl) rfl rfl ?_
      refine AW.ineg (n := 40) (dat D_X12_swims 26 rfl) rfl ?_
      refine AW.iload_n (n := 41) (dat D_X12_swims 27 rfl) rfl rfl ?_
      refine AW.aload_n (n := 42) (dat D_X12_swims 28 rfl) rfl rfl ?_
      refine AW.getR (n := 45) (t := 69) fX12_39 wF_X12_59 ly_57 (le45 rfl) rfl (dat D_X12_swims 29 rfl) rfl ?_
      refine AW.iload_n (n := 46) (dat D_X12_swims 30 rfl) rfl rfl ?_
      refine AW.ialdH h (n := 47) rfl ly_69 (le45 rfl) (dat D_X12_swims 31 rfl) rfl (fun j14 h => ?_)
      refine AW.aload_n (n := 48) (dat D_X12_swims 32 rfl) rfl rfl ?_
      refine AW.getR (n := 51) (t := 68) fX12_38 wF_X12_56 ly_57 (le45 rfl) rfl (dat D_X12_swims 33 rfl) rfl ?_
      refine AW.iload_n (n := 52) (dat D_X12_swims 34 rfl) rfl rfl ?_
      refine AW.ialdH h (n := 53) rfl ly_68 (le45 rfl) (dat D_X12_swims 35 rfl) rfl (fun j15 h => ?_)
      refine AW.isub (n := 54) (dat D_X12_swims 36 rfl) rfl ?_
      refine AW.mmin (n := 57) wM_X12_315 (le45 rfl) (le45 rfl) (dat D_X12_swims 37 rfl) rfl ?_
      refine AW.mmax (n := 60) wM_X12_427 (le45 rfl) (le45 rfl) (dat D_X12_swims 38 rfl) rfl ?_
      refine AW.iadd (n := 61) (dat D_X12_swims 39 rfl) rfl ?_
      refine AW.iastH h (n := 62) rfl ly_68 (le45 rfl) (dat D_X12_swims 40 rfl) rfl (fun j16 h => ?_)
      refine AW.ltS h (fun σ17 h => ?_)
      cases h
      exact AW.to hJ11 (lle_s rfl (lle_s rfl (lle_s rfl (lle_n (lle_z)))))
