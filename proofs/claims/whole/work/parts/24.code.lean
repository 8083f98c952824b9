/-! ===== methods as functions, and their bytecode beside them (printed by wip/whole/gen/emit.py) ===== -/
def L_X1_judgeRide : List (Nat × Instr × Nat) := [(0, .aload_n 0, 1), (1, .aload_n 1, 1), (2, .aload_n 1, 1), (3, .getfield 153, 3), (6, .aload_n 1, 1), (7, .getfield 156, 3), (10, .invokevirtual 209, 3), (13, .ifCond .eq 7, 3), (16, .iconst 1, 1), (17, .goto 4, 3), (20, .iconst 0, 1), (21, .istore_n 3, 1), (22, .iload_n 3, 1), (23, .ifCond .eq 7, 3), (26, .iconst 0, 1), (27, .goto 24, 3), (30, .aload_n 0, 1), (31, .aload_n 1, 1), (32, .aload_n 0, 1), (33, .getfield 45, 3), (36, .aload_n 1, 1), (37, .getfield 135, 3), (40, .aload_n 1, 1), (41, .getfield 156, 3), (44, .aload_n 1, 1), (45, .getfield 159, 3), (48, .invokevirtual 213, 3), (51, .istore 4, 2), (53, .iconst 0, 1), (54, .iload 4, 2), (56, .invokestatic 217, 3), (59, .istore 5, 2), (61, .aload_n 1, 1), (62, .aload_n 0, 1), (63, .getfield 45, 3), (66, .iload 5, 2), (68, .iload_n 3, 1), (69, .iload 4, 2), (71, .ifCond .ge 9, 3), (74, .iload 4, 2), (76, .ineg, 1), (77, .goto 4, 3), (80, .iconst 0, 1), (81, .invokevirtual 220, 3), (84, .aload_n 0, 1), (85, .dup, 1), (86, .getfield 75, 3), (89, .iconst 1, 1), (90, .iadd, 1), (91, .putfield 75, 3), (94, .iload_n 3, 1), (95, .ifCond .eq 28, 3), (98, .aload_n 1, 1), (99, .dup, 1), (100, .getfield 224, 3), (103, .iconst 1, 1), (104, .iadd, 1), (105, .putfield 224, 3), (108, .aload_n 0, 1), (109, .getfield 38, 3), (112, .iload_n 2, 1), (113, .iconst 3, 1), (114, .iadd, 1), (115, .dup2, 1), (116, .iaload, 1), (117, .iconst 1, 1), (118, .iadd, 1), (119, .iastore, 1), (120, .goto 27, 3), (123, .iload 4, 2), (125, .ifCond .ge 16, 3), (128, .aload_n 0, 1), (129, .dup, 1), (130, .getfield 78, 3), (133, .iconst 1, 1), (134, .iadd, 1), (135, .putfield 78, 3), (138, .goto 9, 3), (141, .aload_n 0, 1), (142, .iload 5, 2), (144, .invokevirtual 227, 3), (147, .iload 5, 2), (149, .aload_n 0, 1), (150, .getfield 38, 3), (153, .iload_n 2, 1), (154, .iconst 1, 1), (155, .iadd, 1), (156, .iaload, 1), (157, .if_icmp .le 25, 3), (160, .aload_n 0, 1), (161, .getfield 38, 3), (164, .iload_n 2, 1), (165, .iconst 1, 1), (166, .iadd, 1), (167, .iload 5, 2), (169, .iastore, 1), (170, .aload_n 0, 1), (171, .getfield 38, 3), (174, .iload_n 2, 1), (175, .iconst 2, 1), (176, .iadd, 1), (177, .aload_n 1, 1), (178, .getfield 144, 3), (181, .iastore, 1), (182, .return_, 1)]
theorem D_X1_judgeRide : dOK cX1_judgeRide L_X1_judgeRide = true := by decide +kernel
theorem cf_X1_judgeRide : CFV mX1_judgeRide 2 := ⟨wI_X1_judgeRide, wS_X1_judgeRide, wN_WaveRight_Heat, wC_X1_judgeRide, rfl, ⟨by decide +kernel, by decide +kernel, by decide +kernel⟩, le45 rfl⟩
def X1_judgeRide_j147 (n : Nat) (a1 : Int) (x8 : Int) (a0 : Nat) (σ14 : SG) : Option (SG) :=
  rdA 80 (a1 + 1) fun j16 =>
  if w32 x8 ≤ w32 (σ14 37 j16) then
    some (σ14)
  else
    rdA 80 (a1 + 1) fun j17 => lt (up σ14 37 j17 x8) fun σ18 =>
    rdA 80 (a1 + 2) fun j19 => lt (up σ18 37 j19 (σ18 a0 0)) fun σ20 =>
    some (σ20)
def X1_judgeRide_j81 (n : Nat) (a0 : Nat) (σ6 : SG) (x8 : Int) (y3 : Int) (y5 : Int) (a1 : Int) (y9 : Int) : Option (SG) :=
  (X9_keepRide n a0 (σ6 19 13) x8 y3 y9 σ6).bind fun σ12 =>
  lt (up σ12 19 7 ((σ12 19 7) + 1)) fun σ13 =>
  ((if w32 y3 = 0 then
    if 0 ≤ w32 y5 then
      (X1_keepSeen n x8 σ13).bind fun σ22 =>
      some (σ22)
    else
      lt (up σ13 19 8 ((σ13 19 8) + 1)) fun σ23 =>
      some (σ23)
  else
    lt (up σ13 a0 9 ((σ13 a0 9) + 1)) fun σ24 =>
    rdA 80 (a1 + 3) fun j25 =>
    rdA 80 (a1 + 3) fun j26 => lt (up σ24 37 j26 ((σ24 37 j25) + 1)) fun σ27 =>
    some (σ27)) : Option (SG)).bind (fun s => X1_judgeRide_j147 n a1 x8 a0 s)
def X1_judgeRide_j51 (n : Nat) (a0 : Nat) (y3 : Int) (a1 : Int) (y5 : Int) (σ6 : SG) : Option (SG) :=
  lt (mx32 0 y5) fun x8 =>
  ((if 0 ≤ w32 y5 then
    some (0)
  else
    some ((-y5))) : Option (Int)).bind (fun s => X1_judgeRide_j81 n a0 σ6 x8 y3 y5 a1 s)
def X1_judgeRide_j21 (n : Nat) (a0 : Nat) (σ : SG) (a1 : Int) (y3 : Int) : Option (SG) :=
  ((if w32 y3 = 0 then
    bnd2 (X1_scoreOf n a0 (σ 19 13) (σ a0 3) (σ a0 13) (σ a0 14) σ) fun v29 σ30 =>
    some ((v29, σ30))
  else
    some ((0, σ))) : Option (Int × SG)).bind (fun s => X1_judgeRide_j51 n a0 y3 a1 s.1 s.2)
def X1_judgeRide (n : Nat) (a0 : Nat) (a1 : Int) (σ : SG) : Option (SG) :=
  (X1_hinderedBy n a0 (σ a0 12) (σ a0 13) σ).bind fun v2 =>
  ((if w32 v2 = 0 then
    some (0)
  else
    some (1)) : Option (Int)).bind (fun s => X1_judgeRide_j21 n a0 σ a1 s)
set_option maxHeartbeats 4000000 in
set_option maxRecDepth 100000 in
theorem A_X1_judgeRide {Γ : GA} (hΓ : (gl Γ).stackTraces = false) {n : Nat} {a0 : Nat} {a1 : Int} {σ : SG} {τ : SG} (hpa0 : isSw a0 = true) (h : X1_judgeRide n a0 a1 σ = some τ) : AM Γ mX1_judgeRide 5 0 0 [vR 19, vR a0, vI a1] (85, σ) (0, 0) (85, τ) := by
  refine AM.of pl_X1 rfl wC_X1_judgeRide (le45 rfl) hΓ ?_
  refine AW.to (ls'' := [some (vR 19), some (vR a0), some (vI a1), none, none, none]) ?_ (lle_s rfl (lle_s rfl (lle_s rfl (lle_e (lle_e (lle_e (lle_z)))))))
  unfold X1_judgeRide at h
  refine AW.aload_n (n := 1) (dat D_X1_judgeRide 0 rfl) rfl rfl ?_
  refine AW.aload_n (n := 2) (dat D_X1_judgeRide 1 rfl) rfl rfl ?_
  refine AW.aload_n (n := 3) (dat D_X1_judgeRide 2 rfl) rfl rfl ?_
  refine AW.getI (n := 6) fX9_12 wF_X1_153 (isSw_ly0 hpa0) (by have := isSw_lt hpa0; omega) rfl rfl (dat D_X1_judgeRide 3 rfl) rfl ?_
  refine AW.aload_n (n := 7) (dat D_X1_judgeRide 4 rfl) rfl rfl ?_
  refine AW.getI (n := 10) fX9_13 wF_X1_156 (isSw_ly0 hpa0) (by have := isSw_lt hpa0; omega) rfl rfl (dat D_X1_judgeRide 5 rfl) rfl ?_
  obtain ⟨v2, hc1, h⟩ := ob_some h
  refine AW.cV (n := 13) (as := [vR a0, vI (σ a0 12), vI (σ a0 13)]) (st := []) (st' := [vI v2]) (uc' := 0) (us' := 0) (A_X1_hinderedBy hΓ hpa0 hc1) cf_X1_hinderedBy ly_19 (le45 rfl) vc_1 (le45 rfl) wM_X1_209 (le45 rfl) (le45 rfl) (dat D_X1_judgeRide 6 rfl) rfl rfl (le45 rfl) (le45 rfl) rfl (fun _ => ?_) nlt0
  obtain ⟨s4, h, hq4⟩ := ob_some h
  obtain ⟨y3, e4⟩ : ∃ z, z = s4 := ⟨_, rfl⟩
  subst e4
  have hJ4 : AW Γ mX1_judgeRide 5 (0, 0) (85, τ) 0 0 21 [some (vR 19), some (vR a0), some (vI a1), none, none, none] [vI y3] (85, σ) := by
    have h : X1_judgeRide_j21 n a0 σ a1 y3 = some _ := hq4
    unfold X1_judgeRide_j21 at h
    refine AW.istore_n (n := 22) (ls' := [some (vR 19), some (vR a0), some (vI a1), some (vI y3), none, none]) (dat D_X1_judgeRide 11 rfl) rfl (le45 rfl) (le45 rfl) rfl rfl ?_
    refine AW.iload_n (n := 23) (dat D_X1_judgeRide 12 rfl) rfl rfl ?_
    obtain ⟨s7, h, hq7⟩ := ob_some h
    obtain ⟨y5, σ6⟩ := s7
    have hJ7 : AW Γ mX1_judgeRide 5 (0, 0) (85, τ) 0 0 51 [some (vR 19), some (vR a0), some (vI a1), some (vI y3), none, none] [vI y5] (85, σ6) := by
      have h : X1_judgeRide_j51 n a0 y3 a1 y5 σ6 = some _ := hq7
      unfold X1_judgeRide_j51 at h
      refine AW.istore (n := 53) (ls' := [some (vR 19), some (vR a0), some (vI a1), some (vI y3), some (vI y5), none]) (dat D_X1_judgeRide 27 rfl) rfl (le45 rfl) (le45 rfl) rfl rfl ?_
      refine AW.iconst (n := 54) (dat D_X1_judgeRide 28 rfl) rfl ?_
      refine AW.iload (n := 56) (dat D_X1_judgeRide 29 rfl) rfl rfl ?_
      refine AW.mmax (n := 59) wM_X1_217 (le45 rfl) (le45 rfl) (dat D_X1_judgeRide 30 rfl) rfl ?_
      refine AW.ltI h (fun x8 h => ?_)
      refine AW.istore (n := 61) (ls' := [some (vR 19), some (vR a0), some (vI a1), some (vI y3), some (vI y5), some (vI x8)]) (dat D_X1_judgeRide 31 rfl) rfl (le45 rfl) (le45 rfl) rfl rfl ?_
      refine AW.aload_n (n := 62) (dat D_X1_judgeRide 32 rfl) rfl rfl ?_
      refine AW.aload_n (n := 63) (dat D_X1_judgeRide 33 rfl) rfl rfl ?_
      refine AW.getI (n := 66) fX1_13 wF_X1_45 ly_19 (le45 rfl) rfl rfl (dat D_X1_judgeRide 34 rfl) rfl ?_
      refine AW.iload (n := 68) (dat D_X1_judgeRide 35 rfl) rfl rfl ?_
      refine AW.iload_n (n := 69) (dat D_X1_judgeRide 36 rfl) rfl rfl ?_
      refine AW.iload (n := 71) (dat D_X1_judgeRide 37 rfl) rfl rfl ?_
      obtain ⟨s10, h, hq10⟩ := ob_some h
      obtain ⟨y9, e10⟩ : ∃ z, z = s10 := ⟨_, rfl⟩
      subst e10
      have hJ10 : AW Γ mX1_judgeRide 5 (0, 0) (85, τ) 0 0 81 [some (vR 19), some (vR a0), some (vI a1), some (vI y3), some (vI y5), some (vI x8)] [vI y9, vI y3, vI x8, vI (σ6 19 13), vR a0] (85, σ6) := by
        have h : X1_judgeRide_j81 n a0 σ6 x8 y3 y5 a1 y9 = some _ := hq10
        unfold X1_judgeRide_j81 at h
        obtain ⟨σ12, hc11, h⟩ := ob_some h
        refine AW.cV (n := 84) (as := [vI (σ6 19 13), vI x8, vI y3, vI y9]) (st := []) (st' := []) (uc' := 0) (us' := 0) (A_X9_keepRide hΓ hpa0 hc11) cf_X9_keepRide (isSw_ly0 hpa0) (by have := isSw_lt hpa0; omega) vc_9 (le45 rfl) wM_X1_220 (le45 rfl) (le45 rfl) (dat D_X1_judgeRide 43 rfl) rfl rfl (le45 rfl) (le45 rfl) rfl (fun _ => ?_) nlt0
        refine AW.aload_n (n := 85) (dat D_X1_judgeRide 44 rfl) rfl rfl ?_
        refine AW.dup (n := 86) (dat D_X1_judgeRide 45 rfl) rfl (cR _) ?_
        refine AW.getI (n := 89) fX1_7 wF_X1_75 ly_19 (le45 rfl) rfl rfl (dat D_X1_judgeRide 46 rfl) rfl ?_
        refine AW.iconst (n := 90) (dat D_X1_judgeRide 47 rfl) rfl ?_
        refine AW.iadd (n := 91) (dat D_X1_judgeRide 48 rfl) rfl ?_
        refine AW.putI (n := 94) fX1_7 wF_X1_75 ly_19 (le45 rfl) rfl rfl rfl (dat D_X1_judgeRide 49 rfl) rfl ?_
        refine AW.ltS h (fun σ13 h => ?_)
        refine AW.iload_n (n := 95) (dat D_X1_judgeRide 50 rfl) rfl rfl ?_
        obtain ⟨s15, h, hq15⟩ := ob_some h
        obtain ⟨σ14, e15⟩ : ∃ z, z = s15 := ⟨_, rfl⟩
        subst e15
        have hJ15 : AW Γ mX1_judgeRide 5 (0, 0) (85, τ) 0 0 147 [some (vR 19), some (vR a0), some (vI a1), none, none, some (vI x8)] [] (85, σ14) := by
          have h : X1_judgeRide_j147 n a1 x8 a0 σ14 = some _ := hq15
          unfold X1_judgeRide_j147 at h
          refine AW.iload (n := 149) (dat D_X1_judgeRide 81 rfl) rfl rfl ?_
          refine AW.aload_n (n := 150) (dat D_X1_judgeRide 82 rfl) rfl rfl ?_
          refine AW.getR (n := 153) (t := 37) fX1_4 wF_X1_38 ly_19 (le45 rfl) rfl (dat D_X1_judgeRide 83 rfl) rfl ?_
          refine AW.iload_n (n := 154) (dat D_X1_judgeRide 84 rfl) rfl rfl ?_
          refine AW.iconst (n := 155) (dat D_X1_judgeRide 85 rfl) rfl ?_
          refine AW.iadd (n := 156) (dat D_X1_judgeRide 86 rfl) rfl ?_
          refine AW.ialdH h (n := 157) rfl ly_37 (le45 rfl) (dat D_X1_judgeRide 87 rfl) rfl (fun j16 h => ?_)
          refine AW.icmp_leH (t := 182) (n := 160) h (dat D_X1_judgeRide 88 rfl) rfl rfl rfl rfl (fun h => ?_) (fun h => ?_)
          · cases h
            exact AW.vret rfl rfl rfl (dat D_X1_judgeRide 104 rfl)
          · refine AW.aload_n (n := 161) (dat D_X1_judgeRide 89 rfl) rfl rfl ?_
            refine AW.getR (n := 164) (t := 37) fX1_4 wF_X1_38 ly_19 (le45 rfl) rfl (dat D_X1_judgeRide 90 rfl) rfl ?_
            refine AW.iload_n (n := 165) (dat D_X1_judgeRide 91 rfl) rfl rfl ?_
            refine AW.iconst (n := 166) (dat D_X1_judgeRide 92 rfl) rfl ?_
            refine AW.iadd (n := 167) (dat D_X1_judgeRide 93 rfl) rfl ?_
            refine AW.iload (n := 169) (dat D_X1_judgeRide 94 rfl) rfl rfl ?_
            refine AW.iastH h (n := 170) rfl ly_37 (le45 rfl) (dat D_X1_judgeRide 95 rfl) rfl (fun j17 h => ?_)
            refine AW.ltS h (fun σ18 h => ?_)
            refine AW.aload_n (n := 171) (dat D_X1_judgeRide 96 rfl) rfl rfl ?_
            refine AW.getR (n := 174) (t := 37) fX1_4 wF_X1_38 ly_19 (le45 rfl) rfl (dat D_X1_judgeRide 97 rfl) rfl ?_
            refine AW.iload_n (n := 175) (dat D_X1_judgeRide 98 rfl) rfl rfl ?_
            refine AW.iconst (n := 176) (dat D_X1_judgeRide 99 rfl) rfl ?_
            refine AW.iadd (n := 177) (dat D_X1_judgeRide 100 rfl) rfl ?_
            refine AW.aload_n (n := 178) (dat D_X1_judgeRide 101 rfl) rfl rfl ?_
            refine AW.getI (n := 181) fX9_0 wF_X1_144 (isSw_ly0 hpa0) (by have := isSw_lt hpa0; omega) rfl rfl (dat D_X1_judgeRide 102 rfl) rfl ?_
            refine AW.iastH h (n := 182) rfl ly_37 (le45 rfl) (dat D_X1_judgeRide 103 rfl) rfl (fun j19 h => ?_)
            refine AW.ltS h (fun σ20 h => ?_)
            cases h
            exact AW.vret rfl rfl rfl (dat D_X1_judgeRide 104 rfl)
        refine AW.if_eqH (t := 123) (n := 98) h (dat D_X1_judgeRide 51 rfl) rfl rfl (fun h => ?_) (fun h => ?_)
        · refine AW.iload (n := 125) (dat D_X1_judgeRide 69 rfl) rfl rfl ?_
          refine AW.if_geH (t := 141) (n := 128) h (dat D_X1_judgeRide 70 rfl) rfl rfl (fun h => ?_) (fun h => ?_)
          · refine AW.aload_n (n := 142) (dat D_X1_judgeRide 78 rfl) rfl rfl ?_
            refine AW.iload (n := 144) (dat D_X1_judgeRide 79 rfl) rfl rfl ?_
            obtain ⟨σ22, hc21, h⟩ := ob_some h
            refine AW.cV (n := 147) (as := [vI x8]) (st := []) (st' := []) (uc' := 0) (us' := 0) (A_X1_keepSeen hΓ hc21) cf_X1_keepSeen ly_19 (le45 rfl) vc_1 (le45 rfl) wM_X1_227 (le45 rfl) (le45 rfl) (dat D_X1_judgeRide 80 rfl) rfl rfl (le45 rfl) (le45 rfl) rfl (fun _ => ?_) nlt0
            cases h
            exact AW.to hJ15 (lle_s rfl (lle_s rfl (lle_s rfl (lle_n (lle_n (lle_s rfl (lle_z)))))))
          · refine AW.aload_n (n := 129) (dat D_X1_judgeRide 71 rfl) rfl rfl ?_
            refine AW.dup (n := 130) (dat D_X1_judgeRide 72 rfl) rfl (cR _) ?_
            refine AW.getI (n := 133) fX1_8 wF_X1_78 ly_19 (le45 rfl) rfl rfl (dat D_X1_judgeRide 73 rfl) rfl ?_
            refine AW.iconst (n := 134) (dat D_X1_judgeRide 74 rfl) rfl ?_
            refine AW.iadd (n := 135) (dat D_X1_judgeRide 75 rfl) rfl ?_
            refine AW.putI (n := 138) fX1_8 wF_X1_78 ly_19 (le45 rfl) rfl rfl rfl (dat D_X1_judgeRide 76 rfl) rfl ?_
            refine AW.ltS h (fun σ23 h => ?_)
            refine AW.goto (t := 147) (dat D_X1_judgeRide 77 rfl) rfl ?_
            cases h
            exact AW.to hJ15 (lle_s rfl (lle_s rfl (lle_s rfl (lle_n (lle_n (lle_s rfl (lle_z)))))))
        · refine AW.aload_n (n := 99) (dat D_X1_judgeRide 52 rfl) rfl rfl ?_
          refine AW.dup (n := 100) (dat D_X1_judgeRide 53 rfl) rfl (cR _) ?_
          refine AW.getI (n := 103) fX9_9 wF_X1_224 (isSw_ly0 hpa0) (by have := isSw_lt hpa0; omega) rfl rfl (dat D_X1_judgeRide 54 rfl) rfl ?_
          refine AW.iconst (n := 104) (dat D_X1_judgeRide 55 rfl) rfl ?_
          refine AW.iadd (n := 105) (dat D_X1_judgeRide 56 rfl) rfl ?_
          refine AW.putI (n := 108) fX9_9 wF_X1_224 (isSw_ly0 hpa0) (by have := isSw_lt hpa0; omega) rfl rfl rfl (dat D_X1_judgeRide 57 rfl) rfl ?_
          refine AW.ltS h (fun σ24 h => ?_)
          refine AW.aload_n (n := 109) (dat D_X1_judgeRide 58 rfl) rfl rfl ?_
          refine AW.getR (n := 112) (t := 37) fX1_4 wF_X1_38 ly_19 (le45 rfl) rfl (dat D_X1_judgeRide 59 rfl) rfl ?_
          refine AW.iload_n (n := 113) (dat D_X1_judgeRide 60 rfl) rfl rfl ?_
          refine AW.iconst (n := 114) (dat D_X1_judgeRide 61 rfl) rfl ?_
          refine AW.iadd (n := 115) (dat D_X1_judgeRide 62 rfl) rfl ?_
          refine AW.dup2 (n := 116) (dat D_X1_judgeRide 63 rfl) rfl (cI _) (cR _) ?_
          refine AW.ialdH h (n := 117) rfl ly_37 (le45 rfl) (dat D_X1_judgeRide 64 rfl) rfl (fun j25 h => ?_)
          refine AW.iconst (n := 118) (dat D_X1_judgeRide 65 rfl) rfl ?_
          refine AW.iadd (n := 119) (dat D_X1_judgeRide 66 rfl) rfl ?_
          refine AW.iastH h (n := 120) rfl ly_37 (le45 rfl) (dat D_X1_judgeRide 67 rfl) rfl (fun j26 h => ?_)
          refine AW.ltS h (fun σ27 h => ?_)
          refine AW.goto (t := 147) (dat D_X1_judgeRide 68 rfl) rfl ?_
          cases h
          exact AW.to hJ15 (lle_s rfl (lle_s rfl (lle_s rfl (lle_n (lle_n (lle_s rfl (lle_z)))))))
      refine AW.if_geH (t := 80) (n := 74) h (dat D_X1_judgeRide 38 rfl) rfl rfl (fun h => ?_) (fun h => ?_)
      · refine AW.iconst (n := 81) (dat D_X1_judgeRide 42 rfl) rfl ?_
        cases h
        exact AW.to hJ10 (lle_s rfl (lle_s rfl (lle_s rfl (lle_s rfl (lle_s rfl (lle_s rfl (lle_z)))))))
      · refine AW.iload (n := 76) (dat D_X1_judgeRide 39 rfl) rfl rfl ?_
        refine AW.ineg (n := 77) (dat D_X1_judgeRide 40 rfl) rfl ?_
        refine AW.goto (t := 81) (dat D_X1_judgeRide 41 rfl) rfl ?_
        cases h
        exact AW.to hJ10 (lle_s rfl (lle_s rfl (lle_s rfl (lle_s rfl (lle_s rfl (lle_s rfl (lle_z)))))))
    refine AW.if_eqH (t := 30) (n := 26) h (dat D_X1_judgeRide 13 rfl) rfl rfl (fun h => ?_) (fun h => ?_)
    · refine AW.aload_n (n := 31) (dat D_X1_judgeRide 16 rfl) rfl rfl ?_
      refine AW.aload_n (n := 32) (dat D_X1_judgeRide 17 rfl) rfl rfl ?_
      refine AW.aload_n (n := 33) (dat D_X1_judgeRide 18 rfl) rfl rfl ?_
      refine AW.getI (n := 36) fX1_13 wF_X1_45 ly_19 (le45 rfl) rfl rfl (dat D_X1_judgeRide 19 rfl) rfl ?_
      refine AW.aload_n (n := 37) (dat D_X1_judgeRide 20 rfl) rfl rfl ?_
      refine AW.getI (n := 40) fX9_3 wF_X1_135 (isSw_ly0 hpa0) (by have := isSw_lt hpa0; omega) rfl rfl (dat D_X1_judgeRide 21 rfl) rfl ?_
      refine AW.aload_n (n := 41) (dat D_X1_judgeRide 22 rfl) rfl rfl ?_
      refine AW.getI (n := 44) fX9_13 wF_X1_156 (isSw_ly0 hpa0) (by have := isSw_lt hpa0; omega) rfl rfl (dat D_X1_judgeRide 23 rfl) rfl ?_
      refine AW.aload_n (n := 45) (dat D_X1_judgeRide 24 rfl) rfl rfl ?_
      refine AW.getI (n := 48) fX9_14 wF_X1_159 (isSw_ly0 hpa0) (by have := isSw_lt hpa0; omega) rfl rfl (dat D_X1_judgeRide 25 rfl) rfl ?_
      obtain ⟨v29, σ30, hc28, h⟩ := bnd2_some h
      refine AW.cV (n := 51) (as := [vR a0, vI (σ 19 13), vI (σ a0 3), vI (σ a0 13), vI (σ a0 14)]) (st := []) (st' := [vI v29]) (uc' := 0) (us' := 0) (A_X1_scoreOf hΓ hpa0 hc28) cf_X1_scoreOf ly_19 (le45 rfl) vc_1 (le45 rfl) wM_X1_213 (le45 rfl) (le45 rfl) (dat D_X1_judgeRide 26 rfl) rfl rfl (le45 rfl) (le45 rfl) rfl (fun _ => ?_) nlt0
      cases h
      exact AW.to hJ7 (lle_s rfl (lle_s rfl (lle_s rfl (lle_s rfl (lle_n (lle_n (lle_z)))))))
    · refine AW.iconst (n := 27) (dat D_X1_judgeRide 14 rfl) rfl ?_
      refine AW.goto (t := 51) (dat D_X1_judgeRide 15 rfl) rfl ?_
      cases h
      exact AW.to hJ7 (lle_s rfl (lle_s rfl (lle_s rfl (lle_s rfl (lle_n (lle_n (lle_z)))))))
  refine AW.if_eqH (t := 20) (n := 16) h (dat D_X1_judgeRide 7 rfl) rfl rfl (fun h => ?_) (fun h => ?_)
  · refine AW.iconst (n := 21) (dat D_X1_judgeRide 10 rfl) rfl ?_
    cases h
    exact AW.to hJ4 (lle_s rfl (lle_s rfl (lle_s rfl (lle_n (lle_n (lle_n (lle_z)))))))
  · refine AW.iconst (n := 17) (dat D_X1_judgeRide 8 rfl) rfl ?_
    refine AW.goto (t := 21) (dat D_X1_judgeRide 9 rfl) rfl ?_
    cases h
    exact AW.to hJ4 (lle_s rfl (lle_s rfl (lle_s rfl (lle_n (lle_n (lle_n (lle_z)))))))
def L_X9_minutesFor : List (Nat × Instr × Nat) := [(0, .aload_n 0, 1), (1, .getfield 15, 3), (4, .iconst 1, 1), (5, .if_icmp .ge 7, 3), (8, .iconst 0, 1), (9, .goto 16, 3), (12, .iload_n 1, 1), (13, .aload_n 0, 1), (14, .getfield 15, 3), (17, .iadd, 1), (18, .iconst 1, 1), (19, .isub, 1), (20, .aload_n 0, 1), (21, .getfield 15, 3), (24, .idiv, 1), (25, .ireturn, 1)]
theorem D_X9_minutesFor : dOK cX9_minutesFor L_X9_minutesFor = true := by decide +kernel
theorem cf_X9_minutesFor : CFV mX9_minutesFor 1 := ⟨wI_X9_minutesFor, wS_X9_minutesFor, wN_WaveRight_Swimmer, wC_X9_minutesFor, rfl, ⟨by decide +kernel, by decide +kernel, by decide +kernel⟩, le45 rfl⟩
def X9_minutesFor (n : Nat) (k : Nat) (a0 : Int) (σ : SG) : Option (Int) :=
  if 1 ≤ w32 (σ k 5) then
    if w32 (σ k 5) = 0 then none else
    some ((dv32 ((a0 + (σ k 5)) - 1) (σ k 5)))
  else
    some (0)
set_option maxHeartbeats 4000000 in
set_option maxRecDepth 100000 in
theorem A_X9_minutesFor {Γ : GA} (hΓ : (gl Γ).stackTraces = false) {n : Nat} {k : Nat} {a0 : Int} {σ : SG} {r : Int} (hpk : isSw k = true) (h : X9_minutesFor n k a0 σ = some r) : AM Γ mX9_minutesFor 1 0 0 [vR k, vI a0] (85, σ) (0, r) (85, σ) := by
  refine AM.of pl_X9 rfl wC_X9_minutesFor (le45 rfl) hΓ ?_
  refine AW.to (ls'' := [some (vR k), some (vI a0)]) ?_ (lle_s rfl (lle_s rfl (lle_z)))
  unfold X9_minutesFor at h
  refine AW.aload_n (n := 1) (dat D_X9_minutesFor 0 rfl) rfl rfl ?_
  refine AW.getI (n := 4) fX9_5 wF_X9_15 (isSw_ly0 hpk) (by have := isSw_lt hpk; omega) rfl rfl (dat D_X9_minutesFor 1 rfl) rfl ?_
  refine AW.iconst (n := 5) (dat D_X9_minutesFor 2 rfl) rfl ?_
  refine AW.icmp_geH (t := 12) (n := 8) h (dat D_X9_minutesFor 3 rfl) rfl rfl rfl (by decide) (fun h => ?_) (fun h => ?_)
  · refine AW.iload_n (n := 13) (dat D_X9_minutesFor 6 rfl) rfl rfl ?_
    refine AW.aload_n (n := 14) (dat D_X9_minutesFor 7 rfl) rfl rfl ?_
    refine AW.getI (n := 17) fX9_5 wF_X9_15 (isSw_ly0 hpk) (by have := isSw_lt hpk; omega) rfl rfl (dat D_X9_minutesFor 8 rfl) rfl ?_
    refine AW.iadd (n := 18) (dat D_X9_minutesFor 9 rfl) rfl ?_
    refine AW.iconst (n := 19) (dat D_X9_minutesFor 10 rfl) rfl ?_
    refine AW.isub (n := 20) (dat D_X9_minutesFor 11 rfl) rfl ?_
    refine AW.aload_n (n := 21) (dat D_X9_minutesFor 12 rfl) rfl rfl ?_
    refine AW.getI (n := 24) fX9_5 wF_X9_15 (isSw_ly0 hpk) (by have := isSw_lt hpk; omega) rfl rfl (dat D_X9_minutesFor 13 rfl) rfl ?_
    obtain ⟨q1, h⟩ := ite_n h
    refine AW.idiv (n := 25) (dat D_X9_minutesFor 14 rfl) rfl q1 ?_
    cases h
    exact AW.iret rfl rfl rfl (dat D_X9_minutesFor 15 rfl)
  · refine AW.iconst (n := 9) (dat D_X9_minutesFor 4 rfl) rfl ?_
    refine AW.goto (t := 25) (dat D_X9_minutesFor 5 rfl) rfl ?_
    cases h
    exact AW.iret rfl rfl rfl (dat D_X9_minutesFor 15 rfl)
def L_X9_sentIn : List (Nat × Instr × Nat) := [(0, .aload_n 0, 1), (1, .getfield 38, 3), (4, .iconst 2, 1), (5, .if_icmp .lt 7, 3), (8, .iconst 1, 1), (9, .goto 4, 3), (12, .iconst 0, 1), (13, .ireturn, 1)]
theorem D_X9_sentIn : dOK cX9_sentIn L_X9_sentIn = true := by decide +kernel
theorem cf_X9_sentIn : CFV mX9_sentIn 0 := ⟨wI_X9_sentIn, wS_X9_sentIn, wN_WaveRight_Swimmer, wC_X9_sentIn, rfl, ⟨by decide +kernel, by decide +kernel, by decide +kernel⟩, le45 rfl⟩
def X9_sentIn (n : Nat) (k : Nat) (σ : SG) : Option (Int) :=
  if w32 (σ k 9) < 2 then
    some (0)
  else
    some (1)
set_option maxHeartbeats 4000000 in
set_option maxRecDepth 100000 in
theorem A_X9_sentIn {Γ : GA} (hΓ : (gl Γ).stackTraces = false) {n : Nat} {k : Nat} {σ : SG} {r : Int} (hpk : isSw k = true) (h : X9_sentIn n k σ = some r) : AM Γ mX9_sentIn 1 0 0 [vR k] (85, σ) (0, r) (85, σ) := by
  refine AM.of pl_X9 rfl wC_X9_sentIn (le45 rfl) hΓ ?_
  refine AW.to (ls'' := [some (vR k)]) ?_ (lle_s rfl (lle_z))
  unfold X9_sentIn at h
  refine AW.aload_n (n := 1) (dat D_X9_sentIn 0 rfl) rfl rfl ?_
  refine AW.getI (n := 4) fX9_9 wF_X9_38 (isSw_ly0 hpk) (by have := isSw_lt hpk; omega) rfl rfl (dat D_X9_sentIn 1 rfl) rfl ?_
  refine AW.iconst (n := 5) (dat D_X9_sentIn 2 rfl) rfl ?_
  refine AW.icmp_ltH (t := 12) (n := 8) h (dat D_X9_sentIn 3 rfl) rfl rfl rfl (by decide) (fun h => ?_) (fun h => ?_)
  · refine AW.iconst (n := 13) (dat D_X9_sentIn 6 rfl) rfl ?_
    cases h
    exact AW.zret rfl (by decide) rfl rfl (dat D_X9_sentIn 7 rfl)
  · refine AW.iconst (n := 9) (dat D_X9_sentIn 4 rfl) rfl ?_
    refine AW.goto (t := 13) (dat D_X9_sentIn 5 rfl) rfl ?_
    cases h
    exact AW.zret rfl (by decide) rfl rfl (dat D_X9_sentIn 7 rfl)
def L_X1_leaveWave : List (Nat × Instr × Nat) := [(0, .iconst 0, 1), (1, .istore_n 1, 1), (2, .iload_n 1, 1), (3, .aload_n 0, 1), (4, .getfield 12, 3), (7, .getfield 56, 3), (10, .if_icmp .ge 58, 3), (13, .aload_n 0, 1), (14, .getfield 27, 3), (17, .iload_n 1, 1), (18, .aaload, 1), (19, .astore_n 2, 1), (20, .aload_n 2, 1), (21, .getfield 150, 3), (24, .ifCond .eq 38, 3), (27, .aload_n 2, 1), (28, .iconst 0, 1), (29, .putfield 150, 3), (32, .aload_n 2, 1), (33, .aload_n 2, 1), (34, .invokevirtual 230, 3), (37, .ifCond .eq 7, 3), (40, .iconst (-1), 1), (41, .goto 18, 3), (44, .aload_n 0, 1), (45, .getfield 81, 3), (48, .iconst 1, 1), (49, .iadd, 1), (50, .aload_n 2, 1), (51, .aload_n 2, 1), (52, .getfield 156, 3), (55, .invokevirtual 234, 3), (58, .iadd, 1), (59, .putfield 132, 3), (62, .iinc 1 1, 3), (65, .goto (-63), 3), (68, .return_, 1)]
theorem D_X1_leaveWave : dOK cX1_leaveWave L_X1_leaveWave = true := by decide +kernel
theorem cf_X1_leaveWave : CFV mX1_leaveWave 0 := ⟨wI_X1_leaveWave, wS_X1_leaveWave, wN_WaveRight_Heat, wC_X1_leaveWave, rfl, ⟨by decide +kernel, by decide +kernel, by decide +kernel⟩, le45 rfl⟩
def X1_leaveWave_e2 (n : Nat) (σ4 : SG) : Option (SG) :=
  some (σ4)
def X1_leaveWave_j62 (n : Nat) (z1 : Int) (σ8 : SG) : Option ((Int × SG) ⊕ (SG)) :=
  lt (z1 + 1) fun x10 =>
  some (.inl (x10, σ8))
def X1_leaveWave_j59 (n : Nat) (σ11 : SG) (k7 : Nat) (y14 : Int) : Option (SG) :=
  lt (up σ11 k7 8 y14) fun σ16 =>
  some (σ16)
def X1_leaveWave_l2 (n : Nat) (z1 : Int) (σ2 : SG) : Option ((Int × SG) ⊕ (SG)) :=
  ckR isSea (σ2 19 0) fun k5 =>
  if w32 (σ2 k5 5) ≤ w32 z1 then
    some (.inr σ2)
  else
    rdA 5 z1 fun j6 => ckR isSw (σ2 34 j6) fun k7 =>
    ((if w32 (σ2 k7 7) = 0 then
      some (σ2)
    else
      lt (up σ2 k7 7 0) fun σ11 =>
      (X9_sentIn n k7 σ11).bind fun v13 =>
      ((if w32 v13 = 0 then
        (X9_minutesFor n k7 (σ11 k7 13) σ11).bind fun v18 =>
        some ((((σ11 19 9) + 1) + v18))
      else
        some ((-1))) : Option (Int)).bind (fun s => X1_leaveWave_j59 n σ11 k7 s)) : Option (SG)).bind (fun s => X1_leaveWave_j62 n z1 s)
def X1_leaveWave (n : Nat) (σ : SG) : Option (SG) :=
  ((iter n (fun s : Int × SG => X1_leaveWave_l2 n s.1 s.2) (0, σ)) : Option (SG)).bind (fun s => X1_leaveWave_e2 n s)
set_option maxHeartbeats 4000000 in
set_option maxRecDepth 100000 in
theorem A_X1_leaveWave {Γ : GA} (hΓ : (gl Γ).stackTraces = false) {n : Nat} {σ : SG} {τ : SG}  (h : X1_leaveWave n σ = some τ) : AM Γ mX1_leaveWave 2 0 0 [vR 19] (85, σ) (0, 0) (85, τ) := by
  refine AM.of pl_X1 rfl wC_X1_leaveWave (le45 rfl) hΓ ?_
  refine AW.to (ls'' := [some (vR 19), none, none]) ?_ (lle_s rfl (lle_e (lle_e (lle_z))))
  unfold X1_leaveWave at h
  refine AW.iconst (n := 1) (dat D_X1_leaveWave 0 rfl) rfl ?_
  refine AW.istore_n (n := 2) (ls' := [some (vR 19), some (vI 0), none]) (dat D_X1_leaveWave 1 rfl) rfl (le45 rfl) (le45 rfl) rfl rfl ?_
  obtain ⟨b3, hi3, hq3⟩ := ob_some h
  obtain ⟨σ4, e3⟩ : ∃ z, z = b3 := ⟨_, rfl⟩
  subst e3
  have hR3 : AW Γ mX1_leaveWave 2 (0, 0) (85, τ) 0 0 68 [none, none, none] [] (85, σ4) := by
    have h : X1_leaveWave_e2 n σ4 = some _ := hq3
    unfold X1_leaveWave_e2 at h
    cases h
    exact AW.vret rfl rfl rfl (dat D_X1_leaveWave 36 rfl)
  refine AW.to (ls'' := [some (vR 19), some (vI 0), none]) ?_ (lle_s rfl (lle_s rfl (lle_n (lle_z))))
  refine aw_iter (fun s : Int × SG => AW Γ mX1_leaveWave 2 (0, 0) (85, τ) 0 0 2 [some (vR 19), some (vI (s.1)), none] [] (85, s.2)) (fun s y h hk3 hb3 => ?_) _ _ hi3
  obtain ⟨z1, σ2⟩ := s
  show AW Γ mX1_leaveWave 2 (0, 0) (85, τ) 0 0 2 [some (vR 19), some (vI z1), none] [] (85, σ2)
  have h : X1_leaveWave_l2 n z1 σ2 = some y := h
  unfold X1_leaveWave_l2 at h
  refine AW.iload_n (n := 3) (dat D_X1_leaveWave 2 rfl) rfl rfl ?_
  refine AW.aload_n (n := 4) (dat D_X1_leaveWave 3 rfl) rfl rfl ?_
  refine AW.getQH h (n := 7) fX1_0 wF_X1_12 ly_19 (le45 rfl) rfl rfl (dat D_X1_leaveWave 4 rfl) rfl (fun k5 hpk5 h => ?_)
  refine AW.getI (n := 10) fX6_5 wF_X1_56 (isSea_ly0 hpk5) (by have := isSea_lt hpk5; omega) rfl rfl (dat D_X1_leaveWave 5 rfl) rfl ?_
  refine AW.icmp_geH (t := 68) (n := 13) h (dat D_X1_leaveWave 6 rfl) rfl rfl rfl rfl (fun h => ?_) (fun h => ?_)
  · cases h
    have hb := hb3 _ rfl
    cases hb
    exact AW.to hR3 (lle_n (lle_n (lle_n (lle_z))))
  · refine AW.aload_n (n := 14) (dat D_X1_leaveWave 7 rfl) rfl rfl ?_
    refine AW.getR (n := 17) (t := 34) fX1_2 wF_X1_27 ly_19 (le45 rfl) rfl (dat D_X1_leaveWave 8 rfl) rfl ?_
    refine AW.iload_n (n := 18) (dat D_X1_leaveWave 9 rfl) rfl rfl ?_
    refine AW.aaldH h (n := 19) rfl ly_34 (le45 rfl) (dat D_X1_leaveWave 10 rfl) rfl (fun j6 k7 hpk7 h => ?_)
    refine AW.astore_n (n := 20) (ls' := [some (vR 19), some (vI z1), some (vR k7)]) (dat D_X1_leaveWave 11 rfl) rfl (le45 rfl) (le45 rfl) rfl rfl ?_
    refine AW.aload_n (n := 21) (dat D_X1_leaveWave 12 rfl) rfl rfl ?_
    refine AW.getI (n := 24) fX9_7 wF_X1_150 (isSw_ly0 hpk7) (by have := isSw_lt hpk7; omega) rfl rfl (dat D_X1_leaveWave 13 rfl) rfl ?_
    obtain ⟨s9, h, hq9⟩ := ob_some h
    obtain ⟨σ8, e9⟩ : ∃ z, z = s9 := ⟨_, rfl⟩
    subst e9
    have hJ9 : AW Γ mX1_leaveWave 2 (0, 0) (85, τ) 0 0 62 [some (vR 19), some (vI z1), none] [] (85, σ8) := by
      have h : X1_leaveWave_j62 n z1 σ8 = some _ := hq9
      unfold X1_leaveWave_j62 at h
      refine AW.iincH h (n := 65) (dat D_X1_leaveWave 34 rfl) rfl rfl (le45 rfl) rfl (fun x10 h => ?_)
      refine AW.lq (ls' := [some (vR 19), some (vI x10), none]) rfl ?_
      refine AW.goto (t := 2) (dat D_X1_leaveWave 35 rfl) rfl ?_
      cases h
      exact AW.to (hk3 _ rfl) (lle_s rfl (lle_s rfl (lle_n (lle_z))))
    refine AW.if_eqH (t := 62) (n := 27) h (dat D_X1_leaveWave 14 rfl) rfl rfl (fun h => ?_) (fun h => ?_)
    · cases h
      exact AW.to hJ9 (lle_s rfl (lle_s rfl (lle_n (lle_z))))
    · refine AW.aload_n (n := 28) (dat D_X1_leaveWave 15 rfl) rfl rfl ?_
      refine AW.iconst (n := 29) (dat D_X1_leaveWave 16 rfl) rfl ?_
      refine AW.putZ (n := 32) (Or.inl rfl) fX9_7 wF_X1_150 (isSw_ly0 hpk7) (by have := isSw_lt hpk7; omega) rfl rfl rfl (dat D_X1_leaveWave 17 rfl) rfl ?_
      refine AW.ltS h (fun σ11 h => ?_)
      refine AW.aload_n (n := 33) (dat D_X1_leaveWave 18 rfl) rfl rfl ?_
      refine AW.aload_n (n := 34) (dat D_X1_leaveWave 19 rfl) rfl rfl ?_
      obtain ⟨v13, hc12, h⟩ := ob_some h
      refine AW.cV (n := 37) (as := []) (st := [vR k7]) (st' := [vI v13, vR k7]) (uc' := 0) (us' := 0) (A_X9_sentIn hΓ hpk7 hc12) cf_X9_sentIn (isSw_ly0 hpk7) (by have := isSw_lt hpk7; omega) vc_9 (le45 rfl) wM_X1_230 (le45 rfl) (le45 rfl) (dat D_X1_leaveWave 20 rfl) rfl rfl (le45 rfl) (le45 rfl) rfl (fun _ => ?_) nlt0
      obtain ⟨s15, h, hq15⟩ := ob_some h
      obtain ⟨y14, e15⟩ : ∃ z, z = s15 := ⟨_, rfl⟩
      subst e15
      have hJ15 : AW Γ mX1_leaveWave 2 (0, 0) (85, τ) 0 0 59 [some (vR 19), some (vI z1), none] [vI y14, vR k7] (85, σ11) := by
        have h : X1_leaveWave_j59 n σ11 k7 y14 = some _ := hq15
        unfold X1_leaveWave_j59 at h
        refine AW.putI (n := 62) fX9_8 wF_X1_132 (isSw_ly0 hpk7) (by have := isSw_lt hpk7; omega) rfl rfl rfl (dat D_X1_leaveWave 33 rfl) rfl ?_
        refine AW.ltS h (fun σ16 h => ?_)
        cases h
        exact AW.to hJ9 (lle_s rfl (lle_s rfl (lle_n (lle_z))))
      refine AW.if_eqH (t := 44) (n := 40) h (dat D_X1_leaveWave 21 rfl) rfl rfl (fun h => ?_) (fun h => ?_)
      · refine AW.aload_n (n := 45) (dat D_X1_leaveWave 24 rfl) rfl rfl ?_
        refine AW.getI (n := 48) fX1_9 wF_X1_81 ly_19 (le45 rfl) rfl rfl (dat D_X1_leaveWave 25 rfl) rfl ?_
        refine AW.iconst (n := 49) (dat D_X1_leaveWave 26 rfl) rfl ?_
        refine AW.iadd (n := 50) (dat D_X1_leaveWave 27 rfl) rfl ?_
        refine AW.aload_n (n := 51) (dat D_X1_leaveWave 28 rfl) rfl rfl ?_
        refine AW.aload_n (n := 52) (dat D_X1_leaveWave 29 rfl) rfl rfl ?_
        refine AW.getI (n := 55) fX9_13 wF_X1_156 (isSw_ly0 hpk7) (by have := isSw_lt hpk7; omega) rfl rfl (dat D_X1_leaveWave 30 rfl) rfl ?_
        obtain ⟨v18, hc17, h⟩ := ob_some h
        refine AW.cV (n := 58) (as := [vI (σ11 k7 13)]) (st := [vI ((σ11 19 9) + 1), vR k7]) (st' := [vI v18, vI ((σ11 19 9) + 1), vR k7]) (uc' := 0) (us' := 0) (A_X9_minutesFor hΓ hpk7 hc17) cf_X9_minutesFor (isSw_ly0 hpk7) (by have := isSw_lt hpk7; omega) vc_9 (le45 rfl) wM_X1_234 (le45 rfl) (le45 rfl) (dat D_X1_leaveWave 31 rfl) rfl rfl (le45 rfl) (le45 rfl) rfl (fun _ => ?_) nlt0
        refine AW.iadd (n := 59) (dat D_X1_leaveWave 32 rfl) rfl ?_
        cases h
        exact AW.to hJ15 (lle_s rfl (lle_s rfl (lle_n (lle_z))))
      · refine AW.iconst (n := 41) (dat D_X1_leaveWave 22 rfl) rfl ?_
        refine AW.goto (t := 59) (dat D_X1_leaveWave 23 rfl) rfl ?_
        cases h
        exact AW.to hJ15 (lle_s rfl (lle_s rfl (lle_n (lle_z))))
def L_X5_add : List (Nat × Instr × Nat) := [(0, .aload_n 0, 1), (1, .getfield 15, 3), (4, .aload_n 0, 1), (5, .getfield 9, 3), (8, .arraylength, 1), (9, .if_icmp .ge 20, 3), (12, .aload_n 0, 1), (13, .getfield 9, 3), (16, .aload_n 0, 1), (17, .dup, 1), (18, .getfield 15, 3), (21, .dup_x1, 1), (22, .iconst 1, 1), (23, .iadd, 1), (24, .putfield 15, 3), (27, .iload_n 1, 1), (28, .iastore, 1), (29, .return_, 1)]
theorem D_X5_add : dOK cX5_add L_X5_add = true := by decide +kernel
theorem cf_X5_add : CFV mX5_add 1 := ⟨wI_X5_add, wS_X5_add, wN_WaveRight_Row, wC_X5_add, rfl, ⟨by decide +kernel, by decide +kernel, by decide +kernel⟩, le45 rfl⟩
def X5_add (n : Nat) (a0 : Int) (σ : SG) : Option (SG) :=
  if 5 ≤ w32 (σ 35 1) then
    some (σ)
  else
    lt (up σ 35 1 ((σ 35 1) + 1)) fun σ1 =>
    rdA 5 (σ 35 1) fun j2 => lt (up σ1 36 j2 a0) fun σ3 =>
    some (σ3)
set_option maxHeartbeats 4000000 in
set_option maxRecDepth 100000 in
theorem A_X5_add {Γ : GA} (hΓ : (gl Γ).stackTraces = false) {n : Nat} {a0 : Int} {σ : SG} {τ : SG}  (h : X5_add n a0 σ = some τ) : AM Γ mX5_add 1 0 0 [vR 35, vI a0] (85, σ) (0, 0) (85, τ) := by
  refine AM.of pl_X5 rfl wC_X5_add (le45 rfl) hΓ ?_
  refine AW.to (ls'' := [some (vR 35), some (vI a0)]) ?_ (lle_s rfl (lle_s rfl (lle_z)))
  unfold X5_add at h
  refine AW.aload_n (n := 1) (dat D_X5_add 0 rfl) rfl rfl ?_
  refine AW.getI (n := 4) fX5_1 wF_X5_15 ly_35 (le45 rfl) rfl rfl (dat D_X5_add 1 rfl) rfl ?_
  refine AW.aload_n (n := 5) (dat D_X5_add 2 rfl) rfl rfl ?_
  refine AW.getR (n := 8) (t := 36) fX5_0 wF_X5_9 ly_35 (le45 rfl) rfl (dat D_X5_add 3 rfl) rfl ?_
  refine AW.alen20 (n := 9) (x := 5) ly_36 (le45 rfl) rfl (dat D_X5_add 4 rfl) rfl ?_
  refine AW.icmp_geH (t := 29) (n := 12) h (dat D_X5_add 5 rfl) rfl rfl rfl (by decide) (fun h => ?_) (fun h => ?_)
  · cases h
    exact AW.vret rfl rfl rfl (dat D_X5_add 17 rfl)
  · refine AW.aload_n (n := 13) (dat D_X5_add 6 rfl) rfl rfl ?_
    refine AW.getR (n := 16) (t := 36) fX5_0 wF_X5_9 ly_35 (le45 rfl) rfl (dat D_X5_add 7 rfl) rfl ?_
    refine AW.aload_n (n := 17) (dat D_X5_add 8 rfl) rfl rfl ?_
    refine AW.dup (n := 18) (dat D_X5_add 9 rfl) rfl (cR _) ?_
    refine AW.getI (n := 21) fX5_1 wF_X5_15 ly_35 (le45 rfl) rfl rfl (dat D_X5_add 10 rfl) rfl ?_
    refine AW.dup_x1 (n := 22) (dat D_X5_add 11 rfl) rfl (cI _) (cR _) ?_
    refine AW.iconst (n := 23) (dat D_X5_add 12 rfl) rfl ?_
    refine AW.iadd (n := 24) (dat D_X5_add 13 rfl) rfl ?_
    refine AW.putI (n := 27) fX5_1 wF_X5_15 ly_35 (le45 rfl) rfl rfl rfl (dat D_X5_add 14 rfl) rfl ?_
    refine AW.ltS h (fun σ1 h => ?_)
    refine AW.iload_n (n := 28) (dat D_X5_add 15 rfl) rfl rfl ?_
    refine AW.iastH h (n := 29) rfl ly_36 (le45 rfl) (dat D_X5_add 16 rfl) rfl (fun j2 h => ?_)
    refine AW.ltS h (fun σ3 h => ?_)
    cases h
    exact AW.vret rfl rfl rfl (dat D_X5_add 17 rfl)
def L_X5_leave : List (Nat × Instr × Nat) := [(0, .iconst 0, 1), (1, .istore_n 2, 1), (2, .iconst 0, 1), (3, .istore_n 3, 1), (4, .iload_n 3, 1), (5, .aload_n 0, 1), (6, .getfield 15, 3), (9, .if_icmp .ge 34, 3), (12, .aload_n 0, 1), (13, .getfield 9, 3), (16, .iload_n 3, 1), (17, .iaload, 1), (18, .iload_n 1, 1), (19, .if_icmp .eq 18, 3), (22, .aload_n 0, 1), (23, .getfield 9, 3), (26, .iload_n 2, 1), (27, .iinc 2 1, 3), (30, .aload_n 0, 1), (31, .getfield 9, 3), (34, .iload_n 3, 1), (35, .iaload, 1), (36, .iastore, 1), (37, .iinc 3 1, 3), (40, .goto (-36), 3), (43, .aload_n 0, 1), (44, .iload_n 2, 1), (45, .putfield 15, 3), (48, .return_, 1)]
theorem D_X5_leave : dOK cX5_leave L_X5_leave = true := by decide +kernel
theorem cf_X5_leave : CFV mX5_leave 1 := ⟨wI_X5_leave, wS_X5_leave, wN_WaveRight_Row, wC_X5_leave, rfl, ⟨by decide +kernel, by decide +kernel, by decide +kernel⟩, le45 rfl⟩
def X5_leave_e4 (n : Nat) (e5 : Int) (σ6 : SG) : Option (SG) :=
  lt (up σ6 35 1 e5) fun σ7 =>
  some (σ7)
def X5_leave_j37 (n : Nat) (z2 : Int) (y9 : Int) (σ10 : SG) : Option ((Int × Int × SG) ⊕ (Int × SG)) :=
  lt (z2 + 1) fun x12 =>
  some (.inl (y9, x12, σ10))
def X5_leave_l4 (n : Nat) (a0 : Int) (z1 : Int) (z2 : Int) (σ3 : SG) : Option ((Int × Int × SG) ⊕ (Int × SG)) :=
  if w32 (σ3 35 1) ≤ w32 z2 then
    some (.inr (z1, σ3))
  else
    rdA 5 z2 fun j8 =>
    ((if w32 (σ3 36 j8) = w32 a0 then
      some ((z1, σ3))
    else
      lt (z1 + 1) fun x13 =>
      rdA 5 z2 fun j14 =>
      rdA 5 z1 fun j15 => lt (up σ3 36 j15 (σ3 36 j14)) fun σ16 =>
      some ((x13, σ16))) : Option (Int × SG)).bind (fun s => X5_leave_j37 n z2 s.1 s.2)
def X5_leave (n : Nat) (a0 : Int) (σ : SG) : Option (SG) :=
  ((iter n (fun s : Int × Int × SG => X5_leave_l4 n a0 s.1 s.2.1 s.2.2) (0, 0, σ)) : Option (Int × SG)).bind (fun s => X5_leave_e4 n s.1 s.2)
set_option maxHeartbeats 4000000 in
set_option maxRecDepth 100000 in
theorem A_X5_leave {Γ : GA} (hΓ : (gl Γ).stackTraces = false) {n : Nat} {a0 : Int} {σ : SG} {τ : SG}  (h : X5_leave n a0 σ = some τ) : AM Γ mX5_leave 1 0 0 [vR 35, vI a0] (85, σ) (0, 0) (85, τ) := by
  refine AM.of pl_X5 rfl wC_X5_leave (le45 rfl) hΓ ?_
  refine AW.to (ls'' := [some (vR 35), some (vI a0), none, none]) ?_ (lle_s rfl (lle_s rfl (lle_e (lle_e (lle_z)))))
  unfold X5_leave at h
  refine AW.iconst (n := 1) (dat D_X5_leave 0 rfl) rfl ?_
  refine AW.istore_n (n := 2) (ls' := [some (vR 35), some (vI a0), some (vI 0), none]) (dat D_X5_leave 1 rfl) rfl (le45 rfl) (le45 rfl) rfl rfl ?_
  refine AW.iconst (n := 3) (dat D_X5_leave 2 rfl) rfl ?_
  refine AW.istore_n (n := 4) (ls' := [some (vR 35), some (vI a0), some (vI 0), some (vI 0)]) (dat D_X5_leave 3 rfl) rfl (le45 rfl) (le45 rfl) rfl rfl ?_
  obtain ⟨b4, hi4, hq4⟩ := ob_some h
  obtain ⟨e5, σ6⟩ := b4
  have hR4 : AW Γ mX5_leave 1 (0, 0) (85, τ) 0 0 43 [some (vR 35), none, some (vI e5), none] [] (85, σ6) := by
    have h : X5_leave_e4 n e5 σ6 = some _ := hq4
    unfold X5_leave_e4 at h
    refine AW.aload_n (n := 44) (dat D_X5_leave 25 rfl) rfl rfl ?_
    refine AW.iload_n (n := 45) (dat D_X5_leave 26 rfl) rfl rfl ?_
    refine AW.putI (n := 48) fX5_1 wF_X5_15 ly_35 (le45 rfl) rfl rfl rfl (dat D_X5_leave 27 rfl) rfl ?_
    refine AW.ltS h (fun σ7 h => ?_)
    cases h
    exact AW.vret rfl rfl rfl (dat D_X5_leave 28 rfl)
  refine AW.to (ls'' := [some (vR 35), some (vI a0), some (vI 0), some (vI 0)]) ?_ (lle_s rfl (lle_s rfl (lle_s rfl (lle_s rfl (lle_z)))))
  refine aw_iter (fun s : Int × Int × SG => AW Γ mX5_leave 1 (0, 0) (85, τ) 0 0 4 [some (vR 35), some (vI a0), some (vI (s.1)), some (vI (s.2.1))] [] (85, s.2.2)) (fun s y h hk4 hb4 => ?_) _ _ hi4
  obtain ⟨z1, z2, σ3⟩ := s
  show AW Γ mX5_leave 1 (0, 0) (85, τ) 0 0 4 [some (vR 35), some (vI a0), some (vI z1), some (vI z2)] [] (85, σ3)
  have h : X5_leave_l4 n a0 z1 z2 σ3 = some y := h
  unfold X5_leave_l4 at h
  refine AW.iload_n (n := 5) (dat D_X5_leave 4 rfl) rfl rfl ?_
  refine AW.aload_n (n := 6) (dat D_X5_leave 5 rfl) rfl rfl ?_
  refine AW.getI (n := 9) fX5_1 wF_X5_15 ly_35 (le45 rfl) rfl rfl (dat D_X5_leave 6 rfl) rfl ?_
  refine AW.icmp_geH (t := 43) (n := 12) h (dat D_X5_leave 7 rfl) rfl rfl rfl rfl (fun h => ?_) (fun h => ?_)
  · cases h
    have hb := hb4 _ rfl
    cases hb
    exact AW.to hR4 (lle_s rfl (lle_n (lle_s rfl (lle_n (lle_z)))))
  · refine AW.aload_n (n := 13) (dat D_X5_leave 8 rfl) rfl rfl ?_
    refine AW.getR (n := 16) (t := 36) fX5_0 wF_X5_9 ly_35 (le45 rfl) rfl (dat D_X5_leave 9 rfl) rfl ?_
    refine AW.iload_n (n := 17) (dat D_X5_leave 10 rfl) rfl rfl ?_
    refine AW.ialdH h (n := 18) rfl ly_36 (le45 rfl) (dat D_X5_leave 11 rfl) rfl (fun j8 h => ?_)
    refine AW.iload_n (n := 19) (dat D_X5_leave 12 rfl) rfl rfl ?_
    obtain ⟨s11, h, hq11⟩ := ob_some h
    obtain ⟨y9, σ10⟩ := s11
    have hJ11 : AW Γ mX5_leave 1 (0, 0) (85, τ) 0 0 37 [some (vR 35), some (vI a0), some (vI y9), some (vI z2)] [] (85, σ10) := by
      have h : X5_leave_j37 n z2 y9 σ10 = some _ := hq11
      unfold X5_leave_j37 at h
      refine AW.iincH h (n := 40) (dat D_X5_leave 23 rfl) rfl rfl (le45 rfl) rfl (fun x12 h => ?_)
      refine AW.lq (ls' := [some (vR 35), some (vI a0), some (vI y9), some (vI x12)]) rfl ?_
      refine AW.goto (t := 4) (dat D_X5_leave 24 rfl) rfl ?_
      cases h
      exact AW.to (hk4 _ rfl) (lle_s rfl (lle_s rfl (lle_s rfl (lle_s rfl (lle_z)))))
    refine AW.icmp_eqH (t := 37) (n := 22) h (dat D_X5_leave 13 rfl) rfl rfl rfl rfl (fun h => ?_) (fun h => ?_)
    · cases h
      exact AW.to hJ11 (lle_s rfl (lle_s rfl (lle_s rfl (lle_s rfl (lle_z)))))
    · refine AW.aload_n (n := 23) (dat D_X5_leave 14 rfl) rfl rfl ?_
      refine AW.getR (n := 26) (t := 36) fX5_0 wF_X5_9 ly_35 (le45 rfl) rfl (dat D_X5_leave 15 rfl) rfl ?_
      refine AW.iload_n (n := 27) (dat D_X5_leave 16 rfl) rfl rfl ?_
      refine AW.iincH h (n := 30) (dat D_X5_leave 17 rfl) rfl rfl (le45 rfl) rfl (fun x13 h => ?_)
      refine AW.lq (ls' := [some (vR 35), some (vI a0), some (vI x13), some (vI z2)]) rfl ?_
      refine AW.aload_n (n := 31) (dat D_X5_leave 18 rfl) rfl rfl ?_
      refine AW.getR (n := 34) (t := 36) fX5_0 wF_X5_9 ly_35 (le45 rfl) rfl (dat D_X5_leave 19 rfl) rfl ?_
      refine AW.iload_n (n := 35) (dat D_X5_leave 20 rfl) rfl rfl ?_
      refine AW.ialdH h (n := 36) rfl ly_36 (le45 rfl) (dat D_X5_leave 21 rfl) rfl (fun j14 h => ?_)
      refine AW.iastH h (n := 37) rfl ly_36 (le45 rfl) (dat D_X5_leave 22 rfl) rfl (fun j15 h => ?_)
      refine AW.ltS h (fun σ16 h => ?_)
      cases h
      exact AW.to hJ11 (lle_s rfl (lle_s rfl (lle_s rfl (lle_s rfl (lle_z)))))
def L_X1_settleRow : List (Nat × Instr × Nat) := [(0, .iconst 0, 1), (1, .istore_n 2, 1), (2, .iload_n 2, 1), (3, .aload_n 0, 1), (4, .getfield 12, 3), (7, .getfield 56, 3), (10, .if_icmp .ge 83, 3), (13, .iload_n 1, 1), (14, .iload_n 2, 1), (15, .ishr, 1), (16, .iconst 1, 1), (17, .iand, 1), (18, .iconst 1, 1), (19, .if_icmp .ne 7, 3), (22, .iconst 1, 1), (23, .goto 4, 3), (26, .iconst 0, 1), (27, .istore_n 3, 1), (28, .aload_n 0, 1), (29, .getfield 34, 3), (32, .getfield 141, 3), (35, .ifCond .eq 18, 3), (38, .iload_n 3, 1), (39, .ifCond .eq 14, 3), (42, .aload_n 0, 1), (43, .getfield 34, 3), (46, .iload_n 2, 1), (47, .invokevirtual 237, 3), (50, .goto 37, 3), (53, .aload_n 0, 1), (54, .getfield 34, 3), (57, .getfield 141, 3), (60, .ifCond .ne 27, 3), (63, .iload_n 3, 1), (64, .ifCond .ne 23, 3), (67, .aload_n 0, 1), (68, .getfield 27, 3), (71, .iload_n 2, 1), (72, .aaload, 1), (73, .invokevirtual 230, 3), (76, .ifCond .ne 11, 3), (79, .aload_n 0, 1), (80, .getfield 34, 3), (83, .iload_n 2, 1), (84, .invokevirtual 147, 3), (87, .iinc 2 1, 3), (90, .goto (-88), 3), (93, .aload_n 0, 1), (94, .getfield 34, 3), (97, .iconst 1, 1), (98, .putfield 141, 3), (101, .return_, 1)]
theorem D_X1_settleRow : dOK cX1_settleRow L_X1_settleRow = true := by decide +kernel
theorem cf_X1_settleRow : CFV mX1_settleRow 1 := ⟨wI_X1_settleRow, wS_X1_settleRow, wN_WaveRight_Heat, wC_X1_settleRow, rfl, ⟨by decide +kernel, by decide +kernel, by decide +kernel⟩, le45 rfl⟩
def X1_settleRow_e2 (n : Nat) (σ4 : SG) : Option (SG) :=
  lt (up σ4 35 2 1) fun σ5 =>
  some (σ5)
def X1_settleRow_j87 (n : Nat) (z1 : Int) (σ9 : SG) : Option ((Int × SG) ⊕ (SG)) :=
  lt (z1 + 1) fun x11 =>
  some (.inl (x11, σ9))
def X1_settleRow_j27 (n : Nat) (σ2 : SG) (z1 : Int) (y7 : Int) : Option ((Int × SG) ⊕ (SG)) :=
  ((if w32 (σ2 35 2) = 0 then
    if w32 (σ2 35 2) = 0 then
      if w32 y7 = 0 then
        rdA 5 z1 fun j12 => ckR isSw (σ2 34 j12) fun k13 =>
        (X9_sentIn n k13 σ2).bind fun v15 =>
        if w32 v15 = 0 then
          (X5_add n z1 σ2).bind fun σ17 =>
          some (σ17)
        else
          some (σ2)
      else
        some (σ2)
    else
      some (σ2)
  else
    if w32 y7 = 0 then
      if w32 (σ2 35 2) = 0 then
        if w32 y7 = 0 then
          rdA 5 z1 fun j18 => ckR isSw (σ2 34 j18) fun k19 =>
          (X9_sentIn n k19 σ2).bind fun v21 =>
          if w32 v21 = 0 then
            (X5_add n z1 σ2).bind fun σ23 =>
            some (σ23)
          else
            some (σ2)
        else
          some (σ2)
      else
        some (σ2)
    else
      (X5_leave n z1 σ2).bind fun σ25 =>
      some (σ25)) : Option (SG)).bind (fun s => X1_settleRow_j87 n z1 s)
def X1_settleRow_l2 (n : Nat) (a0 : Int) (z1 : Int) (σ2 : SG) : Option ((Int × SG) ⊕ (SG)) :=
  ckR isSea (σ2 19 0) fun k6 =>
  if w32 (σ2 k6 5) ≤ w32 z1 then
    some (.inr σ2)
  else
    ((if w32 (bAnd (bShr a0 z1) 1) = 1 then
      some (1)
    else
      some (0)) : Option (Int)).bind (fun s => X1_settleRow_j27 n σ2 z1 s)
def X1_settleRow (n : Nat) (a0 : Int) (σ : SG) : Option (SG) :=
  ((iter n (fun s : Int × SG => X1_settleRow_l2 n a0 s.1 s.2) (0, σ)) : Option (SG)).bind (fun s => X1_settleRow_e2 n s)
set_option maxHeartbeats 4000000 in
set_option maxRecDepth 100000 in
theorem A_X1_settleRow {Γ : GA} (hΓ : (gl Γ).stackTraces = false) {n : Nat} {a0 : Int} {σ : SG} {τ : SG}  (h : X1_settleRow n a0 σ = some τ) : AM Γ mX1_settleRow 2 0 0 [vR 19, vI a0] (85, σ) (0, 0) (85, τ) := by
  refine AM.of pl_X1 rfl wC_X1_settleRow (le45 rfl) hΓ ?_
  refine AW.to (ls'' := [some (vR 19), some (vI a0), none, none]) ?_ (lle_s rfl (lle_s rfl (lle_e (lle_e (lle_z)))))
  unfold X1_settleRow at h
  refine AW.iconst (n := 1) (dat D_X1_settleRow 0 rfl) rfl ?_
  refine AW.istore_n (n := 2) (ls' := [some (vR 19), some (vI a0), some (vI 0), none]) (dat D_X1_settleRow 1 rfl) rfl (le45 rfl) (le45 rfl) rfl rfl ?_
  obtain ⟨b3, hi3, hq3⟩ := ob_some h
  obtain ⟨σ4, e3⟩ : ∃ z, z = b3 := ⟨_, rfl⟩
  subst e3
  have hR3 : AW Γ mX1_settleRow 2 (0, 0) (85, τ) 0 0 93 [some (vR 19), none, none, none] [] (85, σ4) := by
    have h : X1_settleRow_e2 n σ4 = some _ := hq3
    unfold X1_settleRow_e2 at h
    refine AW.aload_n (n := 94) (dat D_X1_settleRow 47 rfl) rfl rfl ?_
    refine AW.getR (n := 97) (t := 35) fX1_3 wF_X1_34 ly_19 (le45 rfl) rfl (dat D_X1_settleRow 48 rfl) rfl ?_
    refine AW.iconst (n := 98) (dat D_X1_settleRow 49 rfl) rfl ?_
    refine AW.putZ (n := 101) (Or.inr rfl) fX5_2 wF_X1_141 ly_35 (le45 rfl) rfl rfl rfl (dat D_X1_settleRow 50 rfl) rfl ?_
    refine AW.ltS h (fun σ5 h => ?_)
    cases h
    exact AW.vret rfl rfl rfl (dat D_X1_settleRow 51 rfl)
  refine AW.to (ls'' := [some (vR 19), some (vI a0), some (vI 0), none]) ?_ (lle_s rfl (lle_s rfl (lle_s rfl (lle_n (lle_z)))))
  refine aw_iter (fun s : Int × SG => AW Γ mX1_settleRow 2 (0, 0) (85, τ) 0 0 2 [some (vR 19), some (vI a0), some (vI (s.1)), none] [] (85, s.2)) (fun s y h hk3 hb3 => ?_) _ _ hi3
  obtain ⟨z1, σ2⟩ := s
  show AW Γ mX1_settleRow 2 (0, 0) (85, τ) 0 0 2 [some (vR 19), some (vI a0), some (vI z1), none] [] (85, σ2)
  have h : X1_settleRow_l2 n a0 z1 σ2 = some y := h
  unfold X1_settleRow_l2 at h
  refine AW.iload_n (n := 3) (dat D_X1_settleRow 2 rfl) rfl rfl ?_
  refine AW.aload_n (n := 4) (dat D_X1_settleRow 3 rfl) rfl rfl ?_
  refine AW.getQH h (n := 7) fX1_0 wF_X1_12 ly_19 (le45 rfl) rfl rfl (dat D_X1_settleRow 4 rfl) rfl (fun k6 hpk6 h => ?_)
  refine AW.getI (n := 10) fX6_5 wF_X1_56 (isSea_ly0 hpk6) (by have := isSea_lt hpk6; omega) rfl rfl (dat D_X1_settleRow 5 rfl) rfl ?_
  refine AW.icmp_geH (t := 93) (n := 13) h (dat D_X1_settleRow 6 rfl) rfl rfl rfl rfl (fun h => ?_) (fun h => ?_)
  · cases h
    have hb := hb3 _ rfl
    cases hb
    exact AW.to hR3 (lle_s rfl (lle_n (lle_n (lle_n (lle_z)))))
  · refine AW.iload_n (n := 14) (dat D_X1_settleRow 7 rfl) rfl rfl ?_
    refine AW.iload_n (n := 15) (dat D_X1_settleRow 8 rfl) rfl rfl ?_
    refine AW.ishr (n := 16) (dat D_X1_settleRow 9 rfl) rfl ?_
    refine AW.iconst (n := 17) (dat D_X1_settleRow 10 rfl) rfl ?_
    refine AW.iand (n := 18) (dat D_X1_settleRow 11 rfl) rfl ?_
    refine AW.iconst (n := 19) (dat D_X1_settleRow 12 rfl) rfl ?_
    obtain ⟨s8, h, hq8⟩ := ob_some h
    obtain ⟨y7, e8⟩ : ∃ z, z = s8 := ⟨_, rfl⟩
    subst e8
    have hJ8 : AW Γ mX1_settleRow 2 (0, 0) (85, τ) 0 0 27 [some (vR 19), some (vI a0), some (vI z1), none] [vI y7] (85, σ2) := by
      have h : X1_settleRow_j27 n σ2 z1 y7 = some _ := hq8
      unfold X1_settleRow_j27 at h
      refine AW.istore_n (n := 28) (ls' := [some (vR 19), some (vI a0), some (vI z1), some (vI y7)]) (dat D_X1_settleRow 17 rfl) rfl (le45 rfl) (le45 rfl) rfl rfl ?_
      refine AW.aload_n (n := 29) (dat D_X1_settleRow 18 rfl) rfl rfl ?_
      refine AW.getR (n := 32) (t := 35) fX1_3 wF_X1_34 ly_19 (le45 rfl) rfl (dat D_X1_settleRow 19 rfl) rfl ?_
      refine AW.getI (n := 35) fX5_2 wF_X1_141 ly_35 (le45 rfl) rfl rfl (dat D_X1_settleRow 20 rfl) rfl ?_
      obtain ⟨s10, h, hq10⟩ := ob_some h
      obtain ⟨σ9, e10⟩ : ∃ z, z = s10 := ⟨_, rfl⟩
      subst e10
      have hJ10 : AW Γ mX1_settleRow 2 (0, 0) (85, τ) 0 0 87 [some (vR 19), some (vI a0), some (vI z1), none] [] (85, σ9) := by
        have h : X1_settleRow_j87 n z1 σ9 = some _ := hq10
        unfold X1_settleRow_j87 at h
        refine AW.iincH h (n := 90) (dat D_X1_settleRow 45 rfl) rfl rfl (le45 rfl) rfl (fun x11 h => ?_)
        refine AW.lq (ls' := [some (vR 19), some (vI a0), some (vI x11), none]) rfl ?_
        refine AW.goto (t := 2) (dat D_X1_settleRow 46 rfl) rfl ?_
        cases h
        exact AW.to (hk3 _ rfl) (lle_s rfl (lle_s rfl (lle_s rfl (lle_n (lle_z)))))
      refine AW.if_eqH (t := 53) (n := 38) h (dat D_X1_settleRow 21 rfl) rfl rfl (fun h => ?_) (fun h => ?_)
      · refine AW.aload_n (n := 54) (dat D_X1_settleRow 29 rfl) rfl rfl ?_
        refine AW.getR (n := 57) (t := 35) fX1_3 wF_X1_34 ly_19 (le45 rfl) rfl (dat D_X1_settleRow 30 rfl) rfl ?_
        refine AW.getI (n := 60) fX5_2 wF_X1_141 ly_35 (le45 rfl) rfl rfl (dat D_X1_settleRow 31 rfl) rfl ?_
        refine AW.if_neH (t := 87) (n := 63) h (dat D_X1_settleRow 32 rfl) rfl rfl (fun h => ?_) (fun h => ?_)
        · refine AW.iload_n (n := 64) (dat D_X1_settleRow 33 rfl) rfl rfl ?_
          refine AW.if_neH (t := 87) (n := 67) h (dat D_X1_settleRow 34 rfl) rfl rfl (fun h => ?_) (fun h => ?_)
          · refine AW.aload_n (n := 68) (dat D_X1_settleRow 35 rfl) rfl rfl ?_
            refine AW.getR (n := 71) (t := 34) fX1_2 wF_X1_27 ly_19 (le45 rfl) rfl (dat D_X1_settleRow 36 rfl) rfl ?_
            refine AW.iload_n (n := 72) (dat D_X1_settleRow 37 rfl) rfl rfl ?_
            refine AW.aaldH h (n := 73) rfl ly_34 (le45 rfl) (dat D_X1_settleRow 38 rfl) rfl (fun j12 k13 hpk13 h => ?_)
            obtain ⟨v15, hc14, h⟩ := ob_some h
            refine AW.cV (n := 76) (as := []) (st := []) (st' := [vI v15]) (uc' := 0) (us' := 0) (A_X9_sentIn hΓ hpk13 hc14) cf_X9_sentIn (isSw_ly0 hpk13) (by have := isSw_lt hpk13; omega) vc_9 (le45 rfl) wM_X1_230 (le45 rfl) (le45 rfl) (dat D_X1_settleRow 39 rfl) rfl rfl (le45 rfl) (le45 rfl) rfl (fun _ => ?_) nlt0
            refine AW.if_neH (t := 87) (n := 79) h (dat D_X1_settleRow 40 rfl) rfl rfl (fun h => ?_) (fun h => ?_)
            · refine AW.aload_n (n := 80) (dat D_X1_settleRow 41 rfl) rfl rfl ?_
              refine AW.getR (n := 83) (t := 35) fX1_3 wF_X1_34 ly_19 (le45 rfl) rfl (dat D_X1_settleRow 42 rfl) rfl ?_
              refine AW.iload_n (n := 84) (dat D_X1_settleRow 43 rfl) rfl rfl ?_
              obtain ⟨σ17, hc16, h⟩ := ob_some h
              refine AW.cV (n := 87) (as := [vI z1]) (st := []) (st' := []) (uc' := 0) (us' := 0) (A_X5_add hΓ hc16) cf_X5_add ly_35 (le45 rfl) vc_5 (le45 rfl) wM_X1_147 (le45 rfl) (le45 rfl) (dat D_X1_settleRow 44 rfl) rfl rfl (le45 rfl) (le45 rfl) rfl (fun _ => ?_) nlt0
              cases h
              exact AW.to hJ10 (lle_s rfl (lle_s rfl (lle_s rfl (lle_n (lle_z)))))
            · cases h
              exact AW.to hJ10 (lle_s rfl (lle_s rfl (lle_s rfl (lle_n (lle_z)))))
          · cases h
            exact AW.to hJ10 (lle_s rfl (lle_s rfl (lle_s rfl (lle_n (lle_z)))))
        · cases h
          exact AW.to hJ10 (lle_s rfl (lle_s rfl (lle_s rfl (lle_n (lle_z)))))
      · refine AW.iload_n (n := 39) (dat D_X1_settleRow 22 rfl) rfl rfl ?_
        refine AW.if_eqH (t := 53) (n := 42) h (dat D_X1_settleRow 23 rfl) rfl rfl (fun h => ?_) (fun h => ?_)
        · refine AW.aload_n (n := 54) (dat D_X1_settleRow 29 rfl) rfl rfl ?_
          refine AW.getR (n := 57) (t := 35) fX1_3 wF_X1_34 ly_19 (le45 rfl) rfl (dat D_X1_settleRow 30 rfl) rfl ?_
          refine AW.getI (n := 60) fX5_2 wF_X1_141 ly_35 (le45 rfl) rfl rfl (dat D_X1_settleRow 31 rfl) rfl ?_
          refine AW.if_neH (t := 87) (n := 63) h (dat D_X1_settleRow 32 rfl) rfl rfl (fun h => ?_) (fun h => ?_)
          · refine AW.iload_n (n := 64) (dat D_X1_settleRow 33 rfl) rfl rfl ?_
            refine AW.if_neH (t := 87) (n := 67) h (dat D_X1_settleRow 34 rfl) rfl rfl (fun h => ?_) (fun h => ?_)
            · refine AW.aload_n (n := 68) (dat D_X1_settleRow 35 rfl) rfl rfl ?_
              refine AW.getR (n := 71) (t := 34) fX1_2 wF_X1_27 ly_19 (le45 rfl) rfl (dat D_X1_settleRow 36 rfl) rfl ?_
              refine AW.iload_n (n := 72) (dat D_X1_settleRow 37 rfl) rfl rfl ?_
              refine AW.aaldH h (n := 73) rfl ly_34 (le45 rfl) (dat D_X1_settleRow 38 rfl) rfl (fun j18 k19 hpk19 h => ?_)
              obtain ⟨v21, hc20, h⟩ := ob_some h
              refine AW.cV (n := 76) (as := []) (st := []) (st' := [vI v21]) (uc' := 0) (us' := 0) (A_X9_sentIn hΓ hpk19 hc20) cf_X9_sentIn (isSw_ly0 hpk19) (by have := isSw_lt hpk19; omega) vc_9 (le45 rfl) wM_X1_230 (le45 rfl) (le45 rfl) (dat D_X1_settleRow 39 rfl) rfl rfl (le45 rfl) (le45 rfl) rfl (fun _ => ?_) nlt0
              refine AW.if_neH (t := 87) (n := 79) h (dat D_X1_settleRow 40 rfl) rfl rfl (fun h => ?_) (fun h => ?_)
              · refine AW.aload_n (n := 80) (dat D_X1_settleRow 41 rfl) rfl rfl ?_
                refine AW.getR (n := 83) (t := 35) fX1_3 wF_X1_34 ly_19 (le45 rfl) rfl (dat D_X1_settleRow 42 rfl) rfl ?_
                refine AW.iload_n (n := 84) (dat D_X1_settleRow 43 rfl) rfl rfl ?_
                obtain ⟨σ23, hc22, h⟩ := ob_some h
                refine AW.cV (n := 87) (as := [vI z1]) (st := []) (st' := []) (uc' := 0) (us' := 0) (A_X5_add hΓ hc22) cf_X5_add ly_35 (le45 rfl) vc_5 (le45 rfl) wM_X1_147 (le45 rfl) (le45 rfl) (dat D_X1_settleRow 44 rfl) rfl rfl (le45 rfl) (le45 rfl) rfl (fun _ => ?_) nlt0
                cases h
                exact AW.to hJ10 (lle_s rfl (lle_s rfl (lle_s rfl (lle_n (lle_z)))))
              · cases h
                exact AW.to hJ10 (lle_s rfl (lle_s rfl (lle_s rfl (lle_n (lle_z)))))
            · cases h
              exact AW.to hJ10 (lle_s rfl (lle_s rfl (lle_s rfl (lle_n (lle_z)))))
          · cases h
            exact AW.to hJ10 (lle_s rfl (lle_s rfl (lle_s rfl (lle_n (lle_z)))))
        · refine AW.aload_n (n := 43) (dat D_X1_settleRow 24 rfl) rfl rfl ?_
          refine AW.getR (n := 46) (t := 35) fX1_3 wF_X1_34 ly_19 (le45 rfl) rfl (dat D_X1_settleRow 25 rfl) rfl ?_
          refine AW.iload_n (n := 47) (dat D_X1_settleRow 26 rfl) rfl rfl ?_
          obtain ⟨σ25, hc24, h⟩ := ob_some h
          refine AW.cV (n := 50) (as := [vI z1]) (st := []) (st' := []) (uc' := 0) (us' := 0) (A_X5_leave hΓ hc24) cf_X5_leave ly_35 (le45 rfl) vc_5 (le45 rfl) wM_X1_237 (le45 rfl) (le45 rfl) (dat D_X1_settleRow 27 rfl) rfl rfl (le45 rfl) (le45 rfl) rfl (fun _ => ?_) nlt0
          refine AW.goto (t := 87) (dat D_X1_settleRow 28 rfl) rfl ?_
          cases h
          exact AW.to hJ10 (lle_s rfl (lle_s rfl (lle_s rfl (lle_n (lle_z)))))
    refine AW.icmp_neH (t := 26) (n := 22) h (dat D_X1_settleRow 13 rfl) rfl rfl rfl (by decide) (fun h => ?_) (fun h => ?_)
    · refine AW.iconst (n := 23) (dat D_X1_settleRow 14 rfl) rfl ?_
      refine AW.goto (t := 27) (dat D_X1_settleRow 15 rfl) rfl ?_
      cases h
      exact AW.to hJ8 (lle_s rfl (lle_s rfl (lle_s rfl (lle_n (lle_z)))))
    · refine AW.iconst (n := 27) (dat D_X1_settleRow 16 rfl) rfl ?_
      cases h
      exact AW.to hJ8 (lle_s rfl (lle_s rfl (lle_s rfl (lle_n (lle_z)))))
def L_X1_goBy : List (Nat × Instr × Nat) := [(0, .aload_n 0, 1), (1, .getfield 45, 3), (4, .iconst 4, 1), (5, .imul, 1), (6, .istore_n 1, 1), (7, .aload_n 0, 1), (8, .iconst 1, 1), (9, .invokevirtual 195, 3), (12, .istore_n 2, 1), (13, .aload_n 0, 1), (14, .getfield 38, 3), (17, .iload_n 1, 1), (18, .iload_n 2, 1), (19, .iastore, 1), (20, .aload_n 0, 1), (21, .getfield 38, 3), (24, .iload_n 1, 1), (25, .iconst 1, 1), (26, .iadd, 1), (27, .iconst (-1), 1), (28, .iastore, 1), (29, .aload_n 0, 1), (30, .getfield 38, 3), (33, .iload_n 1, 1), (34, .iconst 2, 1), (35, .iadd, 1), (36, .iconst (-1), 1), (37, .iastore, 1), (38, .aload_n 0, 1), (39, .getfield 38, 3), (42, .iload_n 1, 1), (43, .iconst 3, 1), (44, .iadd, 1), (45, .iconst 0, 1), (46, .iastore, 1), (47, .iconst 0, 1), (48, .istore_n 3, 1), (49, .iload_n 3, 1), (50, .aload_n 0, 1), (51, .getfield 12, 3), (54, .getfield 56, 3), (57, .if_icmp .ge 32, 3), (60, .aload_n 0, 1), (61, .getfield 27, 3), (64, .iload_n 3, 1), (65, .aaload, 1), (66, .getfield 150, 3), (69, .ifCond .eq 14, 3), (72, .aload_n 0, 1), (73, .aload_n 0, 1), (74, .getfield 27, 3), (77, .iload_n 3, 1), (78, .aaload, 1), (79, .iload_n 1, 1), (80, .invokevirtual 199, 3), (83, .iinc 3 1, 3), (86, .goto (-37), 3), (89, .aload_n 0, 1), (90, .invokevirtual 203, 3), (93, .iload_n 2, 1), (94, .ifCond .eq 8, 3), (97, .aload_n 0, 1), (98, .iload_n 2, 1), (99, .invokevirtual 206, 3), (102, .aload_n 0, 1), (103, .iconst (-1), 1), (104, .putfield 45, 3), (107, .return_, 1)]
theorem D_X1_goBy : dOK cX1_goBy L_X1_goBy = true := by decide +kernel
theorem cf_X1_goBy : CFV mX1_goBy 0 := ⟨wI_X1_goBy, wS_X1_goBy, wN_WaveRight_Heat, wC_X1_goBy, rfl, ⟨by decide +kernel, by decide +kernel, by decide +kernel⟩, le45 rfl⟩
def X1_goBy_j102 (n : Nat) (σ18 : SG) : Option (SG) :=
  lt (up σ18 19 13 (-1)) fun σ20 =>
  some (σ20)
def X1_goBy_e49 (n : Nat) (v3 : Int) (σ15 : SG) : Option (SG) :=
  (X1_leaveWave n σ15).bind fun σ17 =>
  ((if w32 v3 = 0 then
    some (σ17)
  else
    (X1_settleRow n v3 σ17).bind fun σ22 =>
    some (σ22)) : Option (SG)).bind (fun s => X1_goBy_j102 n s)
def X1_goBy_j83 (n : Nat) (z12 : Int) (σ26 : SG) : Option ((Int × SG) ⊕ (SG)) :=
  lt (z12 + 1) fun x28 =>
  some (.inl (x28, σ26))
def X1_goBy_l49 (n : Nat) (x1 : Int) (z12 : Int) (σ13 : SG) : Option ((Int × SG) ⊕ (SG)) :=
  ckR isSea (σ13 19 0) fun k23 =>
  if w32 (σ13 k23 5) ≤ w32 z12 then
    some (.inr σ13)
  else
    rdA 5 z12 fun j24 => ckR isSw (σ13 34 j24) fun k25 =>
    ((if w32 (σ13 k25 7) = 0 then
      some (σ13)
    else
      rdA 5 z12 fun j29 => ckR isSw (σ13 34 j29) fun k30 =>
      (X1_judgeRide n k30 x1 σ13).bind fun σ32 =>
      some (σ32)) : Option (SG)).bind (fun s => X1_goBy_j83 n z12 s)
def X1_goBy (n : Nat) (σ : SG) : Option (SG) :=
  lt ((σ 19 13) * 4) fun x1 =>
  (X1_bitsOf n 1 σ).bind fun v3 =>
  rdA 80 x1 fun j4 => lt (up σ 37 j4 v3) fun σ5 =>
  rdA 80 (x1 + 1) fun j6 => lt (up σ5 37 j6 (-1)) fun σ7 =>
  rdA 80 (x1 + 2) fun j8 => lt (up σ7 37 j8 (-1)) fun σ9 =>
  rdA 80 (x1 + 3) fun j10 => lt (up σ9 37 j10 0) fun σ11 =>
  ((iter n (fun s : Int × SG => X1_goBy_l49 n x1 s.1 s.2) (0, σ11)) : Option (SG)).bind (fun s => X1_goBy_e49 n v3 s)
set_option maxHeartbeats 4000000 in
set_option maxRecDepth 100000 in
theorem A_X1_goBy {Γ : GA} (hΓ : (gl Γ).stackTraces = false) {n : Nat} {σ : SG} {τ : SG}  (h : X1_goBy n σ = some τ) : AM Γ mX1_goBy 6 0 0 [vR 19] (85, σ) (0, 0) (85, τ) := by
  refine AM.of pl_X1 rfl wC_X1_goBy (le45 rfl) hΓ ?_
  refine AW.to (ls'' := [some (vR 19), none, none, none]) ?_ (lle_s rfl (lle_e (lle_e (lle_e (lle_z)))))
  unfold X1_goBy at h
  refine AW.aload_n (n := 1) (dat D_X1_goBy 0 rfl) rfl rfl ?_
  refine AW.getI (n := 4) fX1_13 wF_X1_45 ly_19 (le45 rfl) rfl rfl (dat D_X1_goBy 1 rfl) rfl ?_
  refine AW.iconst (n := 5) (dat D_X1_goBy 2 rfl) rfl ?_
  refine AW.imul (n := 6) (dat D_X1_goBy 3 rfl) rfl ?_
  refine AW.ltI h (fun x1 h => ?_)
  refine AW.istore_n (n := 7) (ls' := [some (vR 19), some (vI x1), none, none]) (dat D_X1_goBy 4 rfl) rfl (le45 rfl) (le45 rfl) rfl rfl ?_
  refine AW.aload_n (n := 8) (dat D_X1_goBy 5 rfl) rfl rfl ?_
  refine AW.iconst (n := 9) (dat D_X1_goBy 6 rfl) rfl ?_
  obtain ⟨v3, hc2, h⟩ := ob_some h
  refine AW.cV (n := 12) (as := [vI 1]) (st := []) (st' := [vI v3]) (uc' := 0) (us' := 0) (A_X1_bitsOf hΓ hc2) cf_X1_bitsOf ly_19 (le45 rfl) vc_1 (le45 rfl) wM_X1_195 (le45 rfl) (le45 rfl) (dat D_X1_goBy 7 rfl) rfl rfl (le45 rfl) (le45 rfl) rfl (fun _ => ?_) nlt0
  refine AW.istore_n (n := 13) (ls' := [some (vR 19), some (vI x1), some (vI v3), none]) (dat D_X1_goBy 8 rfl) rfl (le45 rfl) (le45 rfl) rfl rfl ?_
  refine AW.aload_n (n := 14) (dat D_X1_goBy 9 rfl) rfl rfl ?_
  refine AW.getR (n := 17) (t := 37) fX1_4 wF_X1_38 ly_19 (le45 rfl) rfl (dat D_X1_goBy 10 rfl) rfl ?_
  refine AW.iload_n (n := 18) (dat D_X1_goBy 11 rfl) rfl rfl ?_
  refine AW.iload_n (n := 19) (dat D_X1_goBy 12 rfl) rfl rfl ?_
  refine AW.iastH h (n := 20) rfl ly_37 (le45 rfl) (dat D_X1_goBy 13 rfl) rfl (fun j4 h => ?_)
  refine AW.ltS h (fun σ5 h => ?_)
  refine AW.aload_n (n := 21) (dat D_X1_goBy 14 rfl) rfl rfl ?_
  refine AW.getR (n := 24) (t := 37) fX1_4 wF_X1_38 ly_19 (le45 rfl) rfl (dat D_X1_goBy 15 rfl) rfl ?_
  refine AW.iload_n (n := 25) (dat D_X1_goBy 16 rfl) rfl rfl ?_
  refine AW.iconst (n := 26) (dat D_X1_goBy 17 rfl) rfl ?_
  refine AW.iadd (n := 27) (dat D_X1_goBy 18 rfl) rfl ?_
  refine AW.iconst (n := 28) (dat D_X1_goBy 19 rfl) rfl ?_
  refine AW.iastH h (n := 29) rfl ly_37 (le45 rfl) (dat D_X1_goBy 20 rfl) rfl (fun j6 h => ?_)
  refine AW.ltS h (fun σ7 h => ?_)
  refine AW.aload_n (n := 30) (dat D_X1_goBy 21 rfl) rfl rfl ?_
  refine AW.getR (n := 33) (t := 37) fX1_4 wF_X1_38 ly_19 (le45 rfl) rfl (dat D_X1_goBy 22 rfl) rfl ?_
  refine AW.iload_n (n := 34) (dat D_X1_goBy 23 rfl) rfl rfl ?_
  refine AW.iconst (n := 35) (dat D_X1_goBy 24 rfl) rfl ?_
  refine AW.iadd (n := 36) (dat D_X1_goBy 25 rfl) rfl ?_
  refine AW.iconst (n := 37) (dat D_X1_goBy 26 rfl) rfl ?_
  refine AW.iastH h (n := 38) rfl ly_37 (le45 rfl) (dat D_X1_goBy 27 rfl) rfl (fun j8 h => ?_)
  refine AW.ltS h (fun σ9 h => ?_)
  refine AW.aload_n (n := 39) (dat D_X1_goBy 28 rfl) rfl rfl ?_
  refine AW.getR (n := 42) (t := 37) fX1_4 wF_X1_38 ly_19 (le45 rfl) rfl (dat D_X1_goBy 29 rfl) rfl ?_
  refine AW.iload_n (n := 43) (dat D_X1_goBy 30 rfl) rfl rfl ?_
  refine AW.iconst (n := 44) (dat D_X1_goBy 31 rfl) rfl ?_
  refine AW.iadd (n := 45) (dat D_X1_goBy 32 rfl) rfl ?_
  refine AW.iconst (n := 46) (dat D_X1_goBy 33 rfl) rfl ?_
  refine AW.iastH h (n := 47) rfl ly_37 (le45 rfl) (dat D_X1_goBy 34 rfl) rfl (fun j10 h => ?_)
  refine AW.ltS h (fun σ11 h => ?_)
  refine AW.iconst (n := 48) (dat D_X1_goBy 35 rfl) rfl ?_
  refine AW.istore_n (n := 49) (ls' := [some (vR 19), some (vI x1), some (vI v3), some (vI 0)]) (dat D_X1_goBy 36 rfl) rfl (le45 rfl) (le45 rfl) rfl rfl ?_
  obtain ⟨b14, hi14, hq14⟩ := ob_some h
  obtain ⟨σ15, e14⟩ : ∃ z, z = b14 := ⟨_, rfl⟩
  subst e14
  have hR14 : AW Γ mX1_goBy 6 (0, 0) (85, τ) 0 0 89 [some (vR 19), none, some (vI v3), none] [] (85, σ15) := by
    have h : X1_goBy_e49 n v3 σ15 = some _ := hq14
    unfold X1_goBy_e49 at h
    refine AW.aload_n (n := 90) (dat D_X1_goBy 57 rfl) rfl rfl ?_
    obtain ⟨σ17, hc16, h⟩ := ob_some h
    refine AW.cV (n := 93) (as := []) (st := []) (st' := []) (uc' := 0) (us' := 0) (A_X1_leaveWave hΓ hc16) cf_X1_leaveWave ly_19 (le45 rfl) vc_1 (le45 rfl) wM_X1_203 (le45 rfl) (le45 rfl) (dat D_X1_goBy 58 rfl) rfl rfl (le45 rfl) (le45 rfl) rfl (fun _ => ?_) nlt0
    refine AW.iload_n (n := 94) (dat D_X1_goBy 59 rfl) rfl rfl ?_
    obtain ⟨s19, h, hq19⟩ := ob_some h
    obtain ⟨σ18, e19⟩ : ∃ z, z = s19 := ⟨_, rfl⟩
    subst e19
    have hJ19 : AW Γ mX1_goBy 6 (0, 0) (85, τ) 0 0 102 [some (vR 19), none, none, none] [] (85, σ18) := by
      have h : X1_goBy_j102 n σ18 = some _ := hq19
      unfold X1_goBy_j102 at h
      refine AW.aload_n (n := 103) (dat D_X1_goBy 64 rfl) rfl rfl ?_
      refine AW.iconst (n := 104) (dat D_X1_goBy 65 rfl) rfl ?_
      refine AW.putI (n := 107) fX1_13 wF_X1_45 ly_19 (le45 rfl) rfl rfl rfl (dat D_X1_goBy 66 rfl) rfl ?_
      refine AW.ltS h (fun σ20 h => ?_)
      cases h
      exact AW.vret rfl rfl rfl (dat D_X1_goBy 67 rfl)
    refine AW.if_eqH (t := 102) (n := 97) h (dat D_X1_goBy 60 rfl) rfl rfl (fun h => ?_) (fun h => ?_)
    · cases h
      exact AW.to hJ19 (lle_s rfl (lle_n (lle_n (lle_n (lle_z)))))
    · refine AW.aload_n (n := 98) (dat D_X1_goBy 61 rfl) rfl rfl ?_
      refine AW.iload_n (n := 99) (dat D_X1_goBy 62 rfl) rfl rfl ?_
      obtain ⟨σ22, hc21, h⟩ := ob_some h
      refine AW.cV (n := 102) (as := [vI v3]) (st := []) (st' := []) (uc' := 0) (us' := 0) (A_X1_settleRow hΓ hc21) cf_X1_settleRow ly_19 (le45 rfl) vc_1 (le45 rfl) wM_X1_206 (le45 rfl) (le45 rfl) (dat D_X1_goBy 63 rfl) rfl rfl (le45 rfl) (le45 rfl) rfl (fun _ => ?_) nlt0
      cases h
      exact AW.to hJ19 (lle_s rfl (lle_n (lle_n (lle_n (lle_z)))))
  refine AW.to (ls'' := [some (vR 19), some (vI x1), some (vI v3), some (vI 0)]) ?_ (lle_s rfl (lle_s rfl (lle_s rfl (lle_s rfl (lle_z)))))
  refine aw_iter (fun s : Int × SG => AW Γ mX1_goBy 6 (0, 0) (85, τ) 0 0 49 [some (vR 19), some (vI x1), some (vI v3), some (vI (s.1))] [] (85, s.2)) (fun s y h hk14 hb14 => ?_) _ _ hi14
  obtain ⟨z12, σ13⟩ := s
  show AW Γ mX1_goBy 6 (0, 0) (85, τ) 0 0 49 [some (vR 19), some (vI x1), some (vI v3), some (vI z12)] [] (85, σ13)
  have h : X1_goBy_l49 n x1 z12 σ13 = some y := h
  unfold X1_goBy_l49 at h
  refine AW.iload_n (n := 50) (dat D_X1_goBy 37 rfl) rfl rfl ?_
  refine AW.aload_n (n := 51) (dat D_X1_goBy 38 rfl) rfl rfl ?_
  refine AW.getQH h (n := 54) fX1_0 wF_X1_12 ly_19 (le45 rfl) rfl rfl (dat D_X1_goBy 39 rfl) rfl (fun k23 hpk23 h => ?_)
  refine AW.getI (n := 57) fX6_5 wF_X1_56 (isSea_ly0 hpk23) (by have := isSea_lt hpk23; omega) rfl rfl (dat D_X1_goBy 40 rfl) rfl ?_
  refine AW.icmp_geH (t := 89) (n := 60) h (dat D_X1_goBy 41 rfl) rfl rfl rfl rfl (fun h => ?_) (fun h => ?_)
  · cases h
    have hb := hb14 _ rfl
    cases hb
    exact AW.to hR14 (lle_s rfl (lle_n (lle_s rfl (lle_n (lle_z)))))
  · refine AW.aload_n (n := 61) (dat D_X1_goBy 42 rfl) rfl rfl ?_
    refine AW.getR (n := 64) (t := 34) fX1_2 wF_X1_27 ly_19 (le45 rfl) rfl (dat D_X1_goBy 43 rfl) rfl ?_
    refine AW.iload_n (n := 65) (dat D_X1_goBy 44 rfl) rfl rfl ?_
    refine AW.aaldH h (n := 66) rfl ly_34 (le45 rfl) (dat D_X1_goBy 45 rfl) rfl (fun j24 k25 hpk25 h => ?_)
    refine AW.getI (n := 69) fX9_7 wF_X1_150 (isSw_ly0 hpk25) (by have := isSw_lt hpk25; omega) rfl rfl (dat D_X1_goBy 46 rfl) rfl ?_
    obtain ⟨s27, h, hq27⟩ := ob_some h
    obtain ⟨σ26, e27⟩ : ∃ z, z = s27 := ⟨_, rfl⟩
    subst e27
    have hJ27 : AW Γ mX1_goBy 6 (0, 0) (85, τ) 0 0 83 [some (vR 19), some (vI x1), some (vI v3), some (vI z12)] [] (85, σ26) := by
      have h : X1_goBy_j83 n z12 σ26 = some _ := hq27
      unfold X1_goBy_j83 at h
      refine AW.iincH h (n := 86) (dat D_X1_goBy 55 rfl) rfl rfl (le45 rfl) rfl (fun x28 h => ?_)
      refine AW.lq (ls' := [some (vR 19), some (vI x1), some (vI v3), some (vI x28)]) rfl ?_
      refine AW.goto (t := 49) (dat D_X1_goBy 56 rfl) rfl ?_
      cases h
      exact AW.to (hk14 _ rfl) (lle_s rfl (lle_s rfl (lle_s rfl (lle_s rfl (lle_z)))))
    refine AW.if_eqH (t := 83) (n := 72) h (dat D_X1_goBy 47 rfl) rfl rfl (fun h => ?_) (fun h => ?_)
    · cases h
      exact AW.to hJ27 (lle_s rfl (lle_s rfl (lle_s rfl (lle_s rfl (lle_z)))))
    · refine AW.aload_n (n := 73) (dat D_X1_goBy 48 rfl) rfl rfl ?_
      refine AW.aload_n (n := 74) (dat D_X1_goBy 49 rfl) rfl rfl ?_
      refine AW.getR (n := 77) (t := 34) fX1_2 wF_X1_27 ly_19 (le45 rfl) rfl (dat D_X1_goBy 50 rfl) rfl ?_
      refine AW.iload_n (n := 78) (dat D_X1_goBy 51 rfl) rfl rfl ?_
      refine AW.aaldH h (n := 79) rfl ly_34 (le45 rfl) (dat D_X1_goBy 52 rfl) rfl (fun j29 k30 hpk30 h => ?_)
      refine AW.iload_n (n := 80) (dat D_X1_goBy 53 rfl) rfl rfl ?_
      obtain ⟨σ32, hc31, h⟩ := ob_some h
      refine AW.cV (n := 83) (as := [vR k30, vI x1]) (st := []) (st' := []) (uc' := 0) (us' := 0) (A_X1_judgeRide hΓ hpk30 hc31) cf_X1_judgeRide ly_19 (le45 rfl) vc_1 (le45 rfl) wM_X1_199 (le45 rfl) (le45 rfl) (dat D_X1_goBy 54 rfl) rfl rfl (le45 rfl) (le45 rfl) rfl (fun _ => ?_) nlt0
      cases h
      exact AW.to hJ27 (lle_s rfl (lle_s rfl (lle_s rfl (lle_s rfl (lle_z)))))
def L_X1_comeOut : List (Nat × Instr × Nat) := [(0, .aload_n 1, 1), (1, .iconst 1, 1), (2, .putfield 118, 3), (5, .aload_n 1, 1), (6, .iconst (-1), 1), (7, .putfield 132, 3), (10, .aload_n 1, 1), (11, .aload_n 1, 1), (12, .getfield 135, 3), (15, .putfield 138, 3), (18, .aload_n 0, 1), (19, .getfield 34, 3), (22, .getfield 141, 3), (25, .ifCond .eq 14, 3), (28, .aload_n 0, 1), (29, .getfield 34, 3), (32, .aload_n 1, 1), (33, .getfield 144, 3), (36, .invokevirtual 147, 3), (39, .return_, 1)]
theorem D_X1_comeOut : dOK cX1_comeOut L_X1_comeOut = true := by decide +kernel
theorem cf_X1_comeOut : CFV mX1_comeOut 1 := ⟨wI_X1_comeOut, wS_X1_comeOut, wN_WaveRight_Heat, wC_X1_comeOut, rfl, ⟨by decide +kernel, by decide +kernel, by decide +kernel⟩, le45 rfl⟩
def X1_comeOut (n : Nat) (a0 : Nat) (σ : SG) : Option (SG) :=
  lt (up σ a0 6 1) fun σ1 =>
  lt (up σ1 a0 8 (-1)) fun σ2 =>
  lt (up σ2 a0 4 (σ2 a0 3)) fun σ3 =>
  if w32 (σ3 35 2) = 0 then
    some (σ3)
  else
    (X5_add n (σ3 a0 0) σ3).bind fun σ5 =>
    some (σ5)
set_option maxHeartbeats 4000000 in
set_option maxRecDepth 100000 in
theorem A_X1_comeOut {Γ : GA} (hΓ : (gl Γ).stackTraces = false) {n : Nat} {a0 : Nat} {σ : SG} {τ : SG} (hpa0 : isSw a0 = true) (h : X1_comeOut n a0 σ = some τ) : AM Γ mX1_comeOut 2 0 0 [vR 19, vR a0] (85, σ) (0, 0) (85, τ) := by
  refine AM.of pl_X1 rfl wC_X1_comeOut (le45 rfl) hΓ ?_
  refine AW.to (ls'' := [some (vR 19), some (vR a0)]) ?_ (lle_s rfl (lle_s rfl (lle_z)))
  unfold X1_comeOut at h
  refine AW.aload_n (n := 1) (dat D_X1_comeOut 0 rfl) rfl rfl ?_
  refine AW.iconst (n := 2) (dat D_X1_comeOut 1 rfl) rfl ?_
  refine AW.putZ (n := 5) (Or.inr rfl) fX9_6 wF_X1_118 (isSw_ly0 hpa0) (by have := isSw_lt hpa0; omega) rfl rfl rfl (dat D_X1_comeOut 2 rfl) rfl ?_
  refine AW.ltS h (fun σ1 h => ?_)
  refine AW.aload_n (n := 6) (dat D_X1_comeOut 3 rfl) rfl rfl ?_
  refine AW.iconst (n := 7) (dat D_X1_comeOut 4 rfl) rfl ?_
  refine AW.putI (n := 10) fX9_8 wF_X1_132 (isSw_ly0 hpa0) (by have := isSw_lt hpa0; omega) rfl rfl rfl (dat D_X1_comeOut 5 rfl) rfl ?_
  refine AW.ltS h (fun σ2 h => ?_)
  refine AW.aload_n (n := 11) (dat D_X1_comeOut 6 rfl) rfl rfl ?_
  refine AW.aload_n (n := 12) (dat D_X1_comeOut 7 rfl) rfl rfl ?_
  refine AW.getI (n := 15) fX9_3 wF_X1_135 (isSw_ly0 hpa0) (by have := isSw_lt hpa0; omega) rfl rfl (dat D_X1_comeOut 8 rfl) rfl ?_
  refine AW.putI (n := 18) fX9_4 wF_X1_138 (isSw_ly0 hpa0) (by have := isSw_lt hpa0; omega) rfl rfl rfl (dat D_X1_comeOut 9 rfl) rfl ?_
  refine AW.ltS h (fun σ3 h => ?_)
  refine AW.aload_n (n := 19) (dat D_X1_comeOut 10 rfl) rfl rfl ?_
  refine AW.getR (n := 22) (t := 35) fX1_3 wF_X1_34 ly_19 (le45 rfl) rfl (dat D_X1_comeOut 11 rfl) rfl ?_
  refine AW.getI (n := 25) fX5_2 wF_X1_141 ly_35 (le45 rfl) rfl rfl (dat D_X1_comeOut 12 rfl) rfl ?_
  refine AW.if_eqH (t := 39) (n := 28) h (dat D_X1_comeOut 13 rfl) rfl rfl (fun h => ?_) (fun h => ?_)
  · cases h
    exact AW.vret rfl rfl rfl (dat D_X1_comeOut 19 rfl)
  · refine AW.aload_n (n := 29) (dat D_X1_comeOut 14 rfl) rfl rfl ?_
    refine AW.getR (n := 32) (t := 35) fX1_3 wF_X1_34 ly_19 (le45 rfl) rfl (dat D_X1_comeOut 15 rfl) rfl ?_
    refine AW.aload_n (n := 33) (dat D_X1_comeOut 16 rfl) rfl rfl ?_
    refine AW.getI (n := 36) fX9_0 wF_X1_144 (isSw_ly0 hpa0) (by have := isSw_lt hpa0; omega) rfl rfl (dat D_X1_comeOut 17 rfl) rfl ?_
    obtain ⟨σ5, hc4, h⟩ := ob_some h
    refine AW.cV (n := 39) (as := [vI (σ3 a0 0)]) (st := []) (st' := []) (uc' := 0) (us' := 0) (A_X5_add hΓ hc4) cf_X5_add ly_35 (le45 rfl) vc_5 (le45 rfl) wM_X1_147 (le45 rfl) (le45 rfl) (dat D_X1_comeOut 18 rfl) rfl rfl (le45 rfl) (le45 rfl) rfl (fun _ => ?_) nlt0
    cases h
    exact AW.vret rfl rfl rfl (dat D_X1_comeOut 19 rfl)
def L_X1_earliestBack : List (Nat × Instr × Nat) := [(0, .iconst (-1), 1), (1, .istore_n 1, 1), (2, .iconst 0, 1), (3, .istore_n 2, 1), (4, .iload_n 2, 1), (5, .aload_n 0, 1), (6, .getfield 12, 3), (9, .getfield 56, 3), (12, .if_icmp .ge 52, 3), (15, .aload_n 0, 1), (16, .getfield 27, 3), (19, .iload_n 2, 1), (20, .aaload, 1), (21, .getfield 132, 3), (24, .istore_n 3, 1), (25, .iload_n 3, 1), (26, .iconst (-1), 1), (27, .if_icmp .eq 31, 3), (30, .iload_n 3, 1), (31, .aload_n 0, 1), (32, .getfield 81, 3), (35, .if_icmp .gt 23, 3), (38, .iload_n 1, 1), (39, .iconst (-1), 1), (40, .if_icmp .eq 16, 3), (43, .iload_n 3, 1), (44, .aload_n 0, 1), (45, .getfield 27, 3), (48, .iload_n 1, 1), (49, .aaload, 1), (50, .getfield 132, 3), (53, .if_icmp .ge 5, 3), (56, .iload_n 2, 1), (57, .istore_n 1, 1), (58, .iinc 2 1, 3), (61, .goto (-57), 3), (64, .iload_n 1, 1), (65, .ireturn, 1)]
theorem D_X1_earliestBack : dOK cX1_earliestBack L_X1_earliestBack = true := by decide +kernel
theorem cf_X1_earliestBack : CFV mX1_earliestBack 0 := ⟨wI_X1_earliestBack, wS_X1_earliestBack, wN_WaveRight_Heat, wC_X1_earliestBack, rfl, ⟨by decide +kernel, by decide +kernel, by decide +kernel⟩, le45 rfl⟩
def X1_earliestBack_e4 (n : Nat) (e4 : Int) : Option (Int) :=
  some (e4)
def X1_earliestBack_j58 (n : Nat) (z2 : Int) (y9 : Int) : Option ((Int × Int) ⊕ (Int)) :=
  lt (z2 + 1) fun x11 =>
  some (.inl (y9, x11))
def X1_earliestBack_l4 (n : Nat) (σ : SG) (z1 : Int) (z2 : Int) : Option ((Int × Int) ⊕ (Int)) :=
  ckR isSea (σ 19 0) fun k5 =>
  if w32 (σ k5 5) ≤ w32 z2 then
    some (.inr z1)
  else
    rdA 5 z2 fun j6 => ckR isSw (σ 34 j6) fun k7 =>
    lt (σ k7 8) fun x8 =>
    ((if w32 x8 = (-1) then
      some (z1)
    else
      if w32 (σ 19 9) < w32 x8 then
        some (z1)
      else
        if w32 z1 = (-1) then
          some (z2)
        else
          rdA 5 z1 fun j12 => ckR isSw (σ 34 j12) fun k13 =>
          if w32 (σ k13 8) ≤ w32 x8 then
            some (z1)
          else
            some (z2)) : Option (Int)).bind (fun s => X1_earliestBack_j58 n z2 s)
def X1_earliestBack (n : Nat) (σ : SG) : Option (Int) :=
  ((iter n (fun s : Int × Int => X1_earliestBack_l4 n σ s.1 s.2) ((-1), 0)) : Option (Int)).bind (fun s => X1_earliestBack_e4 n s)
set_option maxHeartbeats 4000000 in
set_option maxRecDepth 100000 in
theorem A_X1_earliestBack {Γ : GA} (hΓ : (gl Γ).stackTraces = false) {n : Nat} {σ : SG} {r : Int}  (h : X1_earliestBack n σ = some r) : AM Γ mX1_earliestBack 1 0 0 [vR 19] (85, σ) (0, r) (85, σ) := by
  refine AM.of pl_X1 rfl wC_X1_earliestBack (le45 rfl) hΓ ?_
  refine AW.to (ls'' := [some (vR 19), none, none, none]) ?_ (lle_s rfl (lle_e (lle_e (lle_e (lle_z)))))
  unfold X1_earliestBack at h
  refine AW.iconst (n := 1) (dat D_X1_earliestBack 0 rfl) rfl ?_
  refine AW.istore_n (n := 2) (ls' := [some (vR 19), some (vI (-1)), none, none]) (dat D_X1_earliestBack 1 rfl) rfl (le45 rfl) (le45 rfl) rfl rfl ?_
  refine AW.iconst (n := 3) (dat D_X1_earliestBack 2 rfl) rfl ?_
  refine AW.istore_n (n := 4) (ls' := [some (vR 19), some (vI (-1)), some (vI 0), none]) (dat D_X1_earliestBack 3 rfl) rfl (le45 rfl) (le45 rfl) rfl rfl ?_
  obtain ⟨b3, hi3, hq3⟩ := ob_some h
  obtain ⟨e4, e3⟩ : ∃ z, z = b3 := ⟨_, rfl⟩
  subst e3
  have hR3 : AW Γ mX1_earliestBack 1 (0, r) (85, σ) 0 0 64 [none, some (vI e4), none, none] [] (85, σ) := by
    have h : X1_earliestBack_e4 n e4 = some _ := hq3
    unfold X1_earliestBack_e4 at h
    refine AW.iload_n (n := 65) (dat D_X1_earliestBack 36 rfl) rfl rfl ?_
    cases h
    exact AW.iret rfl rfl rfl (dat D_X1_earliestBack 37 rfl)
  refine AW.to (ls'' := [some (vR 19), some (vI (-1)), some (vI 0), none]) ?_ (lle_s rfl (lle_s rfl (lle_s rfl (lle_n (lle_z)))))
  refine aw_iter (fun s : Int × Int => AW Γ mX1_earliestBack 1 (0, r) (85, σ) 0 0 4 [some (vR 19), some (vI (s.1)), some (vI (s.2)), none] [] (85, σ)) (fun s y h hk3 hb3 => ?_) _ _ hi3
  obtain ⟨z1, z2⟩ := s
  show AW Γ mX1_earliestBack 1 (0, r) (85, σ) 0 0 4 [some (vR 19), some (vI z1), some (vI z2), none] [] (85, σ)
  have h : X1_earliestBack_l4 n σ z1 z2 = some y := h
  unfold X1_earliestBack_l4 at h
  refine AW.iload_n (n := 5) (dat D_X1_earliestBack 4 rfl) rfl rfl ?_
  refine AW.aload_n (n := 6) (dat D_X1_earliestBack 5 rfl) rfl rfl ?_
  refine AW.getQH h (n := 9) fX1_0 wF_X1_12 ly_19 (le45 rfl) rfl rfl (dat D_X1_earliestBack 6 rfl) rfl (fun k5 hpk5 h => ?_)
  refine AW.getI (n := 12) fX6_5 wF_X1_56 (isSea_ly0 hpk5) (by have := isSea_lt hpk5; omega) rfl rfl (dat D_X1_earliestBack 7 rfl) rfl ?_
  refine AW.icmp_geH (t := 64) (n := 15) h (dat D_X1_earliestBack 8 rfl) rfl rfl rfl rfl (fun h => ?_) (fun h => ?_)
  · cases h
    have hb := hb3 _ rfl
    cases hb
    exact AW.to hR3 (lle_n (lle_s rfl (lle_n (lle_n (lle_z)))))
  · refine AW.aload_n (n := 16) (dat D_X1_earliestBack 9 rfl) rfl rfl ?_
    refine AW.getR (n := 19) (t := 34) fX1_2 wF_X1_27 ly_19 (le45 rfl) rfl (dat D_X1_earliestBack 10 rfl) rfl ?_
    refine AW.iload_n (n := 20) (dat D_X1_earliestBack 11 rfl) rfl rfl ?_
    refine AW.aaldH h (n := 21) rfl ly_34 (le45 rfl) (dat D_X1_earliestBack 12 rfl) rfl (fun j6 k7 hpk7 h => ?_)
    refine AW.getI (n := 24) fX9_8 wF_X1_132 (isSw_ly0 hpk7) (by have := isSw_lt hpk7; omega) rfl rfl (dat D_X1_earliestBack 13 rfl) rfl ?_
    refine AW.ltI h (fun x8 h => ?_)
    refine AW.istore_n (n := 25) (ls' := [some (vR 19), some (vI z1), some (vI z2), some (vI x8)]) (dat D_X1_earliestBack 14 rfl) rfl (le45 rfl) (le45 rfl) rfl rfl ?_
    refine AW.iload_n (n := 26) (dat D_X1_earliestBack 15 rfl) rfl rfl ?_
    refine AW.iconst (n := 27) (dat D_X1_earliestBack 16 rfl) rfl ?_
    obtain ⟨s10, h, hq10⟩ := ob_some h
    obtain ⟨y9, e10⟩ : ∃ z, z = s10 := ⟨_, rfl⟩
    subst e10
    have hJ10 : AW Γ mX1_earliestBack 1 (0, r) (85, σ) 0 0 58 [some (vR 19), some (vI y9), some (vI z2), none] [] (85, σ) := by
      have h : X1_earliestBack_j58 n z2 y9 = some _ := hq10
      unfold X1_earliestBack_j58 at h
      refine AW.iincH h (n := 61) (dat D_X1_earliestBack 34 rfl) rfl rfl (le45 rfl) rfl (fun x11 h => ?_)
      refine AW.lq (ls' := [some (vR 19), some (vI y9), some (vI x11), none]) rfl ?_
      refine AW.goto (t := 4) (dat D_X1_earliestBack 35 rfl) rfl ?_
      cases h
      exact AW.to (hk3 _ rfl) (lle_s rfl (lle_s rfl (lle_s rfl (lle_n (lle_z)))))
    refine AW.icmp_eqH (t := 58) (n := 30) h (dat D_X1_earliestBack 17 rfl) rfl rfl rfl (by decide) (fun h => ?_) (fun h => ?_)
    · cases h
      exact AW.to hJ10 (lle_s rfl (lle_s rfl (lle_s rfl (lle_n (lle_z)))))
    · refine AW.iload_n (n := 31) (dat D_X1_earliestBack 18 rfl) rfl rfl ?_
      refine AW.aload_n (n := 32) (dat D_X1_earliestBack 19 rfl) rfl rfl ?_
      refine AW.getI (n := 35) fX1_9 wF_X1_81 ly_19 (le45 rfl) rfl rfl (dat D_X1_earliestBack 20 rfl) rfl ?_
      refine AW.icmp_gtH (t := 58) (n := 38) h (dat D_X1_earliestBack 21 rfl) rfl rfl rfl rfl (fun h => ?_) (fun h => ?_)
      · cases h
        exact AW.to hJ10 (lle_s rfl (lle_s rfl (lle_s rfl (lle_n (lle_z)))))
      · refine AW.iload_n (n := 39) (dat D_X1_earliestBack 22 rfl) rfl rfl ?_
        refine AW.iconst (n := 40) (dat D_X1_earliestBack 23 rfl) rfl ?_
        refine AW.icmp_eqH (t := 56) (n := 43) h (dat D_X1_earliestBack 24 rfl) rfl rfl rfl (by decide) (fun h => ?_) (fun h => ?_)
        · refine AW.iload_n (n := 57) (dat D_X1_earliestBack 32 rfl) rfl rfl ?_
          refine AW.istore_n (n := 58) (ls' := [some (vR 19), some (vI z2), some (vI z2), some (vI x8)]) (dat D_X1_earliestBack 33 rfl) rfl (le45 rfl) (le45 rfl) rfl rfl ?_
          cases h
          exact AW.to hJ10 (lle_s rfl (lle_s rfl (lle_s rfl (lle_n (lle_z)))))
        · refine AW.iload_n (n := 44) (dat D_X1_earliestBack 25 rfl) rfl rfl ?_
          refine AW.aload_n (n := 45) (dat D_X1_earliestBack 26 rfl) rfl rfl ?_
          refine AW.getR (n := 48) (t := 34) fX1_2 wF_X1_27 ly_19 (le45 rfl) rfl (dat D_X1_earliestBack 27 rfl) rfl ?_
          refine AW.iload_n (n := 49) (dat D_X1_earliestBack 28 rfl) rfl rfl ?_
          refine AW.aaldH h (n := 50) rfl ly_34 (le45 rfl) (dat D_X1_earliestBack 29 rfl) rfl (fun j12 k13 hpk13 h => ?_)
          refine AW.getI (n := 53) fX9_8 wF_X1_132 (isSw_ly0 hpk13) (by have := isSw_lt hpk13; omega) rfl rfl (dat D_X1_earliestBack 30 rfl) rfl ?_
          refine AW.icmp_geH (t := 58) (n := 56) h (dat D_X1_earliestBack 31 rfl) rfl rfl rfl rfl (fun h => ?_) (fun h => ?_)
          · cases h
            exact AW.to hJ10 (lle_s rfl (lle_s rfl (lle_s rfl (lle_n (lle_z)))))
          · refine AW.iload_n (n := 57) (dat D_X1_earliestBack 32 rfl) rfl rfl ?_
            refine AW.istore_n (n := 58) (ls' := [some (vR 19), some (vI z2), some (vI z2), some (vI x8)]) (dat D_X1_earliestBack 33 rfl) rfl (le45 rfl) (le45 rfl) rfl rfl ?_
            cases h
            exact AW.to hJ10 (lle_s rfl (lle_s rfl (lle_s rfl (lle_n (lle_z)))))
def L_X9_swimFor : List (Nat × Instr × Nat) := [(0, .aload_n 0, 1), (1, .getfield 28, 3), (4, .aload_n 0, 1), (5, .getfield 25, 3), (8, .isub, 1), (9, .invokestatic 56, 3), (12, .aload_n 0, 1), (13, .getfield 15, 3), (16, .iload_n 1, 1), (17, .imul, 1), (18, .invokestatic 62, 3), (21, .istore_n 2, 1), (22, .aload_n 0, 1), (23, .dup, 1), (24, .getfield 25, 3), (27, .aload_n 0, 1), (28, .getfield 28, 3), (31, .aload_n 0, 1), (32, .getfield 25, 3), (35, .if_icmp .ge 8, 3), (38, .iload_n 2, 1), (39, .ineg, 1), (40, .goto 4, 3), (43, .iload_n 2, 1), (44, .iadd, 1), (45, .putfield 25, 3), (48, .return_, 1)]
theorem D_X9_swimFor : dOK cX9_swimFor L_X9_swimFor = true := by decide +kernel
theorem cf_X9_swimFor : CFV mX9_swimFor 1 := ⟨wI_X9_swimFor, wS_X9_swimFor, wN_WaveRight_Swimmer, wC_X9_swimFor, rfl, ⟨by decide +kernel, by decide +kernel, by decide +kernel⟩, le45 rfl⟩
def X9_swimFor (n : Nat) (k : Nat) (a0 : Int) (σ : SG) : Option (SG) :=
  lt (mn32 (ab32 ((σ k 4) - (σ k 3))) ((σ k 5) * a0)) fun x1 =>
  if w32 (σ k 3) ≤ w32 (σ k 4) then
    lt (up σ k 3 ((σ k 3) + x1)) fun σ2 =>
    some (σ2)
  else
    lt (up σ k 3 ((σ k 3) + (-x1))) fun σ3 =>
    some (σ3)
set_option maxHeartbeats 4000000 in
set_option maxRecDepth 100000 in
theorem A_X9_swimFor {Γ : GA} (hΓ : (gl Γ).stackTraces = false) {n : Nat} {k : Nat} {a0 : Int} {σ : SG} {τ : SG} (hpk : isSw k = true) (h : X9_swimFor n k a0 σ = some τ) : AM Γ mX9_swimFor 2 0 0 [vR k, vI a0] (85, σ) (0, 0) (85, τ) := by
  refine AM.of pl_X9 rfl wC_X9_swimFor (le45 rfl) hΓ ?_
  refine AW.to (ls'' := [some (vR k), some (vI a0), none]) ?_ (lle_s rfl (lle_s rfl (lle_e (lle_z))))
  unfold X9_swimFor at h
  refine AW.aload_n (n := 1) (dat D_X9_swimFor 0 rfl) rfl rfl ?_
  refine AW.getI (n := 4) fX9_4 wF_X9_28 (isSw_ly0 hpk) (by have := isSw_lt hpk; omega) rfl rfl (dat D_X9_swimFor 1 rfl) rfl ?_
  refine AW.aload_n (n := 5) (dat D_X9_swimFor 2 rfl) rfl rfl ?_
  refine AW.getI (n := 8) fX9_3 wF_X9_25 (isSw_ly0 hpk) (by have := isSw_lt hpk; omega) rfl rfl (dat D_X9_swimFor 3 rfl) rfl ?_
  refine AW.isub (n := 9) (dat D_X9_swimFor 4 rfl) rfl ?_
  refine AW.mabs (n := 12) wM_X9_56 (le45 rfl) (le45 rfl) (dat D_X9_swimFor 5 rfl) rfl ?_
  refine AW.aload_n (n := 13) (dat D_X9_swimFor 6 rfl) rfl rfl ?_
  refine AW.getI (n := 16) fX9_5 wF_X9_15 (isSw_ly0 hpk) (by have := isSw_lt hpk; omega) rfl rfl (dat D_X9_swimFor 7 rfl) rfl ?_
  refine AW.iload_n (n := 17) (dat D_X9_swimFor 8 rfl) rfl rfl ?_
  refine AW.imul (n := 18) (dat D_X9_swimFor 9 rfl) rfl ?_
  refine AW.mmin (n := 21) wM_X9_62 (le45 rfl) (le45 rfl) (dat D_X9_swimFor 10 rfl) rfl ?_
  refine AW.ltI h (fun x1 h => ?_)
  refine AW.istore_n (n := 22) (ls' := [some (vR k), some (vI a0), some (vI x1)]) (dat D_X9_swimFor 11 rfl) rfl (le45 rfl) (le45 rfl) rfl rfl ?_
  refine AW.aload_n (n := 23) (dat D_X9_swimFor 12 rfl) rfl rfl ?_
  refine AW.dup (n := 24) (dat D_X9_swimFor 13 rfl) rfl (cR _) ?_
  refine AW.getI (n := 27) fX9_3 wF_X9_25 (isSw_ly0 hpk) (by have := isSw_lt hpk; omega) rfl rfl (dat D_X9_swimFor 14 rfl) rfl ?_
  refine AW.aload_n (n := 28) (dat D_X9_swimFor 15 rfl) rfl rfl ?_
  refine AW.getI (n := 31) fX9_4 wF_X9_28 (isSw_ly0 hpk) (by have := isSw_lt hpk; omega) rfl rfl (dat D_X9_swimFor 16 rfl) rfl ?_
  refine AW.aload_n (n := 32) (dat D_X9_swimFor 17 rfl) rfl rfl ?_
  refine AW.getI (n := 35) fX9_3 wF_X9_25 (isSw_ly0 hpk) (by have := isSw_lt hpk; omega) rfl rfl (dat D_X9_swimFor 18 rfl) rfl ?_
  refine AW.icmp_geH (t := 43) (n := 38) h (dat D_X9_swimFor 19 rfl) rfl rfl rfl rfl (fun h => ?_) (fun h => ?_)
  · refine AW.iload_n (n := 44) (dat D_X9_swimFor 23 rfl) rfl rfl ?_
    refine AW.iadd (n := 45) (dat D_X9_swimFor 24 rfl) rfl ?_
    refine AW.putI (n := 48) fX9_3 wF_X9_25 (isSw_ly0 hpk) (by have := isSw_lt hpk; omega) rfl rfl rfl (dat D_X9_swimFor 25 rfl) rfl ?_
    refine AW.ltS h (fun σ2 h => ?_)
    cases h
    exact AW.vret rfl rfl rfl (dat D_X9_swimFor 26 rfl)
  · refine AW.iload_n (n := 39) (dat D_X9_swimFor 20 rfl) rfl rfl ?_
    refine AW.ineg (n := 40) (dat D_X9_swimFor 21 rfl) rfl ?_
    refine AW.goto (t := 44) (dat D_X9_swimFor 22 rfl) rfl ?_
    refine AW.iadd (n := 45) (dat D_X9_swimFor 24 rfl) rfl ?_
    refine AW.putI (n := 48) fX9_3 wF_X9_25 (isSw_ly0 hpk) (by have := isSw_lt hpk; omega) rfl rfl rfl (dat D_X9_swimFor 25 rfl) rfl ?_
    refine AW.ltS h (fun σ3 h => ?_)
    cases h
    exact AW.vret rfl rfl rfl (dat D_X9_swimFor 26 rfl)
def L_X1_passTo : List (Nat × Instr × Nat) := [(0, .iconst 0, 1), (1, .istore_n 2, 1), (2, .iload_n 2, 1), (3, .aload_n 0, 1), (4, .getfield 12, 3), (7, .getfield 56, 3), (10, .if_icmp .ge 36, 3), (13, .aload_n 0, 1), (14, .getfield 27, 3), (17, .iload_n 2, 1), (18, .aaload, 1), (19, .getfield 118, 3), (22, .ifCond .eq 18, 3), (25, .aload_n 0, 1), (26, .getfield 27, 3), (29, .iload_n 2, 1), (30, .aaload, 1), (31, .iload_n 1, 1), (32, .aload_n 0, 1), (33, .getfield 81, 3), (36, .isub, 1), (37, .invokevirtual 121, 3), (40, .iinc 2 1, 3), (43, .goto (-41), 3), (46, .aload_n 0, 1), (47, .iload_n 1, 1), (48, .putfield 81, 3), (51, .iconst 0, 1), (52, .istore_n 2, 1), (53, .iload_n 2, 1), (54, .aload_n 0, 1), (55, .getfield 12, 3), (58, .getfield 56, 3), (61, .if_icmp .ge 32, 3), (64, .aload_n 0, 1), (65, .invokevirtual 124, 3), (68, .istore_n 3, 1), (69, .iload_n 3, 1), (70, .iconst (-1), 1), (71, .if_icmp .ne 6, 3), (74, .goto 19, 3), (77, .aload_n 0, 1), (78, .aload_n 0, 1), (79, .getfield 27, 3), (82, .iload_n 3, 1), (83, .aaload, 1), (84, .invokevirtual 128, 3), (87, .iinc 2 1, 3), (90, .goto (-37), 3), (93, .return_, 1)]
theorem D_X1_passTo : dOK cX1_passTo L_X1_passTo = true := by decide +kernel
theorem cf_X1_passTo : CFV mX1_passTo 1 := ⟨wI_X1_passTo, wS_X1_passTo, wN_WaveRight_Heat, wC_X1_passTo, rfl, ⟨by decide +kernel, by decide +kernel, by decide +kernel⟩, le45 rfl⟩
def X1_passTo_e53 (n : Nat) (σ9 : SG) : Option (SG) :=
  some (σ9)
def X1_passTo_l53 (n : Nat) (z6 : Int) (σ7 : SG) : Option ((Int × SG) ⊕ (SG)) :=
  ckR isSea (σ7 19 0) fun k10 =>
  if w32 (σ7 k10 5) ≤ w32 z6 then
    some (.inr σ7)
  else
    (X1_earliestBack n σ7).bind fun v12 =>
    if w32 v12 = (-1) then
      some (.inr σ7)
    else
      rdA 5 v12 fun j13 => ckR isSw (σ7 34 j13) fun k14 =>
      (X1_comeOut n k14 σ7).bind fun σ16 =>
      lt (z6 + 1) fun x17 =>
      some (.inl (x17, σ16))
def X1_passTo_e2 (n : Nat) (a0 : Int) (σ4 : SG) : Option (SG) :=
  lt (up σ4 19 9 a0) fun σ5 =>
  ((iter n (fun s : Int × SG => X1_passTo_l53 n s.1 s.2) (0, σ5)) : Option (SG)).bind (fun s => X1_passTo_e53 n s)
def X1_passTo_j40 (n : Nat) (z1 : Int) (σ21 : SG) : Option ((Int × SG) ⊕ (SG)) :=
  lt (z1 + 1) fun x23 =>
  some (.inl (x23, σ21))
def X1_passTo_l2 (n : Nat) (a0 : Int) (z1 : Int) (σ2 : SG) : Option ((Int × SG) ⊕ (SG)) :=
  ckR isSea (σ2 19 0) fun k18 =>
  if w32 (σ2 k18 5) ≤ w32 z1 then
    some (.inr σ2)
  else
    rdA 5 z1 fun j19 => ckR isSw (σ2 34 j19) fun k20 =>
    ((if w32 (σ2 k20 6) = 0 then
      some (σ2)
    else
      rdA 5 z1 fun j24 => ckR isSw (σ2 34 j24) fun k25 =>
      (X9_swimFor n k25 (a0 - (σ2 19 9)) σ2).bind fun σ27 =>
      some (σ27)) : Option (SG)).bind (fun s => X1_passTo_j40 n z1 s)
def X1_passTo (n : Nat) (a0 : Int) (σ : SG) : Option (SG) :=
  ((iter n (fun s : Int × SG => X1_passTo_l2 n a0 s.1 s.2) (0, σ)) : Option (SG)).bind (fun s => X1_passTo_e2 n a0 s)
set_option maxHeartbeats 4000000 in
set_option maxRecDepth 100000 in
theorem A_X1_passTo {Γ : GA} (hΓ : (gl Γ).stackTraces = false) {n : Nat} {a0 : Int} {σ : SG} {τ : SG}  (h : X1_passTo n a0 σ = some τ) : AM Γ mX1_passTo 3 0 0 [vR 19, vI a0] (85, σ) (0, 0) (85, τ) := by
  refine AM.of pl_X1 rfl wC_X1_passTo (le45 rfl) hΓ ?_
  refine AW.to (ls'' := [some (vR 19), some (vI a0), none, none]) ?_ (lle_s rfl (lle_s rfl (lle_e (lle_e (lle_z)))))
  unfold X1_passTo at h
  refine AW.iconst (n := 1) (dat D_X1_passTo 0 rfl) rfl ?_
  refine AW.istore_n (n := 2) (ls' := [some (vR 19), some (vI a0), some (vI 0), none]) (dat D_X1_passTo 1 rfl) rfl (le45 rfl) (le45 rfl) rfl rfl ?_
  obtain ⟨b3, hi3, hq3⟩ := ob_some h
  obtain ⟨σ4, e3⟩ : ∃ z, z = b3 := ⟨_, rfl⟩
  subst e3
  have hR3 : AW Γ mX1_passTo 3 (0, 0) (85, τ) 0 0 46 [some (vR 19), some (vI a0), none, none] [] (85, σ4) := by
    have h : X1_passTo_e2 n a0 σ4 = some _ := hq3
    unfold X1_passTo_e2 at h
    refine AW.aload_n (n := 47) (dat D_X1_passTo 24 rfl) rfl rfl ?_
    refine AW.iload_n (n := 48) (dat D_X1_passTo 25 rfl) rfl rfl ?_
    refine AW.putI (n := 51) fX1_9 wF_X1_81 ly_19 (le45 rfl) rfl rfl rfl (dat D_X1_passTo 26 rfl) rfl ?_
    refine AW.ltS h (fun σ5 h => ?_)
    refine AW.iconst (n := 52) (dat D_X1_passTo 27 rfl) rfl ?_
    refine AW.istore_n (n := 53) (ls' := [some (vR 19), some (vI a0), some (vI 0), none]) (dat D_X1_passTo 28 rfl) rfl (le45 rfl) (le45 rfl) rfl rfl ?_
    obtain ⟨b8, hi8, hq8⟩ := ob_some h
    obtain ⟨σ9, e8⟩ : ∃ z, z = b8 := ⟨_, rfl⟩
    subst e8
    have hR8 : AW Γ mX1_passTo 3 (0, 0) (85, τ) 0 0 93 [none, none, none, none] [] (85, σ9) := by
      have h : X1_passTo_e53 n σ9 = some _ := hq8
      unfold X1_passTo_e53 at h
      cases h
      exact AW.vret rfl rfl rfl (dat D_X1_passTo 49 rfl)
    refine AW.to (ls'' := [some (vR 19), none, some (vI 0), none]) ?_ (lle_s rfl (lle_n (lle_s rfl (lle_n (lle_z)))))
    refine aw_iter (fun s : Int × SG => AW Γ mX1_passTo 3 (0, 0) (85, τ) 0 0 53 [some (vR 19), none, some (vI (s.1)), none] [] (85, s.2)) (fun s y h hk8 hb8 => ?_) _ _ hi8
    obtain ⟨z6, σ7⟩ := s
    show AW Γ mX1_passTo 3 (0, 0) (85, τ) 0 0 53 [some (vR 19), none, some (vI z6), none] [] (85, σ7)
    have h : X1_passTo_l53 n z6 σ7 = some y := h
    unfold X1_passTo_l53 at h
    refine AW.iload_n (n := 54) (dat D_X1_passTo 29 rfl) rfl rfl ?_
    refine AW.aload_n (n := 55) (dat D_X1_passTo 30 rfl) rfl rfl ?_
    refine AW.getQH h (n := 58) fX1_0 wF_X1_12 ly_19 (le45 rfl) rfl rfl (dat D_X1_passTo 31 rfl) rfl (fun k10 hpk10 h => ?_)
    refine AW.getI (n := 61) fX6_5 wF_X1_56 (isSea_ly0 hpk10) (by have := isSea_lt hpk10; omega) rfl rfl (dat D_X1_passTo 32 rfl) rfl ?_
    refine AW.icmp_geH (t := 93) (n := 64) h (dat D_X1_passTo 33 rfl) rfl rfl rfl rfl (fun h => ?_) (fun h => ?_)
    · cases h
      have hb := hb8 _ rfl
      cases hb
      exact AW.to hR8 (lle_n (lle_n (lle_n (lle_n (lle_z)))))
    · refine AW.aload_n (n := 65) (dat D_X1_passTo 34 rfl) rfl rfl ?_
      obtain ⟨v12, hc11, h⟩ := ob_some h
      refine AW.cV (n := 68) (as := []) (st := []) (st' := [vI v12]) (uc' := 0) (us' := 0) (A_X1_earliestBack hΓ hc11) cf_X1_earliestBack ly_19 (le45 rfl) vc_1 (le45 rfl) wM_X1_124 (le45 rfl) (le45 rfl) (dat D_X1_passTo 35 rfl) rfl rfl (le45 rfl) (le45 rfl) rfl (fun _ => ?_) nlt0
      refine AW.istore_n (n := 69) (ls' := [some (vR 19), none, some (vI z6), some (vI v12)]) (dat D_X1_passTo 36 rfl) rfl (le45 rfl) (le45 rfl) rfl rfl ?_
      refine AW.iload_n (n := 70) (dat D_X1_passTo 37 rfl) rfl rfl ?_
      refine AW.iconst (n := 71) (dat D_X1_passTo 38 rfl) rfl ?_
      refine AW.icmp_neH (t := 77) (n := 74) h (dat D_X1_passTo 39 rfl) rfl rfl rfl (by decide) (fun h => ?_) (fun h => ?_)
      · refine AW.goto (t := 93) (dat D_X1_passTo 40 rfl) rfl ?_
        cases h
        have hb := hb8 _ rfl
        cases hb
        exact AW.to hR8 (lle_n (lle_n (lle_n (lle_n (lle_z)))))
      · refine AW.aload_n (n := 78) (dat D_X1_passTo 41 rfl) rfl rfl ?_
        refine AW.aload_n (n := 79) (dat D_X1_passTo 42 rfl) rfl rfl ?_
        refine AW.getR (n := 82) (t := 34) fX1_2 wF_X1_27 ly_19 (le45 rfl) rfl (dat D_X1_passTo 43 rfl) rfl ?_
        refine AW.iload_n (n := 83) (dat D_X1_passTo 44 rfl) rfl rfl ?_
        refine AW.aaldH h (n := 84) rfl ly_34 (le45 rfl) (dat D_X1_passTo 45 rfl) rfl (fun j13 k14 hpk14 h => ?_)
        obtain ⟨σ16, hc15, h⟩ := ob_some h
        refine AW.cV (n := 87) (as := [vR k14]) (st := []) (st' := []) (uc' := 0) (us' := 0) (A_X1_comeOut hΓ hpk14 hc15) cf_X1_comeOut ly_19 (le45 rfl) vc_1 (le45 rfl) wM_X1_128 (le45 rfl) (le45 rfl) (dat D_X1_passTo 46 rfl) rfl rfl (le45 rfl) (le45 rfl) rfl (fun _ => ?_) nlt0
        refine AW.iincH h (n := 90) (dat D_X1_passTo 47 rfl) rfl rfl (le45 rfl) rfl (fun x17 h => ?_)
        refine AW.lq (ls' := [some (vR 19), none, some (vI x17), some (vI v12)]) rfl ?_
        refine AW.goto (t := 53) (dat D_X1_passTo 48 rfl) rfl ?_
        cases h
        exact AW.to (hk8 _ rfl) (lle_s rfl (lle_n (lle_s rfl (lle_n (lle_z)))))
  refine AW.to (ls'' := [some (vR 19), some (vI a0), some (vI 0), none]) ?_ (lle_s rfl (lle_s rfl (lle_s rfl (lle_n (lle_z)))))
  refine aw_iter (fun s : Int × SG => AW Γ mX1_passTo 3 (0, 0) (85, τ) 0 0 2 [some (vR 19), some (vI a0), some (vI (s.1)), none] [] (85, s.2)) (fun s y h hk3 hb3 => ?_) _ _ hi3
  obtain ⟨z1, σ2⟩ := s
  show AW Γ mX1_passTo 3 (0, 0) (85, τ) 0 0 2 [some (vR 19), some (vI a0), some (vI z1), none] [] (85, σ2)
  have h : X1_passTo_l2 n a0 z1 σ2 = some y := h
  unfold X1_passTo_l2 at h
  refine AW.iload_n (n := 3) (dat D_X1_passTo 2 rfl) rfl rfl ?_
  refine AW.aload_n (n := 4) (dat D_X1_passTo 3 rfl) rfl rfl ?_
  refine AW.getQH h (n := 7) fX1_0 wF_X1_12 ly_19 (le45 rfl) rfl rfl (dat D_X1_passTo 4 rfl) rfl (fun k18 hpk18 h => ?_)
  refine AW.getI (n := 10) fX6_5 wF_X1_56 (isSea_ly0 hpk18) (by have := isSea_lt hpk18; omega) rfl rfl (dat D_X1_passTo 5 rfl) rfl ?_
  refine AW.icmp_geH (t := 46) (n := 13) h (dat D_X1_passTo 6 rfl) rfl rfl rfl rfl (fun h => ?_) (fun h => ?_)
  · cases h
    have hb := hb3 _ rfl
    cases hb
    exact AW.to hR3 (lle_s rfl (lle_s rfl (lle_n (lle_n (lle_z)))))
  · refine AW.aload_n (n := 14) (dat D_X1_passTo 7 rfl) rfl rfl ?_
    refine AW.getR (n := 17) (t := 34) fX1_2 wF_X1_27 ly_19 (le45 rfl) rfl (dat D_X1_passTo 8 rfl) rfl ?_
    refine AW.iload_n (n := 18) (dat D_X1_passTo 9 rfl) rfl rfl ?_
    refine AW.aaldH h (n := 19) rfl ly_34 (le45 rfl) (dat D_X1_passTo 10 rfl) rfl (fun j19 k20 hpk20 h => ?_)
    refine AW.getI (n := 22) fX9_6 wF_X1_118 (isSw_ly0 hpk20) (by have := isSw_lt hpk20; omega) rfl rfl (dat D_X1_passTo 11 rfl) rfl ?_
    obtain ⟨s22, h, hq22⟩ := ob_some h
    obtain ⟨σ21, e22⟩ : ∃ z, z = s22 := ⟨_, rfl⟩
    subst e22
    have hJ22 : AW Γ mX1_passTo 3 (0, 0) (85, τ) 0 0 40 [some (vR 19), some (vI a0), some (vI z1), none] [] (85, σ21) := by
      have h : X1_passTo_j40 n z1 σ21 = some _ := hq22
      unfold X1_passTo_j40 at h
      refine AW.iincH h (n := 43) (dat D_X1_passTo 22 rfl) rfl rfl (le45 rfl) rfl (fun x23 h => ?_)
      refine AW.lq (ls' := [some (vR 19), some (vI a0), some (vI x23), none]) rfl ?_
      refine AW.goto (t := 2) (dat D_X1_passTo 23 rfl) rfl ?_
      cases h
      exact AW.to (hk3 _ rfl) (lle_s rfl (lle_s rfl (lle_s rfl (lle_n (lle_z)))))
    refine AW.if_eqH (t := 40) (n := 25) h (dat D_X1_passTo 12 rfl) rfl rfl (fun h => ?_) (fun h => ?_)
    · cases h
      exact AW.to hJ22 (lle_s rfl (lle_s rfl (lle_s rfl (lle_n (lle_z)))))
    · refine AW.aload_n (n := 26) (dat D_X1_passTo 13 rfl) rfl rfl ?_
      refine AW.getR (n := 29) (t := 34) fX1_2 wF_X1_27 ly_19 (le45 rfl) rfl (dat D_X1_passTo 14 rfl) rfl ?_
      refine AW.iload_n (n := 30) (dat D_X1_passTo 15 rfl) rfl rfl ?_
      refine AW.aaldH h (n := 31) rfl ly_34 (le45 rfl) (dat D_X1_passTo 16 rfl) rfl (fun j24 k25 hpk25 h => ?_)
      refine AW.iload_n (n := 32) (dat D_X1_passTo 17 rfl) rfl rfl ?_
      refine AW.aload_n (n := 33) (dat D_X1_passTo 18 rfl) rfl rfl ?_
      refine AW.getI (n := 36) fX1_9 wF_X1_81 ly_19 (le45 rfl) rfl rfl (dat D_X1_passTo 19 rfl) rfl ?_
      refine AW.isub (n := 37) (dat D_X1_passTo 20 rfl) rfl ?_
      obtain ⟨σ27, hc26, h⟩ := ob_some h
      refine AW.cV (n := 40) (as := [vI (a0 - (σ2 19 9))]) (st := []) (st' := []) (uc' := 0) (us' := 0) (A_X9_swimFor hΓ hpk25 hc26) cf_X9_swimFor (isSw_ly0 hpk25) (by have := isSw_lt hpk25; omega) vc_9 (le45 rfl) wM_X1_121 (le45 rfl) (le45 rfl) (dat D_X1_passTo 21 rfl) rfl rfl (le45 rfl) (le45 rfl) rfl (fun _ => ?_) nlt0
      cases h
      exact AW.to hJ22 (lle_s rfl (lle_s rfl (lle_s rfl (lle_n (lle_z)))))
def L_X1_nextWave : List (Nat × Instr × Nat) := [(0, .aload_n 0, 1), (1, .getfield 49, 3), (4, .ifCond .eq 5, 3), (7, .iconst (-1), 1), (8, .ireturn, 1), (9, .aload_n 0, 1), (10, .getfield 45, 3), (13, .iconst (-1), 1), (14, .if_icmp .eq 7, 3), (17, .aload_n 0, 1), (18, .invokevirtual 96, 3), (21, .aload_n 0, 1), (22, .getfield 90, 3), (25, .aload_n 0, 1), (26, .getfield 12, 3), (29, .getfield 99, 3), (32, .if_icmp .lt 10, 3), (35, .aload_n 0, 1), (36, .iconst 1, 1), (37, .putfield 49, 3), (40, .iconst (-1), 1), (41, .ireturn, 1), (42, .aload_n 0, 1), (43, .getfield 12, 3), (46, .aload_n 0, 1), (47, .getfield 90, 3), (50, .iconst 0, 1), (51, .invokevirtual 102, 3), (54, .istore_n 1, 1), (55, .aload_n 0, 1), (56, .iload_n 1, 1), (57, .invokevirtual 106, 3), (60, .iload_n 1, 1), (61, .aload_n 0, 1), (62, .getfield 84, 3), (65, .aload_n 0, 1), (66, .getfield 12, 3), (69, .getfield 109, 3), (72, .iadd, 1), (73, .if_icmp .le 10, 3), (76, .aload_n 0, 1), (77, .iconst 1, 1), (78, .putfield 49, 3), (81, .iconst (-1), 1), (82, .ireturn, 1), (83, .aload_n 0, 1), (84, .iload_n 1, 1), (85, .invokevirtual 112, 3), (88, .aload_n 0, 1), (89, .aload_n 0, 1), (90, .getfield 90, 3), (93, .putfield 45, 3), (96, .aload_n 0, 1), (97, .dup, 1), (98, .getfield 90, 3), (101, .iconst 1, 1), (102, .iadd, 1), (103, .putfield 90, 3), (106, .aload_n 0, 1), (107, .getfield 45, 3), (110, .ireturn, 1)]
theorem D_X1_nextWave : dOK cX1_nextWave L_X1_nextWave = true := by decide +kernel
theorem cf_X1_nextWave : CFV mX1_nextWave 0 := ⟨wI_X1_nextWave, wS_X1_nextWave, wN_WaveRight_Heat, wC_X1_nextWave, rfl, ⟨by decide +kernel, by decide +kernel, by decide +kernel⟩, le45 rfl⟩
def X1_nextWave_j21 (n : Nat) (σ1 : SG) : Option (Int × SG) :=
  ckR isSea (σ1 19 0) fun k3 =>
  if w32 (σ1 19 12) < w32 (σ1 k3 6) then
    ckR isSea (σ1 19 0) fun k4 =>
    (X6_factOf n k4 (σ1 19 12) 0 σ1).bind fun v6 =>
    (X1_beginAgain n v6 σ1).bind fun σ8 =>
    ckR isSea (σ8 19 0) fun k9 =>
    if w32 v6 ≤ w32 ((σ8 19 10) + (σ8 k9 7)) then
      (X1_passTo n v6 σ8).bind fun σ11 =>
      lt (up σ11 19 13 (σ11 19 12)) fun σ12 =>
      lt (up σ12 19 12 ((σ12 19 12) + 1)) fun σ13 =>
      some (((σ13 19 13), σ13))
    else
      lt (up σ8 19 14 1) fun σ14 =>
      some (((-1), σ14))
  else
    lt (up σ1 19 14 1) fun σ15 =>
    some (((-1), σ15))
def X1_nextWave (n : Nat) (σ : SG) : Option (Int × SG) :=
  if w32 (σ 19 14) = 0 then
    ((if w32 (σ 19 13) = (-1) then
      some (σ)
    else
      (X1_goBy n σ).bind fun σ17 =>
      some (σ17)) : Option (SG)).bind (fun s => X1_nextWave_j21 n s)
  else
    some (((-1), σ))
set_option maxHeartbeats 4000000 in
set_option maxRecDepth 100000 in
theorem A_X1_nextWave {Γ : GA} (hΓ : (gl Γ).stackTraces = false) {n : Nat} {σ : SG} {r : Int} {τ : SG}  (h : X1_nextWave n σ = some (r, τ)) : AM Γ mX1_nextWave 7 0 0 [vR 19] (85, σ) (0, r) (85, τ) := by
  refine AM.of pl_X1 rfl wC_X1_nextWave (le45 rfl) hΓ ?_
  refine AW.to (ls'' := [some (vR 19), none]) ?_ (lle_s rfl (lle_e (lle_z)))
  unfold X1_nextWave at h
  refine AW.aload_n (n := 1) (dat D_X1_nextWave 0 rfl) rfl rfl ?_
  refine AW.getI (n := 4) fX1_14 wF_X1_49 ly_19 (le45 rfl) rfl rfl (dat D_X1_nextWave 1 rfl) rfl ?_
  refine AW.if_eqH (t := 9) (n := 7) h (dat D_X1_nextWave 2 rfl) rfl rfl (fun h => ?_) (fun h => ?_)
  · refine AW.aload_n (n := 10) (dat D_X1_nextWave 5 rfl) rfl rfl ?_
    refine AW.getI (n := 13) fX1_13 wF_X1_45 ly_19 (le45 rfl) rfl rfl (dat D_X1_nextWave 6 rfl) rfl ?_
    refine AW.iconst (n := 14) (dat D_X1_nextWave 7 rfl) rfl ?_
    obtain ⟨s2, h, hq2⟩ := ob_some h
    obtain ⟨σ1, e2⟩ : ∃ z, z = s2 := ⟨_, rfl⟩
    subst e2
    have hJ2 : AW Γ mX1_nextWave 7 (0, r) (85, τ) 0 0 21 [some (vR 19), none] [] (85, σ1) := by
      have h : X1_nextWave_j21 n σ1 = some _ := hq2
      unfold X1_nextWave_j21 at h
      refine AW.aload_n (n := 22) (dat D_X1_nextWave 11 rfl) rfl rfl ?_
      refine AW.getI (n := 25) fX1_12 wF_X1_90 ly_19 (le45 rfl) rfl rfl (dat D_X1_nextWave 12 rfl) rfl ?_
      refine AW.aload_n (n := 26) (dat D_X1_nextWave 13 rfl) rfl rfl ?_
      refine AW.getQH h (n := 29) fX1_0 wF_X1_12 ly_19 (le45 rfl) rfl rfl (dat D_X1_nextWave 14 rfl) rfl (fun k3 hpk3 h => ?_)
      refine AW.getI (n := 32) fX6_6 wF_X1_99 (isSea_ly0 hpk3) (by have := isSea_lt hpk3; omega) rfl rfl (dat D_X1_nextWave 15 rfl) rfl ?_
      refine AW.icmp_ltH (t := 42) (n := 35) h (dat D_X1_nextWave 16 rfl) rfl rfl rfl rfl (fun h => ?_) (fun h => ?_)
      · refine AW.aload_n (n := 43) (dat D_X1_nextWave 22 rfl) rfl rfl ?_
        refine AW.getQH h (n := 46) fX1_0 wF_X1_12 ly_19 (le45 rfl) rfl rfl (dat D_X1_nextWave 23 rfl) rfl (fun k4 hpk4 h => ?_)
        refine AW.aload_n (n := 47) (dat D_X1_nextWave 24 rfl) rfl rfl ?_
        refine AW.getI (n := 50) fX1_12 wF_X1_90 ly_19 (le45 rfl) rfl rfl (dat D_X1_nextWave 25 rfl) rfl ?_
        refine AW.iconst (n := 51) (dat D_X1_nextWave 26 rfl) rfl ?_
        obtain ⟨v6, hc5, h⟩ := ob_some h
        refine AW.cV (n := 54) (as := [vI (σ1 19 12), vI 0]) (st := []) (st' := [vI v6]) (uc' := 0) (us' := 0) (A_X6_factOf hΓ hpk4 hc5) cf_X6_factOf (isSea_ly0 hpk4) (by have := isSea_lt hpk4; omega) vc_6 (le45 rfl) wM_X1_102 (le45 rfl) (le45 rfl) (dat D_X1_nextWave 27 rfl) rfl rfl (le45 rfl) (le45 rfl) rfl (fun _ => ?_) nlt0
        refine AW.istore_n (n := 55) (ls' := [some (vR 19), some (vI v6)]) (dat D_X1_nextWave 28 rfl) rfl (le45 rfl) (le45 rfl) rfl rfl ?_
        refine AW.aload_n (n := 56) (dat D_X1_nextWave 29 rfl) rfl rfl ?_
        refine AW.iload_n (n := 57) (dat D_X1_nextWave 30 rfl) rfl rfl ?_
        obtain ⟨σ8, hc7, h⟩ := ob_some h
        refine AW.cV (n := 60) (as := [vI v6]) (st := []) (st' := []) (uc' := 0) (us' := 0) (A_X1_beginAgain hΓ hc7) cf_X1_beginAgain ly_19 (le45 rfl) vc_1 (le45 rfl) wM_X1_106 (le45 rfl) (le45 rfl) (dat D_X1_nextWave 31 rfl) rfl rfl (le45 rfl) (le45 rfl) rfl (fun _ => ?_) nlt0
        refine AW.iload_n (n := 61) (dat D_X1_nextWave 32 rfl) rfl rfl ?_
        refine AW.aload_n (n := 62) (dat D_X1_nextWave 33 rfl) rfl rfl ?_
        refine AW.getI (n := 65) fX1_10 wF_X1_84 ly_19 (le45 rfl) rfl rfl (dat D_X1_nextWave 34 rfl) rfl ?_
        refine AW.aload_n (n := 66) (dat D_X1_nextWave 35 rfl) rfl rfl ?_
        refine AW.getQH h (n := 69) fX1_0 wF_X1_12 ly_19 (le45 rfl) rfl rfl (dat D_X1_nextWave 36 rfl) rfl (fun k9 hpk9 h => ?_)
        refine AW.getI (n := 72) fX6_7 wF_X1_109 (isSea_ly0 hpk9) (by have := isSea_lt hpk9; omega) rfl rfl (dat D_X1_nextWave 37 rfl) rfl ?_
        refine AW.iadd (n := 73) (dat D_X1_nextWave 38 rfl) rfl ?_
        refine AW.icmp_leH (t := 83) (n := 76) h (dat D_X1_nextWave 39 rfl) rfl rfl rfl rfl (fun h => ?_) (fun h => ?_)
        · refine AW.aload_n (n := 84) (dat D_X1_nextWave 45 rfl) rfl rfl ?_
          refine AW.iload_n (n := 85) (dat D_X1_nextWave 46 rfl) rfl rfl ?_
          obtain ⟨σ11, hc10, h⟩ := ob_some h
          refine AW.cV (n := 88) (as := [vI v6]) (st := []) (st' := []) (uc' := 0) (us' := 0) (A_X1_passTo hΓ hc10) cf_X1_passTo ly_19 (le45 rfl) vc_1 (le45 rfl) wM_X1_112 (le45 rfl) (le45 rfl) (dat D_X1_nextWave 47 rfl) rfl rfl (le45 rfl) (le45 rfl) rfl (fun _ => ?_) nlt0
          refine AW.aload_n (n := 89) (dat D_X1_nextWave 48 rfl) rfl rfl ?_
          refine AW.aload_n (n := 90) (dat D_X1_nextWave 49 rfl) rfl rfl ?_
          refine AW.getI (n := 93) fX1_12 wF_X1_90 ly_19 (le45 rfl) rfl rfl (dat D_X1_nextWave 50 rfl) rfl ?_
          refine AW.putI (n := 96) fX1_13 wF_X1_45 ly_19 (le45 rfl) rfl rfl rfl (dat D_X1_nextWave 51 rfl) rfl ?_
          refine AW.ltS h (fun σ12 h => ?_)
          refine AW.aload_n (n := 97) (dat D_X1_nextWave 52 rfl) rfl rfl ?_
          refine AW.dup (n := 98) (dat D_X1_nextWave 53 rfl) rfl (cR _) ?_
          refine AW.getI (n := 101) fX1_12 wF_X1_90 ly_19 (le45 rfl) rfl rfl (dat D_X1_nextWave 54 rfl) rfl ?_
          refine AW.iconst (n := 102) (dat D_X1_nextWave 55 rfl) rfl ?_
          refine AW.iadd (n := 103) (dat D_X1_nextWave 56 rfl) rfl ?_
          refine AW.putI (n := 106) fX1_12 wF_X1_90 ly_19 (le45 rfl) rfl rfl rfl (dat D_X1_nextWave 57 rfl) rfl ?_
          refine AW.ltS h (fun σ13 h => ?_)
          refine AW.aload_n (n := 107) (dat D_X1_nextWave 58 rfl) rfl rfl ?_
          refine AW.getI (n := 110) fX1_13 wF_X1_45 ly_19 (le45 rfl) rfl rfl (dat D_X1_nextWave 59 rfl) rfl ?_
          cases h
          exact AW.iret rfl rfl rfl (dat D_X1_nextWave 60 rfl)
        · refine AW.aload_n (n := 77) (dat D_X1_nextWave 40 rfl) rfl rfl ?_
          refine AW.iconst (n := 78) (dat D_X1_nextWave 41 rfl) rfl ?_
          refine AW.putZ (n := 81) (Or.inr rfl) fX1_14 wF_X1_49 ly_19 (le45 rfl) rfl rfl rfl (dat D_X1_nextWave 42 rfl) rfl ?_
          refine AW.ltS h (fun σ14 h => ?_)
          refine AW.iconst (n := 82) (dat D_X1_nextWave 43 rfl) rfl ?_
          cases h
          exact AW.iret rfl rfl rfl (dat D_X1_nextWave 44 rfl)
      · refine AW.aload_n (n := 36) (dat D_X1_nextWave 17 rfl) rfl rfl ?_
        refine AW.iconst (n := 37) (dat D_X1_nextWave 18 rfl) rfl ?_
        refine AW.putZ (n := 40) (Or.inr rfl) fX1_14 wF_X1_49 ly_19 (le45 rfl) rfl rfl rfl (dat D_X1_nextWave 19 rfl) rfl ?_
        refine AW.ltS h (fun σ15 h => ?_)
        refine AW.iconst (n := 41) (dat D_X1_nextWave 20 rfl) rfl ?_
        cases h
        exact AW.iret rfl rfl rfl (dat D_X1_nextWave 21 rfl)
    refine AW.icmp_eqH (t := 21) (n := 17) h (dat D_X1_nextWave 8 rfl) rfl rfl rfl (by decide) (fun h => ?_) (fun h => ?_)
    · cases h
      exact AW.to hJ2 (lle_s rfl (lle_n (lle_z)))
    · refine AW.aload_n (n := 18) (dat D_X1_nextWave 9 rfl) rfl rfl ?_
      obtain ⟨σ17, hc16, h⟩ := ob_some h
      refine AW.cV (n := 21) (as := []) (st := []) (st' := []) (uc' := 0) (us' := 0) (A_X1_goBy hΓ hc16) cf_X1_goBy ly_19 (le45 rfl) vc_1 (le45 rfl) wM_X1_96 (le45 rfl) (le45 rfl) (dat D_X1_nextWave 10 rfl) rfl rfl (le45 rfl) (le45 rfl) rfl (fun _ => ?_) nlt0
      cases h
      exact AW.to hJ2 (lle_s rfl (lle_n (lle_z)))
  · refine AW.iconst (n := 8) (dat D_X1_nextWave 3 rfl) rfl ?_
    cases h
    exact AW.iret rfl rfl rfl (dat D_X1_nextWave 4 rfl)
def L_X11_comes : List (Nat × Instr × Nat) := [(0, .aload_n 0, 1), (1, .getfield 55, 3), (4, .invokevirtual 130, 3), (7, .ireturn, 1)]
theorem D_X11_comes : dOK cX11_comes L_X11_comes = true := by decide +kernel
theorem cf_X11_comes : CFV mX11_comes 0 := ⟨wI_X11_comes, wS_X11_comes, wN_WaveRight, wC_X11_comes, rfl, ⟨by decide +kernel, by decide +kernel, by decide +kernel⟩, le45 rfl⟩
def X11_comes (n : Nat) (σ : SG) : Option (Int × SG) :=
  bnd2 (X1_nextWave n σ) fun v2 σ3 =>
  some ((v2, σ3))
set_option maxHeartbeats 4000000 in
set_option maxRecDepth 100000 in
theorem A_X11_comes {Γ : GA} (hΓ : (gl Γ).stackTraces = false) {n : Nat} {σ : SG} {r : Int} {τ : SG}  (h : X11_comes n σ = some (r, τ)) : AM Γ mX11_comes 8 0 0 [vR 0] (85, σ) (0, r) (85, τ) := by
  refine AM.of pl_X11 rfl wC_X11_comes (le45 rfl) hΓ ?_
  refine AW.to (ls'' := [some (vR 0)]) ?_ (lle_s rfl (lle_z))
  unfold X11_comes at h
  refine AW.aload_n (n := 1) (dat D_X11_comes 0 rfl) rfl rfl ?_
  refine AW.getR (n := 4) (t := 19) fX11_6 wF_X11_55 ly_0 (le45 rfl) rfl (dat D_X11_comes 1 rfl) rfl ?_
  obtain ⟨v2, σ3, hc1, h⟩ := bnd2_some h
  refine AW.cV (n := 7) (as := []) (st := []) (st' := [vI v2]) (uc' := 0) (us' := 0) (A_X1_nextWave hΓ hc1) cf_X1_nextWave ly_19 (le45 rfl) vc_1 (le45 rfl) wM_X11_130 (le45 rfl) (le45 rfl) (dat D_X11_comes 2 rfl) rfl rfl (le45 rfl) (le45 rfl) rfl (fun _ => ?_) nlt0
  cases h
  exact AW.iret rfl rfl rfl (dat D_X11_comes 3 rfl)
def L_X11_mustBeOneOf : List (Nat × Instr × Nat) := [(0, .iload_n 1, 1), (1, .ifCond .lt 8, 3), (4, .iload_n 1, 1), (5, .iload_n 2, 1), (6, .if_icmp .lt 14, 3), (9, .new 246, 3), (12, .dup, 1), (13, .ldc_w 366, 3), (16, .invokespecial 250, 3), (19, .athrow, 1), (20, .return_, 1)]
theorem D_X11_mustBeOneOf : dOK cX11_mustBeOneOf L_X11_mustBeOneOf = true := by decide +kernel
theorem cf_X11_mustBeOneOf : CFV mX11_mustBeOneOf 2 := ⟨wI_X11_mustBeOneOf, wS_X11_mustBeOneOf, wN_WaveRight, wC_X11_mustBeOneOf, rfl, ⟨by decide +kernel, by decide +kernel, by decide +kernel⟩, le45 rfl⟩
def X11_mustBeOneOf (n : Nat) (a0 : Int) (a1 : Int) (σ : SG) : Option (Nat) :=
  if w32 a0 < 0 then
    some (3)
  else
    if w32 a0 < w32 a1 then
      some (0)
    else
      some (3)
set_option maxHeartbeats 4000000 in
set_option maxRecDepth 100000 in
theorem A_X11_mustBeOneOf {Γ : GA} (hΓ : (gl Γ).stackTraces = false) {n : Nat} {a0 : Int} {a1 : Int} {σ : SG} {r : Nat}  (h : X11_mustBeOneOf n a0 a1 σ = some r) : AM Γ mX11_mustBeOneOf 8 1 6 [vR 0, vI a0, vI a1] (85, σ) (r, 0) (85, σ) := by
  refine AM.of pl_X11 rfl wC_X11_mustBeOneOf (le45 rfl) hΓ ?_
  refine AW.to (ls'' := [some (vR 0), some (vI a0), some (vI a1)]) ?_ (lle_s rfl (lle_s rfl (lle_s rfl (lle_z))))
  unfold X11_mustBeOneOf at h
  refine AW.iload_n (n := 1) (dat D_X11_mustBeOneOf 0 rfl) rfl rfl ?_
  refine AW.if_ltH (t := 9) (n := 4) h (dat D_X11_mustBeOneOf 1 rfl) rfl rfl (fun h => ?_) (fun h => ?_)
  · cases h
    exact AW.throw3W (j := 29)  wL_X11_246 wN_java_util_NoSuchElementException rfl wM_X11_250 (dat D_X11_mustBeOneOf 5 rfl) (dat D_X11_mustBeOneOf 6 rfl) (dat D_X11_mustBeOneOf 7 rfl) (dat D_X11_mustBeOneOf 8 rfl) (dat D_X11_mustBeOneOf 9 rfl) rfl (le45 rfl) (le45 rfl) rfl rfl (le45 rfl) (le45 rfl)
  · refine AW.iload_n (n := 5) (dat D_X11_mustBeOneOf 2 rfl) rfl rfl ?_
    refine AW.iload_n (n := 6) (dat D_X11_mustBeOneOf 3 rfl) rfl rfl ?_
    refine AW.icmp_ltH (t := 20) (n := 9) h (dat D_X11_mustBeOneOf 4 rfl) rfl rfl rfl rfl (fun h => ?_) (fun h => ?_)
    · cases h
      exact AW.vret rfl rfl rfl (dat D_X11_mustBeOneOf 10 rfl)
    · cases h
      exact AW.throw3W (j := 29)  wL_X11_246 wN_java_util_NoSuchElementException rfl wM_X11_250 (dat D_X11_mustBeOneOf 5 rfl) (dat D_X11_mustBeOneOf 6 rfl) (dat D_X11_mustBeOneOf 7 rfl) (dat D_X11_mustBeOneOf 8 rfl) (dat D_X11_mustBeOneOf 9 rfl) rfl (le45 rfl) (le45 rfl) rfl rfl (le45 rfl) (le45 rfl)
def L_X11_mustBeWave : List (Nat × Instr × Nat) := [(0, .iload_n 1, 1), (1, .ifCond .lt 17, 3), (4, .iload_n 1, 1), (5, .aload_n 0, 1), (6, .getfield 55, 3), (9, .getfield 102, 3), (12, .getfield 108, 3), (15, .if_icmp .lt 14, 3), (18, .new 359, 3), (21, .dup, 1), (22, .ldc_w 364, 3), (25, .invokespecial 363, 3), (28, .athrow, 1), (29, .return_, 1)]
theorem D_X11_mustBeWave : dOK cX11_mustBeWave L_X11_mustBeWave = true := by decide +kernel
theorem cf_X11_mustBeWave : CFV mX11_mustBeWave 1 := ⟨wI_X11_mustBeWave, wS_X11_mustBeWave, wN_WaveRight, wC_X11_mustBeWave, rfl, ⟨by decide +kernel, by decide +kernel, by decide +kernel⟩, le45 rfl⟩
def X11_mustBeWave (n : Nat) (a0 : Int) (σ : SG) : Option (Nat) :=
  if w32 a0 < 0 then
    some (1)
  else
    ckR isSea (σ 19 0) fun k1 =>
    if w32 a0 < w32 (σ k1 6) then
      some (0)
    else
      some (1)
set_option maxHeartbeats 4000000 in
set_option maxRecDepth 100000 in
theorem A_X11_mustBeWave {Γ : GA} (hΓ : (gl Γ).stackTraces = false) {n : Nat} {a0 : Int} {σ : SG} {r : Nat}  (h : X11_mustBeWave n a0 σ = some r) : AM Γ mX11_mustBeWave 8 1 6 [vR 0, vI a0] (85, σ) (r, 0) (85, σ) := by
  refine AM.of pl_X11 rfl wC_X11_mustBeWave (le45 rfl) hΓ ?_
  refine AW.to (ls'' := [some (vR 0), some (vI a0)]) ?_ (lle_s rfl (lle_s rfl (lle_z)))
  unfold X11_mustBeWave at h
  refine AW.iload_n (n := 1) (dat D_X11_mustBeWave 0 rfl) rfl rfl ?_
  refine AW.if_ltH (t := 18) (n := 4) h (dat D_X11_mustBeWave 1 rfl) rfl rfl (fun h => ?_) (fun h => ?_)
  · cases h
    exact AW.throwW (k := 1) (j := 28) (by decide) thrW_1 wL_X11_359 wN_java_lang_IndexOutOfBoundsException rfl wM_X11_363 (dat D_X11_mustBeWave 8 rfl) (dat D_X11_mustBeWave 9 rfl) (dat D_X11_mustBeWave 10 rfl) (dat D_X11_mustBeWave 11 rfl) (dat D_X11_mustBeWave 12 rfl) rfl (le45 rfl) (le45 rfl) rfl rfl (le45 rfl) (le45 rfl)
  · refine AW.iload_n (n := 5) (dat D_X11_mustBeWave 2 rfl) rfl rfl ?_
    refine AW.aload_n (n := 6) (dat D_X11_mustBeWave 3 rfl) rfl rfl ?_
    refine AW.getR (n := 9) (t := 19) fX11_6 wF_X11_55 ly_0 (le45 rfl) rfl (dat D_X11_mustBeWave 4 rfl) rfl ?_
    refine AW.getQH h (n := 12) fX1_0 wF_X11_102 ly_19 (le45 rfl) rfl rfl (dat D_X11_mustBeWave 5 rfl) rfl (fun k1 hpk1 h => ?_)
    refine AW.getI (n := 15) fX6_6 wF_X11_108 (isSea_ly0 hpk1) (by have := isSea_lt hpk1; omega) rfl rfl (dat D_X11_mustBeWave 6 rfl) rfl ?_
    refine AW.icmp_ltH (t := 29) (n := 18) h (dat D_X11_mustBeWave 7 rfl) rfl rfl rfl rfl (fun h => ?_) (fun h => ?_)
    · cases h
      exact AW.vret rfl rfl rfl (dat D_X11_mustBeWave 13 rfl)
    · cases h
      exact AW.throwW (k := 1) (j := 28) (by decide) thrW_1 wL_X11_359 wN_java_lang_IndexOutOfBoundsException rfl wM_X11_363 (dat D_X11_mustBeWave 8 rfl) (dat D_X11_mustBeWave 9 rfl) (dat D_X11_mustBeWave 10 rfl) (dat D_X11_mustBeWave 11 rfl) (dat D_X11_mustBeWave 12 rfl) rfl (le45 rfl) (le45 rfl) rfl rfl (le45 rfl) (le45 rfl)
def L_X11_wave : List (Nat × Instr × Nat) := [(0, .aload_n 0, 1), (1, .iload_n 1, 1), (2, .invokevirtual 134, 3), (5, .aload_n 0, 1), (6, .iload_n 2, 1), (7, .iconst 5, 1), (8, .invokevirtual 137, 3), (11, .aload_n 0, 1), (12, .getfield 55, 3), (15, .getfield 102, 3), (18, .iload_n 1, 1), (19, .iload_n 2, 1), (20, .invokevirtual 141, 3), (23, .ireturn, 1)]
theorem D_X11_wave : dOK cX11_wave L_X11_wave = true := by decide +kernel
theorem cf_X11_wave : CFV mX11_wave 2 := ⟨wI_X11_wave, wS_X11_wave, wN_WaveRight, wC_X11_wave, rfl, ⟨by decide +kernel, by decide +kernel, by decide +kernel⟩, le45 rfl⟩
def X11_wave (n : Nat) (a0 : Int) (a1 : Int) (σ : SG) : Option ((Nat × Int) × SG) :=
  (X11_mustBeWave n a0 σ).bind fun t2 => if t2 = 0 then
  (X11_mustBeOneOf n a1 5 σ).bind fun t4 => if t4 = 0 then
  ckR isSea (σ 19 0) fun k5 =>
  (X6_factOf n k5 a0 a1 σ).bind fun v7 =>
  some (((0, v7), σ))
  else some (((t4, 0), σ))
  else some (((t2, 0), σ))
set_option maxHeartbeats 4000000 in
set_option maxRecDepth 100000 in
theorem A_X11_wave {Γ : GA} (hΓ : (gl Γ).stackTraces = false) {n : Nat} {a0 : Int} {a1 : Int} {σ : SG} {o : Nat × Int} {τ : SG}  (h : X11_wave n a0 a1 σ = some (o, τ)) : AM Γ mX11_wave 9 8 48 [vR 0, vI a0, vI a1] (85, σ) o (85, τ) := by
  refine AM.of pl_X11 rfl wC_X11_wave (le45 rfl) hΓ ?_
  refine AW.to (ls'' := [some (vR 0), some (vI a0), some (vI a1)]) ?_ (lle_s rfl (lle_s rfl (lle_s rfl (lle_z))))
  unfold X11_wave at h
  refine AW.aload_n (n := 1) (dat D_X11_wave 0 rfl) rfl rfl ?_
  refine AW.iload_n (n := 2) (dat D_X11_wave 1 rfl) rfl rfl ?_
  obtain ⟨t2, hc1, h⟩ := ob_some h
  refine AW.cV (n := 5) (as := [vI a0]) (st := []) (st' := []) (uc' := 7) (us' := 42) (A_X11_mustBeWave hΓ hc1) cf_X11_mustBeWave ly_0 (le45 rfl) vc_11 (le45 rfl) wM_X11_134 (le45 rfl) (le45 rfl) (dat D_X11_wave 2 rfl) rfl rfl (le45 rfl) (le45 rfl) rfl (fun q => ?_) (fun q => ?_)
  rotate_left
  · have h := ite_f h (by have q : 0 < t2 := q; omega)
    cases h
    exact AX.out rfl q rfl rfl
  have h := ite_t h q
  refine AW.aload_n (n := 6) (dat D_X11_wave 3 rfl) rfl rfl ?_
  refine AW.iload_n (n := 7) (dat D_X11_wave 4 rfl) rfl rfl ?_
  refine AW.iconst (n := 8) (dat D_X11_wave 5 rfl) rfl ?_
  obtain ⟨t4, hc3, h⟩ := ob_some h
  refine AW.cV (n := 11) (as := [vI a1, vI 5]) (st := []) (st' := []) (uc' := 6) (us' := 36) (A_X11_mustBeOneOf hΓ hc3) cf_X11_mustBeOneOf ly_0 (le45 rfl) vc_11 (le45 rfl) wM_X11_137 (le45 rfl) (le45 rfl) (dat D_X11_wave 6 rfl) rfl rfl (le45 rfl) (le45 rfl) rfl (fun q => ?_) (fun q => ?_)
  rotate_left
  · have h := ite_f h (by have q : 0 < t4 := q; omega)
    cases h
    exact AX.out rfl q rfl rfl
  have h := ite_t h q
  refine AW.aload_n (n := 12) (dat D_X11_wave 7 rfl) rfl rfl ?_
  refine AW.getR (n := 15) (t := 19) fX11_6 wF_X11_55 ly_0 (le45 rfl) rfl (dat D_X11_wave 8 rfl) rfl ?_
  refine AW.getQH h (n := 18) fX1_0 wF_X11_102 ly_19 (le45 rfl) rfl rfl (dat D_X11_wave 9 rfl) rfl (fun k5 hpk5 h => ?_)
  refine AW.iload_n (n := 19) (dat D_X11_wave 10 rfl) rfl rfl ?_
  refine AW.iload_n (n := 20) (dat D_X11_wave 11 rfl) rfl rfl ?_
  obtain ⟨v7, hc6, h⟩ := ob_some h
  refine AW.cV (n := 23) (as := [vI a0, vI a1]) (st := []) (st' := [vI v7]) (uc' := 6) (us' := 36) (A_X6_factOf hΓ hpk5 hc6) cf_X6_factOf (isSea_ly0 hpk5) (by have := isSea_lt hpk5; omega) vc_6 (le45 rfl) wM_X11_141 (le45 rfl) (le45 rfl) (dat D_X11_wave 12 rfl) rfl rfl (le45 rfl) (le45 rfl) rfl (fun _ => ?_) nlt0
  cases h
  exact AW.iret rfl rfl rfl (dat D_X11_wave 13 rfl)
def L_X11_mustBeSurfer : List (Nat × Instr × Nat) := [(0, .iload_n 1, 1), (1, .ifCond .lt 17, 3), (4, .iload_n 1, 1), (5, .aload_n 0, 1), (6, .getfield 55, 3), (9, .getfield 102, 3), (12, .getfield 122, 3), (15, .if_icmp .lt 14, 3), (18, .new 359, 3), (21, .dup, 1), (22, .ldc_w 361, 3), (25, .invokespecial 363, 3), (28, .athrow, 1), (29, .return_, 1)]
theorem D_X11_mustBeSurfer : dOK cX11_mustBeSurfer L_X11_mustBeSurfer = true := by decide +kernel
theorem cf_X11_mustBeSurfer : CFV mX11_mustBeSurfer 1 := ⟨wI_X11_mustBeSurfer, wS_X11_mustBeSurfer, wN_WaveRight, wC_X11_mustBeSurfer, rfl, ⟨by decide +kernel, by decide +kernel, by decide +kernel⟩, le45 rfl⟩
def X11_mustBeSurfer (n : Nat) (a0 : Int) (σ : SG) : Option (Nat) :=
  if w32 a0 < 0 then
    some (1)
  else
    ckR isSea (σ 19 0) fun k1 =>
    if w32 a0 < w32 (σ k1 5) then
      some (0)
    else
      some (1)
set_option maxHeartbeats 4000000 in
set_option maxRecDepth 100000 in
theorem A_X11_mustBeSurfer {Γ : GA} (hΓ : (gl Γ).stackTraces = false) {n : Nat} {a0 : Int} {σ : SG} {r : Nat}  (h : X11_mustBeSurfer n a0 σ = some r) : AM Γ mX11_mustBeSurfer 8 1 6 [vR 0, vI a0] (85, σ) (r, 0) (85, σ) := by
  refine AM.of pl_X11 rfl wC_X11_mustBeSurfer (le45 rfl) hΓ ?_
  refine AW.to (ls'' := [some (vR 0), some (vI a0)]) ?_ (lle_s rfl (lle_s rfl (lle_z)))
  unfold X11_mustBeSurfer at h
  refine AW.iload_n (n := 1) (dat D_X11_mustBeSurfer 0 rfl) rfl rfl ?_
  refine AW.if_ltH (t := 18) (n := 4) h (dat D_X11_mustBeSurfer 1 rfl) rfl rfl (fun h => ?_) (fun h => ?_)
  · cases h
    exact AW.throwW (k := 1) (j := 30) (by decide) thrW_1 wL_X11_359 wN_java_lang_IndexOutOfBoundsException rfl wM_X11_363 (dat D_X11_mustBeSurfer 8 rfl) (dat D_X11_mustBeSurfer 9 rfl) (dat D_X11_mustBeSurfer 10 rfl) (dat D_X11_mustBeSurfer 11 rfl) (dat D_X11_mustBeSurfer 12 rfl) rfl (le45 rfl) (le45 rfl) rfl rfl (le45 rfl) (le45 rfl)
  · refine AW.iload_n (n := 5) (dat D_X11_mustBeSurfer 2 rfl) rfl rfl ?_
    refine AW.aload_n (n := 6) (dat D_X11_mustBeSurfer 3 rfl) rfl rfl ?_
    refine AW.getR (n := 9) (t := 19) fX11_6 wF_X11_55 ly_0 (le45 rfl) rfl (dat D_X11_mustBeSurfer 4 rfl) rfl ?_
    refine AW.getQH h (n := 12) fX1_0 wF_X11_102 ly_19 (le45 rfl) rfl rfl (dat D_X11_mustBeSurfer 5 rfl) rfl (fun k1 hpk1 h => ?_)
    refine AW.getI (n := 15) fX6_5 wF_X11_122 (isSea_ly0 hpk1) (by have := isSea_lt hpk1; omega) rfl rfl (dat D_X11_mustBeSurfer 6 rfl) rfl ?_
    refine AW.icmp_ltH (t := 29) (n := 18) h (dat D_X11_mustBeSurfer 7 rfl) rfl rfl rfl rfl (fun h => ?_) (fun h => ?_)
    · cases h
      exact AW.vret rfl rfl rfl (dat D_X11_mustBeSurfer 13 rfl)
    · cases h
      exact AW.throwW (k := 1) (j := 30) (by decide) thrW_1 wL_X11_359 wN_java_lang_IndexOutOfBoundsException rfl wM_X11_363 (dat D_X11_mustBeSurfer 8 rfl) (dat D_X11_mustBeSurfer 9 rfl) (dat D_X11_mustBeSurfer 10 rfl) (dat D_X11_mustBeSurfer 11 rfl) (dat D_X11_mustBeSurfer 12 rfl) rfl (le45 rfl) (le45 rfl) rfl rfl (le45 rfl) (le45 rfl)
def L_X8_totalWith : List (Nat × Instr × Nat) := [(0, .iload_n 2, 1), (1, .iload_n 3, 1), (2, .invokestatic 15, 3), (5, .istore 4, 2), (7, .iload_n 2, 1), (8, .iload_n 3, 1), (9, .invokestatic 21, 3), (12, .istore 5, 2), (14, .aload_n 1, 1), (15, .getfield 24, 3), (18, .iload 4, 2), (20, .invokestatic 15, 3), (23, .istore 6, 2), (25, .aload_n 1, 1), (26, .getfield 30, 3), (29, .ifCond .le 6, 3), (32, .iload 6, 2), (34, .ireturn, 1), (35, .iload 6, 2), (37, .aload_n 1, 1), (38, .getfield 24, 3), (41, .iload 4, 2), (43, .invokestatic 21, 3), (46, .aload_n 1, 1), (47, .getfield 33, 3), (50, .iload 5, 2), (52, .invokestatic 15, 3), (55, .invokestatic 15, 3), (58, .iadd, 1), (59, .ireturn, 1)]
theorem D_X8_totalWith : dOK cX8_totalWith L_X8_totalWith = true := by decide +kernel
theorem cf_X8_totalWith : CFV mX8_totalWith 3 := ⟨wI_X8_totalWith, wS_X8_totalWith, wN_WaveRight_Standing, wC_X8_totalWith, rfl, ⟨by decide +kernel, by decide +kernel, by decide +kernel⟩, le45 rfl⟩
def X8_totalWith (n : Nat) (a0 : Nat) (a1 : Int) (a2 : Int) (σ : SG) : Option (Int) :=
  lt (mx32 a1 a2) fun x1 =>
  lt (mn32 a1 a2) fun x2 =>
  lt (mx32 (σ a0 10) x1) fun x3 =>
  if w32 (σ a0 9) ≤ 0 then
    some ((x3 + (mx32 (mn32 (σ a0 10) x1) (mx32 (σ a0 11) x2))))
  else
    some (x3)
set_option maxHeartbeats 4000000 in
set_option maxRecDepth 100000 in
theorem A_X8_totalWith {Γ : GA} (hΓ : (gl Γ).stackTraces = false) {n : Nat} {a0 : Nat} {a1 : Int} {a2 : Int} {σ : SG} {r : Int} (hpa0 : isSw a0 = true) (h : X8_totalWith n a0 a1 a2 σ = some r) : AM Γ mX8_totalWith 2 0 0 [vR 49, vR a0, vI a1, vI a2] (85, σ) (0, r) (85, σ) := by
  refine AM.of pl_X8 rfl wC_X8_totalWith (le45 rfl) hΓ ?_
  refine AW.to (ls'' := [some (vR 49), some (vR a0), some (vI a1), some (vI a2), none, none, none]) ?_ (lle_s rfl (lle_s rfl (lle_s rfl (lle_s rfl (lle_e (lle_e (lle_e (lle_z))))))))
  unfold X8_totalWith at h
  refine AW.iload_n (n := 1) (dat D_X8_totalWith 0 rfl) rfl rfl ?_
  refine AW.iload_n (n := 2) (dat D_X8_totalWith 1 rfl) rfl rfl ?_
  refine AW.mmax (n := 5) wM_X8_15 (le45 rfl) (le45 rfl) (dat D_X8_totalWith 2 rfl) rfl ?_
  refine AW.ltI h (fun x1 h => ?_)
  refine AW.istore (n := 7) (ls' := [some (vR 49), some (vR a0), some (vI a1), some (vI a2), some (vI x1), none, none]) (dat D_X8_totalWith 3 rfl) rfl (le45 rfl) (le45 rfl) rfl rfl ?_
  refine AW.iload_n (n := 8) (dat D_X8_totalWith 4 rfl) rfl rfl ?_
  refine AW.iload_n (n := 9) (dat D_X8_totalWith 5 rfl) rfl rfl ?_
  refine AW.mmin (n := 12) wM_X8_21 (le45 rfl) (le45 rfl) (dat D_X8_totalWith 6 rfl) rfl ?_
  refine AW.ltI h (fun x2 h => ?_)
  refine AW.istore (n := 14) (ls' := [some (vR 49), some (vR a0), some (vI a1), some (vI a2), some (vI x1), some (vI x2), none]) (dat D_X8_totalWith 7 rfl) rfl (le45 rfl) (le45 rfl) rfl rfl ?_
  refine AW.aload_n (n := 15) (dat D_X8_totalWith 8 rfl) rfl rfl ?_
  refine AW.getI (n := 18) fX9_10 wF_X8_24 (isSw_ly0 hpa0) (by have := isSw_lt hpa0; omega) rfl rfl (dat D_X8_totalWith 9 rfl) rfl ?_
  refine AW.iload (n := 20) (dat D_X8_totalWith 10 rfl) rfl rfl ?_
  refine AW.mmax (n := 23) wM_X8_15 (le45 rfl) (le45 rfl) (dat D_X8_totalWith 11 rfl) rfl ?_
  refine AW.ltI h (fun x3 h => ?_)
  refine AW.istore (n := 25) (ls' := [some (vR 49), some (vR a0), some (vI a1), some (vI a2), some (vI x1), some (vI x2), some (vI x3)]) (dat D_X8_totalWith 12 rfl) rfl (le45 rfl) (le45 rfl) rfl rfl ?_
  refine AW.aload_n (n := 26) (dat D_X8_totalWith 13 rfl) rfl rfl ?_
  refine AW.getI (n := 29) fX9_9 wF_X8_30 (isSw_ly0 hpa0) (by have := isSw_lt hpa0; omega) rfl rfl (dat D_X8_totalWith 14 rfl) rfl ?_
  refine AW.if_leH (t := 35) (n := 32) h (dat D_X8_totalWith 15 rfl) rfl rfl (fun h => ?_) (fun h => ?_)
  · refine AW.iload (n := 37) (dat D_X8_totalWith 18 rfl) rfl rfl ?_
    refine AW.aload_n (n := 38) (dat D_X8_totalWith 19 rfl) rfl rfl ?_
    refine AW.getI (n := 41) fX9_10 wF_X8_24 (isSw_ly0 hpa0) (by have := isSw_lt hpa0; omega) rfl rfl (dat D_X8_totalWith 20 rfl) rfl ?_
    refine AW.iload (n := 43) (dat D_X8_totalWith 21 rfl) rfl rfl ?_
    refine AW.mmin (n := 46) wM_X8_21 (le45 rfl) (le45 rfl) (dat D_X8_totalWith 22 rfl) rfl ?_
    refine AW.aload_n (n := 47) (dat D_X8_totalWith 23 rfl) rfl rfl ?_
    refine AW.getI (n := 50) fX9_11 wF_X8_33 (isSw_ly0 hpa0) (by have := isSw_lt hpa0; omega) rfl rfl (dat D_X8_totalWith 24 rfl) rfl ?_
    refine AW.iload (n := 52) (dat D_X8_totalWith 25 rfl) rfl rfl ?_
    refine AW.mmax (n := 55) wM_X8_15 (le45 rfl) (le45 rfl) (dat D_X8_totalWith 26 rfl) rfl ?_
    refine AW.mmax (n := 58) wM_X8_15 (le45 rfl) (le45 rfl) (dat D_X8_totalWith 27 rfl) rfl ?_
    refine AW.iadd (n := 59) (dat D_X8_totalWith 28 rfl) rfl ?_
    cases h
    exact AW.iret rfl rfl rfl (dat D_X8_totalWith 29 rfl)
  · refine AW.iload (n := 34) (dat D_X8_totalWith 16 rfl) rfl rfl ?_
    cases h
    exact AW.iret rfl rfl rfl (dat D_X8_totalWith 17 rfl)
