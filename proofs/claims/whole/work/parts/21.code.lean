/-! ===== methods as functions, and their bytecode beside them (printed by wip/whole/gen/emit.py) ===== -/
def L_X7_isKept : List (Nat × Instr × Nat) := [(0, .aload_n 0, 1), (1, .getfield 9, 3), (4, .ldc 54, 2), (6, .invokevirtual 56, 3), (9, .ifCond .ne 123, 3), (12, .aload_n 0, 1), (13, .getfield 9, 3), (16, .ldc 88, 2), (18, .invokevirtual 56, 3), (21, .ifCond .ne 111, 3), (24, .aload_n 0, 1), (25, .getfield 9, 3), (28, .ldc 97, 2), (30, .invokevirtual 56, 3), (33, .ifCond .ne 99, 3), (36, .aload_n 0, 1), (37, .getfield 9, 3), (40, .ldc 68, 2), (42, .invokevirtual 56, 3), (45, .ifCond .ne 87, 3), (48, .aload_n 0, 1), (49, .getfield 9, 3), (52, .ldc 73, 2), (54, .invokevirtual 56, 3), (57, .ifCond .ne 75, 3), (60, .aload_n 0, 1), (61, .getfield 9, 3), (64, .ldc 63, 2), (66, .invokevirtual 56, 3), (69, .ifCond .ne 63, 3), (72, .aload_n 0, 1), (73, .getfield 9, 3), (76, .ldc 113, 2), (78, .invokevirtual 56, 3), (81, .ifCond .ne 51, 3), (84, .aload_n 0, 1), (85, .getfield 9, 3), (88, .ldc 115, 2), (90, .invokevirtual 56, 3), (93, .ifCond .ne 39, 3), (96, .aload_n 0, 1), (97, .getfield 9, 3), (100, .ldc 117, 2), (102, .invokevirtual 56, 3), (105, .ifCond .ne 27, 3), (108, .aload_n 0, 1), (109, .getfield 9, 3), (112, .ldc 119, 2), (114, .invokevirtual 56, 3), (117, .ifCond .ne 15, 3), (120, .aload_n 0, 1), (121, .getfield 9, 3), (124, .ldc 121, 2), (126, .invokevirtual 56, 3), (129, .ifCond .eq 7, 3), (132, .iconst 1, 1), (133, .goto 4, 3), (136, .iconst 0, 1), (137, .ireturn, 1)]
theorem D_X7_isKept : dOK cX7_isKept L_X7_isKept = true := by decide +kernel
theorem cf_X7_isKept : CFV mX7_isKept 0 := ⟨wI_X7_isKept, wS_X7_isKept, wN_WaveRight_SeaReader, wC_X7_isKept, rfl, ⟨by decide +kernel, by decide +kernel, by decide +kernel⟩, le45 rfl⟩
def X7_isKept (n : Nat) (σ : SG) : Option (Int) :=
  (X10_isWord n 0 σ).bind fun v2 =>
  if w32 v2 = 0 then
    (X10_isWord n 1 σ).bind fun v4 =>
    if w32 v4 = 0 then
      (X10_isWord n 2 σ).bind fun v6 =>
      if w32 v6 = 0 then
        (X10_isWord n 3 σ).bind fun v8 =>
        if w32 v8 = 0 then
          (X10_isWord n 4 σ).bind fun v10 =>
          if w32 v10 = 0 then
            (X10_isWord n 5 σ).bind fun v12 =>
            if w32 v12 = 0 then
              (X10_isWord n 6 σ).bind fun v14 =>
              if w32 v14 = 0 then
                (X10_isWord n 7 σ).bind fun v16 =>
                if w32 v16 = 0 then
                  (X10_isWord n 8 σ).bind fun v18 =>
                  if w32 v18 = 0 then
                    (X10_isWord n 9 σ).bind fun v20 =>
                    if w32 v20 = 0 then
                      (X10_isWord n 10 σ).bind fun v22 =>
                      if w32 v22 = 0 then
                        some (0)
                      else
                        some (1)
                    else
                      some (1)
                  else
                    some (1)
                else
                  some (1)
              else
                some (1)
            else
              some (1)
          else
            some (1)
        else
          some (1)
      else
        some (1)
    else
      some (1)
  else
    some (1)
set_option maxHeartbeats 4000000 in
set_option maxRecDepth 100000 in
theorem A_X7_isKept {Γ : GA} (hΓ : (gl Γ).stackTraces = false) {n : Nat} {σ : SG} {r : Int}  (h : X7_isKept n σ = some r) : AM Γ mX7_isKept 10 0 0 [vR 17] (85, σ) (0, r) (85, σ) := by
  refine AM.of pl_X7 rfl wC_X7_isKept (le45 rfl) hΓ ?_
  refine AW.to (ls'' := [some (vR 17)]) ?_ (lle_s rfl (lle_z))
  unfold X7_isKept at h
  refine AW.aload_n (n := 1) (dat D_X7_isKept 0 rfl) rfl rfl ?_
  refine AW.getR (n := 4) (t := 15) fX7_0 wF_X7_9 ly_17 (le45 rfl) rfl (dat D_X7_isKept 1 rfl) rfl ?_
  refine AW.ldcS (n := 6) (j := 0) rfl (dat D_X7_isKept 2 rfl) rfl ?_
  obtain ⟨v2, hc1, h⟩ := ob_some h
  refine AW.cV (n := 9) (as := [vO 0]) (st := []) (st' := [vI v2]) (uc' := 0) (us' := 0) (A_X10_isWord hΓ (by decide) hc1) cf_X10_isWord ly_15 (le45 rfl) vc_10 (le45 rfl) wM_X7_56 (le45 rfl) (le45 rfl) (dat D_X7_isKept 3 rfl) rfl rfl (le45 rfl) (le45 rfl) rfl (fun _ => ?_) nlt0
  refine AW.if_neH (t := 132) (n := 12) h (dat D_X7_isKept 4 rfl) rfl rfl (fun h => ?_) (fun h => ?_)
  · refine AW.aload_n (n := 13) (dat D_X7_isKept 5 rfl) rfl rfl ?_
    refine AW.getR (n := 16) (t := 15) fX7_0 wF_X7_9 ly_17 (le45 rfl) rfl (dat D_X7_isKept 6 rfl) rfl ?_
    refine AW.ldcS (n := 18) (j := 1) rfl (dat D_X7_isKept 7 rfl) rfl ?_
    obtain ⟨v4, hc3, h⟩ := ob_some h
    refine AW.cV (n := 21) (as := [vO 1]) (st := []) (st' := [vI v4]) (uc' := 0) (us' := 0) (A_X10_isWord hΓ (by decide) hc3) cf_X10_isWord ly_15 (le45 rfl) vc_10 (le45 rfl) wM_X7_56 (le45 rfl) (le45 rfl) (dat D_X7_isKept 8 rfl) rfl rfl (le45 rfl) (le45 rfl) rfl (fun _ => ?_) nlt0
    refine AW.if_neH (t := 132) (n := 24) h (dat D_X7_isKept 9 rfl) rfl rfl (fun h => ?_) (fun h => ?_)
    · refine AW.aload_n (n := 25) (dat D_X7_isKept 10 rfl) rfl rfl ?_
      refine AW.getR (n := 28) (t := 15) fX7_0 wF_X7_9 ly_17 (le45 rfl) rfl (dat D_X7_isKept 11 rfl) rfl ?_
      refine AW.ldcS (n := 30) (j := 2) rfl (dat D_X7_isKept 12 rfl) rfl ?_
      obtain ⟨v6, hc5, h⟩ := ob_some h
      refine AW.cV (n := 33) (as := [vO 2]) (st := []) (st' := [vI v6]) (uc' := 0) (us' := 0) (A_X10_isWord hΓ (by decide) hc5) cf_X10_isWord ly_15 (le45 rfl) vc_10 (le45 rfl) wM_X7_56 (le45 rfl) (le45 rfl) (dat D_X7_isKept 13 rfl) rfl rfl (le45 rfl) (le45 rfl) rfl (fun _ => ?_) nlt0
      refine AW.if_neH (t := 132) (n := 36) h (dat D_X7_isKept 14 rfl) rfl rfl (fun h => ?_) (fun h => ?_)
      · refine AW.aload_n (n := 37) (dat D_X7_isKept 15 rfl) rfl rfl ?_
        refine AW.getR (n := 40) (t := 15) fX7_0 wF_X7_9 ly_17 (le45 rfl) rfl (dat D_X7_isKept 16 rfl) rfl ?_
        refine AW.ldcS (n := 42) (j := 3) rfl (dat D_X7_isKept 17 rfl) rfl ?_
        obtain ⟨v8, hc7, h⟩ := ob_some h
        refine AW.cV (n := 45) (as := [vO 3]) (st := []) (st' := [vI v8]) (uc' := 0) (us' := 0) (A_X10_isWord hΓ (by decide) hc7) cf_X10_isWord ly_15 (le45 rfl) vc_10 (le45 rfl) wM_X7_56 (le45 rfl) (le45 rfl) (dat D_X7_isKept 18 rfl) rfl rfl (le45 rfl) (le45 rfl) rfl (fun _ => ?_) nlt0
        refine AW.if_neH (t := 132) (n := 48) h (dat D_X7_isKept 19 rfl) rfl rfl (fun h => ?_) (fun h => ?_)
        · refine AW.aload_n (n := 49) (dat D_X7_isKept 20 rfl) rfl rfl ?_
          refine AW.getR (n := 52) (t := 15) fX7_0 wF_X7_9 ly_17 (le45 rfl) rfl (dat D_X7_isKept 21 rfl) rfl ?_
          refine AW.ldcS (n := 54) (j := 4) rfl (dat D_X7_isKept 22 rfl) rfl ?_
          obtain ⟨v10, hc9, h⟩ := ob_some h
          refine AW.cV (n := 57) (as := [vO 4]) (st := []) (st' := [vI v10]) (uc' := 0) (us' := 0) (A_X10_isWord hΓ (by decide) hc9) cf_X10_isWord ly_15 (le45 rfl) vc_10 (le45 rfl) wM_X7_56 (le45 rfl) (le45 rfl) (dat D_X7_isKept 23 rfl) rfl rfl (le45 rfl) (le45 rfl) rfl (fun _ => ?_) nlt0
          refine AW.if_neH (t := 132) (n := 60) h (dat D_X7_isKept 24 rfl) rfl rfl (fun h => ?_) (fun h => ?_)
          · refine AW.aload_n (n := 61) (dat D_X7_isKept 25 rfl) rfl rfl ?_
            refine AW.getR (n := 64) (t := 15) fX7_0 wF_X7_9 ly_17 (le45 rfl) rfl (dat D_X7_isKept 26 rfl) rfl ?_
            refine AW.ldcS (n := 66) (j := 5) rfl (dat D_X7_isKept 27 rfl) rfl ?_
            obtain ⟨v12, hc11, h⟩ := ob_some h
            refine AW.cV (n := 69) (as := [vO 5]) (st := []) (st' := [vI v12]) (uc' := 0) (us' := 0) (A_X10_isWord hΓ (by decide) hc11) cf_X10_isWord ly_15 (le45 rfl) vc_10 (le45 rfl) wM_X7_56 (le45 rfl) (le45 rfl) (dat D_X7_isKept 28 rfl) rfl rfl (le45 rfl) (le45 rfl) rfl (fun _ => ?_) nlt0
            refine AW.if_neH (t := 132) (n := 72) h (dat D_X7_isKept 29 rfl) rfl rfl (fun h => ?_) (fun h => ?_)
            · refine AW.aload_n (n := 73) (dat D_X7_isKept 30 rfl) rfl rfl ?_
              refine AW.getR (n := 76) (t := 15) fX7_0 wF_X7_9 ly_17 (le45 rfl) rfl (dat D_X7_isKept 31 rfl) rfl ?_
              refine AW.ldcS (n := 78) (j := 6) rfl (dat D_X7_isKept 32 rfl) rfl ?_
              obtain ⟨v14, hc13, h⟩ := ob_some h
              refine AW.cV (n := 81) (as := [vO 6]) (st := []) (st' := [vI v14]) (uc' := 0) (us' := 0) (A_X10_isWord hΓ (by decide) hc13) cf_X10_isWord ly_15 (le45 rfl) vc_10 (le45 rfl) wM_X7_56 (le45 rfl) (le45 rfl) (dat D_X7_isKept 33 rfl) rfl rfl (le45 rfl) (le45 rfl) rfl (fun _ => ?_) nlt0
              refine AW.if_neH (t := 132) (n := 84) h (dat D_X7_isKept 34 rfl) rfl rfl (fun h => ?_) (fun h => ?_)
              · refine AW.aload_n (n := 85) (dat D_X7_isKept 35 rfl) rfl rfl ?_
                refine AW.getR (n := 88) (t := 15) fX7_0 wF_X7_9 ly_17 (le45 rfl) rfl (dat D_X7_isKept 36 rfl) rfl ?_
                refine AW.ldcS (n := 90) (j := 7) rfl (dat D_X7_isKept 37 rfl) rfl ?_
                obtain ⟨v16, hc15, h⟩ := ob_some h
                refine AW.cV (n := 93) (as := [vO 7]) (st := []) (st' := [vI v16]) (uc' := 0) (us' := 0) (A_X10_isWord hΓ (by decide) hc15) cf_X10_isWord ly_15 (le45 rfl) vc_10 (le45 rfl) wM_X7_56 (le45 rfl) (le45 rfl) (dat D_X7_isKept 38 rfl) rfl rfl (le45 rfl) (le45 rfl) rfl (fun _ => ?_) nlt0
                refine AW.if_neH (t := 132) (n := 96) h (dat D_X7_isKept 39 rfl) rfl rfl (fun h => ?_) (fun h => ?_)
                · refine AW.aload_n (n := 97) (dat D_X7_isKept 40 rfl) rfl rfl ?_
                  refine AW.getR (n := 100) (t := 15) fX7_0 wF_X7_9 ly_17 (le45 rfl) rfl (dat D_X7_isKept 41 rfl) rfl ?_
                  refine AW.ldcS (n := 102) (j := 8) rfl (dat D_X7_isKept 42 rfl) rfl ?_
                  obtain ⟨v18, hc17, h⟩ := ob_some h
                  refine AW.cV (n := 105) (as := [vO 8]) (st := []) (st' := [vI v18]) (uc' := 0) (us' := 0) (A_X10_isWord hΓ (by decide) hc17) cf_X10_isWord ly_15 (le45 rfl) vc_10 (le45 rfl) wM_X7_56 (le45 rfl) (le45 rfl) (dat D_X7_isKept 43 rfl) rfl rfl (le45 rfl) (le45 rfl) rfl (fun _ => ?_) nlt0
                  refine AW.if_neH (t := 132) (n := 108) h (dat D_X7_isKept 44 rfl) rfl rfl (fun h => ?_) (fun h => ?_)
                  · refine AW.aload_n (n := 109) (dat D_X7_isKept 45 rfl) rfl rfl ?_
                    refine AW.getR (n := 112) (t := 15) fX7_0 wF_X7_9 ly_17 (le45 rfl) rfl (dat D_X7_isKept 46 rfl) rfl ?_
                    refine AW.ldcS (n := 114) (j := 9) rfl (dat D_X7_isKept 47 rfl) rfl ?_
                    obtain ⟨v20, hc19, h⟩ := ob_some h
                    refine AW.cV (n := 117) (as := [vO 9]) (st := []) (st' := [vI v20]) (uc' := 0) (us' := 0) (A_X10_isWord hΓ (by decide) hc19) cf_X10_isWord ly_15 (le45 rfl) vc_10 (le45 rfl) wM_X7_56 (le45 rfl) (le45 rfl) (dat D_X7_isKept 48 rfl) rfl rfl (le45 rfl) (le45 rfl) rfl (fun _ => ?_) nlt0
                    refine AW.if_neH (t := 132) (n := 120) h (dat D_X7_isKept 49 rfl) rfl rfl (fun h => ?_) (fun h => ?_)
                    · refine AW.aload_n (n := 121) (dat D_X7_isKept 50 rfl) rfl rfl ?_
                      refine AW.getR (n := 124) (t := 15) fX7_0 wF_X7_9 ly_17 (le45 rfl) rfl (dat D_X7_isKept 51 rfl) rfl ?_
                      refine AW.ldcS (n := 126) (j := 10) rfl (dat D_X7_isKept 52 rfl) rfl ?_
                      obtain ⟨v22, hc21, h⟩ := ob_some h
                      refine AW.cV (n := 129) (as := [vO 10]) (st := []) (st' := [vI v22]) (uc' := 0) (us' := 0) (A_X10_isWord hΓ (by decide) hc21) cf_X10_isWord ly_15 (le45 rfl) vc_10 (le45 rfl) wM_X7_56 (le45 rfl) (le45 rfl) (dat D_X7_isKept 53 rfl) rfl rfl (le45 rfl) (le45 rfl) rfl (fun _ => ?_) nlt0
                      refine AW.if_eqH (t := 136) (n := 132) h (dat D_X7_isKept 54 rfl) rfl rfl (fun h => ?_) (fun h => ?_)
                      · refine AW.iconst (n := 137) (dat D_X7_isKept 57 rfl) rfl ?_
                        cases h
                        exact AW.zret rfl (by decide) rfl rfl (dat D_X7_isKept 58 rfl)
                      · refine AW.iconst (n := 133) (dat D_X7_isKept 55 rfl) rfl ?_
                        refine AW.goto (t := 137) (dat D_X7_isKept 56 rfl) rfl ?_
                        cases h
                        exact AW.zret rfl (by decide) rfl rfl (dat D_X7_isKept 58 rfl)
                    · refine AW.iconst (n := 133) (dat D_X7_isKept 55 rfl) rfl ?_
                      refine AW.goto (t := 137) (dat D_X7_isKept 56 rfl) rfl ?_
                      cases h
                      exact AW.zret rfl (by decide) rfl rfl (dat D_X7_isKept 58 rfl)
                  · refine AW.iconst (n := 133) (dat D_X7_isKept 55 rfl) rfl ?_
                    refine AW.goto (t := 137) (dat D_X7_isKept 56 rfl) rfl ?_
                    cases h
                    exact AW.zret rfl (by decide) rfl rfl (dat D_X7_isKept 58 rfl)
                · refine AW.iconst (n := 133) (dat D_X7_isKept 55 rfl) rfl ?_
                  refine AW.goto (t := 137) (dat D_X7_isKept 56 rfl) rfl ?_
                  cases h
                  exact AW.zret rfl (by decide) rfl rfl (dat D_X7_isKept 58 rfl)
              · refine AW.iconst (n := 133) (dat D_X7_isKept 55 rfl) rfl ?_
                refine AW.goto (t := 137) (dat D_X7_isKept 56 rfl) rfl ?_
                cases h
                exact AW.zret rfl (by decide) rfl rfl (dat D_X7_isKept 58 rfl)
            · refine AW.iconst (n := 133) (dat D_X7_isKept 55 rfl) rfl ?_
              refine AW.goto (t := 137) (dat D_X7_isKept 56 rfl) rfl ?_
              cases h
              exact AW.zret rfl (by decide) rfl rfl (dat D_X7_isKept 58 rfl)
          · refine AW.iconst (n := 133) (dat D_X7_isKept 55 rfl) rfl ?_
            refine AW.goto (t := 137) (dat D_X7_isKept 56 rfl) rfl ?_
            cases h
            exact AW.zret rfl (by decide) rfl rfl (dat D_X7_isKept 58 rfl)
        · refine AW.iconst (n := 133) (dat D_X7_isKept 55 rfl) rfl ?_
          refine AW.goto (t := 137) (dat D_X7_isKept 56 rfl) rfl ?_
          cases h
          exact AW.zret rfl (by decide) rfl rfl (dat D_X7_isKept 58 rfl)
      · refine AW.iconst (n := 133) (dat D_X7_isKept 55 rfl) rfl ?_
        refine AW.goto (t := 137) (dat D_X7_isKept 56 rfl) rfl ?_
        cases h
        exact AW.zret rfl (by decide) rfl rfl (dat D_X7_isKept 58 rfl)
    · refine AW.iconst (n := 133) (dat D_X7_isKept 55 rfl) rfl ?_
      refine AW.goto (t := 137) (dat D_X7_isKept 56 rfl) rfl ?_
      cases h
      exact AW.zret rfl (by decide) rfl rfl (dat D_X7_isKept 58 rfl)
  · refine AW.iconst (n := 133) (dat D_X7_isKept 55 rfl) rfl ?_
    refine AW.goto (t := 137) (dat D_X7_isKept 56 rfl) rfl ?_
    cases h
    exact AW.zret rfl (by decide) rfl rfl (dat D_X7_isKept 58 rfl)
def L_X7_isNewName : List (Nat × Instr × Nat) := [(0, .aload_n 0, 1), (1, .getfield 9, 3), (4, .getfield 36, 3), (7, .iconst 1, 1), (8, .if_icmp .ne 30, 3), (11, .aload_n 0, 1), (12, .getfield 9, 3), (15, .getfield 103, 3), (18, .aload_n 0, 1), (19, .getfield 9, 3), (22, .getfield 48, 3), (25, .isub, 1), (26, .bipush 6, 2), (28, .if_icmp .gt 10, 3), (31, .aload_n 0, 1), (32, .invokevirtual 106, 3), (35, .ifCond .eq 5, 3), (38, .iconst 0, 1), (39, .ireturn, 1), (40, .iconst 0, 1), (41, .istore_n 1, 1), (42, .iload_n 1, 1), (43, .aload_n 0, 1), (44, .getfield 15, 3), (47, .getfield 51, 3), (50, .if_icmp .ge 26, 3), (53, .aload_n 0, 1), (54, .getfield 15, 3), (57, .iload_n 1, 1), (58, .aload_n 0, 1), (59, .getfield 9, 3), (62, .invokevirtual 109, 3), (65, .ifCond .eq 5, 3), (68, .iconst 0, 1), (69, .ireturn, 1), (70, .iinc 1 1, 3), (73, .goto (-31), 3), (76, .iconst 1, 1), (77, .ireturn, 1)]
theorem D_X7_isNewName : dOK cX7_isNewName L_X7_isNewName = true := by decide +kernel
theorem cf_X7_isNewName : CFV mX7_isNewName 0 := ⟨wI_X7_isNewName, wS_X7_isNewName, wN_WaveRight_SeaReader, wC_X7_isNewName, rfl, ⟨by decide +kernel, by decide +kernel, by decide +kernel⟩, le45 rfl⟩
def X7_isNewName_e42 (n : Nat) : Option (Int) :=
  some (1)
def X7_isNewName_l42 (n : Nat) (σ : SG) (z3 : Int) : Option ((Int) ⊕ ((Unit) ⊕ (Int))) :=
  ckR isSea (σ 17 1) fun k5 =>
  if w32 (σ k5 5) ≤ w32 z3 then
    some (.inr (.inl ()))
  else
    ckR isSea (σ 17 1) fun k6 =>
    (X6_isNameOf n k6 z3 σ).bind fun v8 =>
    if w32 v8 = 0 then
      lt (z3 + 1) fun x9 =>
      some (.inl x9)
    else
      some (.inr (.inr 0))
def X7_isNewName (n : Nat) (σ : SG) : Option (Int) :=
  if w32 (σ 15 2) = 1 then
    if 6 < w32 ((σ 15 4) - (σ 15 3)) then
      some (0)
    else
      (X7_isKept n σ).bind fun v2 =>
      if w32 v2 = 0 then
        ((iter n (fun s : Int => X7_isNewName_l42 n σ s) 0) : Option ((Unit) ⊕ (Int))).bind (orr (fun s => X7_isNewName_e42 n))
      else
        some (0)
  else
    some (0)
set_option maxHeartbeats 4000000 in
set_option maxRecDepth 100000 in
theorem A_X7_isNewName {Γ : GA} (hΓ : (gl Γ).stackTraces = false) {n : Nat} {σ : SG} {r : Int}  (h : X7_isNewName n σ = some r) : AM Γ mX7_isNewName 11 0 0 [vR 17] (85, σ) (0, r) (85, σ) := by
  refine AM.of pl_X7 rfl wC_X7_isNewName (le45 rfl) hΓ ?_
  refine AW.to (ls'' := [some (vR 17), none]) ?_ (lle_s rfl (lle_e (lle_z)))
  unfold X7_isNewName at h
  refine AW.aload_n (n := 1) (dat D_X7_isNewName 0 rfl) rfl rfl ?_
  refine AW.getR (n := 4) (t := 15) fX7_0 wF_X7_9 ly_17 (le45 rfl) rfl (dat D_X7_isNewName 1 rfl) rfl ?_
  refine AW.getI (n := 7) fX10_2 wF_X7_36 ly_15 (le45 rfl) rfl rfl (dat D_X7_isNewName 2 rfl) rfl ?_
  refine AW.iconst (n := 8) (dat D_X7_isNewName 3 rfl) rfl ?_
  refine AW.icmp_neH (t := 38) (n := 11) h (dat D_X7_isNewName 4 rfl) rfl rfl rfl (by decide) (fun h => ?_) (fun h => ?_)
  · refine AW.aload_n (n := 12) (dat D_X7_isNewName 5 rfl) rfl rfl ?_
    refine AW.getR (n := 15) (t := 15) fX7_0 wF_X7_9 ly_17 (le45 rfl) rfl (dat D_X7_isNewName 6 rfl) rfl ?_
    refine AW.getI (n := 18) fX10_4 wF_X7_103 ly_15 (le45 rfl) rfl rfl (dat D_X7_isNewName 7 rfl) rfl ?_
    refine AW.aload_n (n := 19) (dat D_X7_isNewName 8 rfl) rfl rfl ?_
    refine AW.getR (n := 22) (t := 15) fX7_0 wF_X7_9 ly_17 (le45 rfl) rfl (dat D_X7_isNewName 9 rfl) rfl ?_
    refine AW.getI (n := 25) fX10_3 wF_X7_48 ly_15 (le45 rfl) rfl rfl (dat D_X7_isNewName 10 rfl) rfl ?_
    refine AW.isub (n := 26) (dat D_X7_isNewName 11 rfl) rfl ?_
    refine AW.bipush (n := 28) (dat D_X7_isNewName 12 rfl) rfl (by decide) ?_
    refine AW.icmp_gtH (t := 38) (n := 31) h (dat D_X7_isNewName 13 rfl) rfl rfl rfl (by decide) (fun h => ?_) (fun h => ?_)
    · refine AW.iconst (n := 39) (dat D_X7_isNewName 17 rfl) rfl ?_
      cases h
      exact AW.zret rfl (by decide) rfl rfl (dat D_X7_isNewName 18 rfl)
    · refine AW.aload_n (n := 32) (dat D_X7_isNewName 14 rfl) rfl rfl ?_
      obtain ⟨v2, hc1, h⟩ := ob_some h
      refine AW.cV (n := 35) (as := []) (st := []) (st' := [vI v2]) (uc' := 0) (us' := 0) (A_X7_isKept hΓ hc1) cf_X7_isKept ly_17 (le45 rfl) vc_7 (le45 rfl) wM_X7_106 (le45 rfl) (le45 rfl) (dat D_X7_isNewName 15 rfl) rfl rfl (le45 rfl) (le45 rfl) rfl (fun _ => ?_) nlt0
      refine AW.if_eqH (t := 40) (n := 38) h (dat D_X7_isNewName 16 rfl) rfl rfl (fun h => ?_) (fun h => ?_)
      · refine AW.iconst (n := 41) (dat D_X7_isNewName 19 rfl) rfl ?_
        refine AW.istore_n (n := 42) (ls' := [some (vR 17), some (vI 0)]) (dat D_X7_isNewName 20 rfl) rfl (le45 rfl) (le45 rfl) rfl rfl ?_
        obtain ⟨b4, hi4, hq4⟩ := ob_some h
        have hR4 : ∀ (_ : Unit), b4 = .inl () → AW Γ mX7_isNewName 11 (0, r) (85, σ) 0 0 76 [none, none] [] (85, σ) := by
          intro _ e
          subst e
          have h : X7_isNewName_e42 n = some _ := hq4
          unfold X7_isNewName_e42 at h
          refine AW.iconst (n := 77) (dat D_X7_isNewName 37 rfl) rfl ?_
          cases h
          exact AW.zret rfl (by decide) rfl rfl (dat D_X7_isNewName 38 rfl)
        refine AW.to (ls'' := [some (vR 17), some (vI 0)]) ?_ (lle_s rfl (lle_s rfl (lle_z)))
        refine aw_iter (fun s : Int => AW Γ mX7_isNewName 11 (0, r) (85, σ) 0 0 42 [some (vR 17), some (vI s)] [] (85, σ)) (fun s y h hk4 hb4 => ?_) _ _ hi4
        obtain ⟨z3, e4⟩ : ∃ z, z = s := ⟨_, rfl⟩
        subst e4
        show AW Γ mX7_isNewName 11 (0, r) (85, σ) 0 0 42 [some (vR 17), some (vI z3)] [] (85, σ)
        have h : X7_isNewName_l42 n σ z3 = some y := h
        unfold X7_isNewName_l42 at h
        refine AW.iload_n (n := 43) (dat D_X7_isNewName 21 rfl) rfl rfl ?_
        refine AW.aload_n (n := 44) (dat D_X7_isNewName 22 rfl) rfl rfl ?_
        refine AW.getQH h (n := 47) fX7_1 wF_X7_15 ly_17 (le45 rfl) rfl rfl (dat D_X7_isNewName 23 rfl) rfl (fun k5 hpk5 h => ?_)
        refine AW.getI (n := 50) fX6_5 wF_X7_51 (isSea_ly0 hpk5) (by have := isSea_lt hpk5; omega) rfl rfl (dat D_X7_isNewName 24 rfl) rfl ?_
        refine AW.icmp_geH (t := 76) (n := 53) h (dat D_X7_isNewName 25 rfl) rfl rfl rfl rfl (fun h => ?_) (fun h => ?_)
        · cases h
          have hb := hb4 _ rfl
          exact AW.to (hR4 () hb.symm) (lle_n (lle_n (lle_z)))
        · refine AW.aload_n (n := 54) (dat D_X7_isNewName 26 rfl) rfl rfl ?_
          refine AW.getQH h (n := 57) fX7_1 wF_X7_15 ly_17 (le45 rfl) rfl rfl (dat D_X7_isNewName 27 rfl) rfl (fun k6 hpk6 h => ?_)
          refine AW.iload_n (n := 58) (dat D_X7_isNewName 28 rfl) rfl rfl ?_
          refine AW.aload_n (n := 59) (dat D_X7_isNewName 29 rfl) rfl rfl ?_
          refine AW.getR (n := 62) (t := 15) fX7_0 wF_X7_9 ly_17 (le45 rfl) rfl (dat D_X7_isNewName 30 rfl) rfl ?_
          obtain ⟨v8, hc7, h⟩ := ob_some h
          refine AW.cV (n := 65) (as := [vI z3, vR 15]) (st := []) (st' := [vI v8]) (uc' := 0) (us' := 0) (A_X6_isNameOf hΓ hpk6 hc7) cf_X6_isNameOf (isSea_ly0 hpk6) (by have := isSea_lt hpk6; omega) vc_6 (le45 rfl) wM_X7_109 (le45 rfl) (le45 rfl) (dat D_X7_isNewName 31 rfl) rfl rfl (le45 rfl) (le45 rfl) rfl (fun _ => ?_) nlt0
          refine AW.if_eqH (t := 70) (n := 68) h (dat D_X7_isNewName 32 rfl) rfl rfl (fun h => ?_) (fun h => ?_)
          · refine AW.iincH h (n := 73) (dat D_X7_isNewName 35 rfl) rfl rfl (le45 rfl) rfl (fun x9 h => ?_)
            refine AW.lq (ls' := [some (vR 17), some (vI x9)]) rfl ?_
            refine AW.goto (t := 42) (dat D_X7_isNewName 36 rfl) rfl ?_
            cases h
            exact AW.to (hk4 _ rfl) (lle_s rfl (lle_s rfl (lle_z)))
          · refine AW.iconst (n := 69) (dat D_X7_isNewName 33 rfl) rfl ?_
            cases h
            have hb := hb4 _ rfl
            subst hb
            have h := hq4
            have h : some _ = some _ := h
            cases h
            exact AW.zret rfl (by decide) rfl rfl (dat D_X7_isNewName 34 rfl)
      · refine AW.iconst (n := 39) (dat D_X7_isNewName 17 rfl) rfl ?_
        cases h
        exact AW.zret rfl (by decide) rfl rfl (dat D_X7_isNewName 18 rfl)
  · refine AW.iconst (n := 39) (dat D_X7_isNewName 17 rfl) rfl ?_
    cases h
    exact AW.zret rfl (by decide) rfl rfl (dat D_X7_isNewName 18 rfl)
def L_X7_passSurfer : List (Nat × Instr × Nat) := [(0, .aload_n 0, 1), (1, .getfield 15, 3), (4, .getfield 51, 3), (7, .iconst 5, 1), (8, .if_icmp .lt 5, 3), (11, .iconst 0, 1), (12, .ireturn, 1), (13, .aload_n 0, 1), (14, .getfield 9, 3), (17, .invokevirtual 78, 3), (20, .aload_n 0, 1), (21, .invokevirtual 81, 3), (24, .ifCond .ne 5, 3), (27, .iconst 0, 1), (28, .ireturn, 1), (29, .aload_n 0, 1), (30, .getfield 15, 3), (33, .aload_n 0, 1), (34, .getfield 9, 3), (37, .invokevirtual 84, 3), (40, .aload_n 0, 1), (41, .getfield 9, 3), (44, .invokevirtual 78, 3), (47, .aload_n 0, 1), (48, .getfield 9, 3), (51, .ldc 88, 2), (53, .invokevirtual 90, 3), (56, .ifCond .eq 17, 3), (59, .aload_n 0, 1), (60, .getfield 9, 3), (63, .iconst 0, 1), (64, .bipush 40, 2), (66, .iconst 2, 1), (67, .invokevirtual 93, 3), (70, .goto 4, 3), (73, .iconst (-1), 1), (74, .istore_n 1, 1), (75, .iload_n 1, 1), (76, .iconst (-1), 1), (77, .if_icmp .eq 15, 3), (80, .aload_n 0, 1), (81, .getfield 9, 3), (84, .ldc 97, 2), (86, .invokevirtual 90, 3), (89, .ifCond .ne 5, 3), (92, .iconst 0, 1), (93, .ireturn, 1), (94, .aload_n 0, 1), (95, .getfield 9, 3), (98, .iconst 1, 1), (99, .bipush 9, 2), (101, .iconst 2, 1), (102, .invokevirtual 93, 3), (105, .istore_n 2, 1), (106, .iload_n 2, 1), (107, .iconst (-1), 1), (108, .if_icmp .ne 5, 3), (111, .iconst 0, 1), (112, .ireturn, 1), (113, .aload_n 0, 1), (114, .getfield 15, 3), (117, .iload_n 1, 1), (118, .iload_n 2, 1), (119, .invokevirtual 99, 3), (122, .iconst 1, 1), (123, .ireturn, 1)]
theorem D_X7_passSurfer : dOK cX7_passSurfer L_X7_passSurfer = true := by decide +kernel
theorem cf_X7_passSurfer : CFV mX7_passSurfer 0 := ⟨wI_X7_passSurfer, wS_X7_passSurfer, wN_WaveRight_SeaReader, wC_X7_passSurfer, rfl, ⟨by decide +kernel, by decide +kernel, by decide +kernel⟩, le45 rfl⟩
def X7_passSurfer_j74 (n : Nat) (y14 : Int) (σ15 : SG) : Option (Int × SG) :=
  if w32 y14 = (-1) then
    some ((0, σ15))
  else
    bnd2 (X10_passWord n 2 σ15) fun v18 σ19 =>
    if w32 v18 = 0 then
      some ((0, σ19))
    else
      bnd2 (X10_passNumber n 1 9 2 σ19) fun v21 σ22 =>
      if w32 v21 = (-1) then
        some ((0, σ22))
      else
        ckR isSea (σ22 17 1) fun k23 =>
        (X6_addSurfer n k23 y14 v21 σ22).bind fun σ25 =>
        some ((1, σ25))
def X7_passSurfer (n : Nat) (σ : SG) : Option (Int × SG) :=
  ckR isSea (σ 17 1) fun k1 =>
  if w32 (σ k1 5) < 5 then
    (X10_advance n σ).bind fun σ3 =>
    (X7_isNewName n σ3).bind fun v5 =>
    if w32 v5 = 0 then
      some ((0, σ3))
    else
      ckR isSea (σ3 17 1) fun k6 =>
      (X6_writeName n k6 σ3).bind fun σ8 =>
      (X10_advance n σ8).bind fun σ10 =>
      bnd2 (X10_passWord n 1 σ10) fun v12 σ13 =>
      ((if w32 v12 = 0 then
        some (((-1), σ13))
      else
        bnd2 (X10_passNumber n 0 40 2 σ13) fun v27 σ28 =>
        some ((v27, σ28))) : Option (Int × SG)).bind (fun s => X7_passSurfer_j74 n s.1 s.2)
  else
    some ((0, σ))
set_option maxHeartbeats 4000000 in
set_option maxRecDepth 100000 in
theorem A_X7_passSurfer {Γ : GA} (hΓ : (gl Γ).stackTraces = false) {n : Nat} {σ : SG} {r : Int} {τ : SG}  (h : X7_passSurfer n σ = some (r, τ)) : AM Γ mX7_passSurfer 12 0 0 [vR 17] (85, σ) (0, r) (85, τ) := by
  refine AM.of pl_X7 rfl wC_X7_passSurfer (le45 rfl) hΓ ?_
  refine AW.to (ls'' := [some (vR 17), none, none]) ?_ (lle_s rfl (lle_e (lle_e (lle_z))))
  unfold X7_passSurfer at h
  refine AW.aload_n (n := 1) (dat D_X7_passSurfer 0 rfl) rfl rfl ?_
  refine AW.getQH h (n := 4) fX7_1 wF_X7_15 ly_17 (le45 rfl) rfl rfl (dat D_X7_passSurfer 1 rfl) rfl (fun k1 hpk1 h => ?_)
  refine AW.getI (n := 7) fX6_5 wF_X7_51 (isSea_ly0 hpk1) (by have := isSea_lt hpk1; omega) rfl rfl (dat D_X7_passSurfer 2 rfl) rfl ?_
  refine AW.iconst (n := 8) (dat D_X7_passSurfer 3 rfl) rfl ?_
  refine AW.icmp_ltH (t := 13) (n := 11) h (dat D_X7_passSurfer 4 rfl) rfl rfl rfl (by decide) (fun h => ?_) (fun h => ?_)
  · refine AW.aload_n (n := 14) (dat D_X7_passSurfer 7 rfl) rfl rfl ?_
    refine AW.getR (n := 17) (t := 15) fX7_0 wF_X7_9 ly_17 (le45 rfl) rfl (dat D_X7_passSurfer 8 rfl) rfl ?_
    obtain ⟨σ3, hc2, h⟩ := ob_some h
    refine AW.cV (n := 20) (as := []) (st := []) (st' := []) (uc' := 0) (us' := 0) (A_X10_advance hΓ hc2) cf_X10_advance ly_15 (le45 rfl) vc_10 (le45 rfl) wM_X7_78 (le45 rfl) (le45 rfl) (dat D_X7_passSurfer 9 rfl) rfl rfl (le45 rfl) (le45 rfl) rfl (fun _ => ?_) nlt0
    refine AW.aload_n (n := 21) (dat D_X7_passSurfer 10 rfl) rfl rfl ?_
    obtain ⟨v5, hc4, h⟩ := ob_some h
    refine AW.cV (n := 24) (as := []) (st := []) (st' := [vI v5]) (uc' := 0) (us' := 0) (A_X7_isNewName hΓ hc4) cf_X7_isNewName ly_17 (le45 rfl) vc_7 (le45 rfl) wM_X7_81 (le45 rfl) (le45 rfl) (dat D_X7_passSurfer 11 rfl) rfl rfl (le45 rfl) (le45 rfl) rfl (fun _ => ?_) nlt0
    refine AW.if_neH (t := 29) (n := 27) h (dat D_X7_passSurfer 12 rfl) rfl rfl (fun h => ?_) (fun h => ?_)
    · refine AW.iconst (n := 28) (dat D_X7_passSurfer 13 rfl) rfl ?_
      cases h
      exact AW.zret rfl (by decide) rfl rfl (dat D_X7_passSurfer 14 rfl)
    · refine AW.aload_n (n := 30) (dat D_X7_passSurfer 15 rfl) rfl rfl ?_
      refine AW.getQH h (n := 33) fX7_1 wF_X7_15 ly_17 (le45 rfl) rfl rfl (dat D_X7_passSurfer 16 rfl) rfl (fun k6 hpk6 h => ?_)
      refine AW.aload_n (n := 34) (dat D_X7_passSurfer 17 rfl) rfl rfl ?_
      refine AW.getR (n := 37) (t := 15) fX7_0 wF_X7_9 ly_17 (le45 rfl) rfl (dat D_X7_passSurfer 18 rfl) rfl ?_
      obtain ⟨σ8, hc7, h⟩ := ob_some h
      refine AW.cV (n := 40) (as := [vR 15]) (st := []) (st' := []) (uc' := 0) (us' := 0) (A_X6_writeName hΓ hpk6 hc7) cf_X6_writeName (isSea_ly0 hpk6) (by have := isSea_lt hpk6; omega) vc_6 (le45 rfl) wM_X7_84 (le45 rfl) (le45 rfl) (dat D_X7_passSurfer 19 rfl) rfl rfl (le45 rfl) (le45 rfl) rfl (fun _ => ?_) nlt0
      refine AW.aload_n (n := 41) (dat D_X7_passSurfer 20 rfl) rfl rfl ?_
      refine AW.getR (n := 44) (t := 15) fX7_0 wF_X7_9 ly_17 (le45 rfl) rfl (dat D_X7_passSurfer 21 rfl) rfl ?_
      obtain ⟨σ10, hc9, h⟩ := ob_some h
      refine AW.cV (n := 47) (as := []) (st := []) (st' := []) (uc' := 0) (us' := 0) (A_X10_advance hΓ hc9) cf_X10_advance ly_15 (le45 rfl) vc_10 (le45 rfl) wM_X7_78 (le45 rfl) (le45 rfl) (dat D_X7_passSurfer 22 rfl) rfl rfl (le45 rfl) (le45 rfl) rfl (fun _ => ?_) nlt0
      refine AW.aload_n (n := 48) (dat D_X7_passSurfer 23 rfl) rfl rfl ?_
      refine AW.getR (n := 51) (t := 15) fX7_0 wF_X7_9 ly_17 (le45 rfl) rfl (dat D_X7_passSurfer 24 rfl) rfl ?_
      refine AW.ldcS (n := 53) (j := 1) rfl (dat D_X7_passSurfer 25 rfl) rfl ?_
      obtain ⟨v12, σ13, hc11, h⟩ := bnd2_some h
      refine AW.cV (n := 56) (as := [vO 1]) (st := []) (st' := [vI v12]) (uc' := 0) (us' := 0) (A_X10_passWord hΓ (by decide) hc11) cf_X10_passWord ly_15 (le45 rfl) vc_10 (le45 rfl) wM_X7_90 (le45 rfl) (le45 rfl) (dat D_X7_passSurfer 26 rfl) rfl rfl (le45 rfl) (le45 rfl) rfl (fun _ => ?_) nlt0
      obtain ⟨s16, h, hq16⟩ := ob_some h
      obtain ⟨y14, σ15⟩ := s16
      have hJ16 : AW Γ mX7_passSurfer 12 (0, r) (85, τ) 0 0 74 [some (vR 17), none, none] [vI y14] (85, σ15) := by
        have h : X7_passSurfer_j74 n y14 σ15 = some _ := hq16
        unfold X7_passSurfer_j74 at h
        refine AW.istore_n (n := 75) (ls' := [some (vR 17), some (vI y14), none]) (dat D_X7_passSurfer 36 rfl) rfl (le45 rfl) (le45 rfl) rfl rfl ?_
        refine AW.iload_n (n := 76) (dat D_X7_passSurfer 37 rfl) rfl rfl ?_
        refine AW.iconst (n := 77) (dat D_X7_passSurfer 38 rfl) rfl ?_
        refine AW.icmp_eqH (t := 92) (n := 80) h (dat D_X7_passSurfer 39 rfl) rfl rfl rfl (by decide) (fun h => ?_) (fun h => ?_)
        · refine AW.iconst (n := 93) (dat D_X7_passSurfer 45 rfl) rfl ?_
          cases h
          exact AW.zret rfl (by decide) rfl rfl (dat D_X7_passSurfer 46 rfl)
        · refine AW.aload_n (n := 81) (dat D_X7_passSurfer 40 rfl) rfl rfl ?_
          refine AW.getR (n := 84) (t := 15) fX7_0 wF_X7_9 ly_17 (le45 rfl) rfl (dat D_X7_passSurfer 41 rfl) rfl ?_
          refine AW.ldcS (n := 86) (j := 2) rfl (dat D_X7_passSurfer 42 rfl) rfl ?_
          obtain ⟨v18, σ19, hc17, h⟩ := bnd2_some h
          refine AW.cV (n := 89) (as := [vO 2]) (st := []) (st' := [vI v18]) (uc' := 0) (us' := 0) (A_X10_passWord hΓ (by decide) hc17) cf_X10_passWord ly_15 (le45 rfl) vc_10 (le45 rfl) wM_X7_90 (le45 rfl) (le45 rfl) (dat D_X7_passSurfer 43 rfl) rfl rfl (le45 rfl) (le45 rfl) rfl (fun _ => ?_) nlt0
          refine AW.if_neH (t := 94) (n := 92) h (dat D_X7_passSurfer 44 rfl) rfl rfl (fun h => ?_) (fun h => ?_)
          · refine AW.iconst (n := 93) (dat D_X7_passSurfer 45 rfl) rfl ?_
            cases h
            exact AW.zret rfl (by decide) rfl rfl (dat D_X7_passSurfer 46 rfl)
          · refine AW.aload_n (n := 95) (dat D_X7_passSurfer 47 rfl) rfl rfl ?_
            refine AW.getR (n := 98) (t := 15) fX7_0 wF_X7_9 ly_17 (le45 rfl) rfl (dat D_X7_passSurfer 48 rfl) rfl ?_
            refine AW.iconst (n := 99) (dat D_X7_passSurfer 49 rfl) rfl ?_
            refine AW.bipush (n := 101) (dat D_X7_passSurfer 50 rfl) rfl (by decide) ?_
            refine AW.iconst (n := 102) (dat D_X7_passSurfer 51 rfl) rfl ?_
            obtain ⟨v21, σ22, hc20, h⟩ := bnd2_some h
            refine AW.cV (n := 105) (as := [vI 1, vI 9, vI 2]) (st := []) (st' := [vI v21]) (uc' := 0) (us' := 0) (A_X10_passNumber hΓ hc20) cf_X10_passNumber ly_15 (le45 rfl) vc_10 (le45 rfl) wM_X7_93 (le45 rfl) (le45 rfl) (dat D_X7_passSurfer 52 rfl) rfl rfl (le45 rfl) (le45 rfl) rfl (fun _ => ?_) nlt0
            refine AW.istore_n (n := 106) (ls' := [some (vR 17), some (vI y14), some (vI v21)]) (dat D_X7_passSurfer 53 rfl) rfl (le45 rfl) (le45 rfl) rfl rfl ?_
            refine AW.iload_n (n := 107) (dat D_X7_passSurfer 54 rfl) rfl rfl ?_
            refine AW.iconst (n := 108) (dat D_X7_passSurfer 55 rfl) rfl ?_
            refine AW.icmp_neH (t := 113) (n := 111) h (dat D_X7_passSurfer 56 rfl) rfl rfl rfl (by decide) (fun h => ?_) (fun h => ?_)
            · refine AW.iconst (n := 112) (dat D_X7_passSurfer 57 rfl) rfl ?_
              cases h
              exact AW.zret rfl (by decide) rfl rfl (dat D_X7_passSurfer 58 rfl)
            · refine AW.aload_n (n := 114) (dat D_X7_passSurfer 59 rfl) rfl rfl ?_
              refine AW.getQH h (n := 117) fX7_1 wF_X7_15 ly_17 (le45 rfl) rfl rfl (dat D_X7_passSurfer 60 rfl) rfl (fun k23 hpk23 h => ?_)
              refine AW.iload_n (n := 118) (dat D_X7_passSurfer 61 rfl) rfl rfl ?_
              refine AW.iload_n (n := 119) (dat D_X7_passSurfer 62 rfl) rfl rfl ?_
              obtain ⟨σ25, hc24, h⟩ := ob_some h
              refine AW.cV (n := 122) (as := [vI y14, vI v21]) (st := []) (st' := []) (uc' := 0) (us' := 0) (A_X6_addSurfer hΓ hpk23 hc24) cf_X6_addSurfer (isSea_ly0 hpk23) (by have := isSea_lt hpk23; omega) vc_6 (le45 rfl) wM_X7_99 (le45 rfl) (le45 rfl) (dat D_X7_passSurfer 63 rfl) rfl rfl (le45 rfl) (le45 rfl) rfl (fun _ => ?_) nlt0
              refine AW.iconst (n := 123) (dat D_X7_passSurfer 64 rfl) rfl ?_
              cases h
              exact AW.zret rfl (by decide) rfl rfl (dat D_X7_passSurfer 65 rfl)
      refine AW.if_eqH (t := 73) (n := 59) h (dat D_X7_passSurfer 27 rfl) rfl rfl (fun h => ?_) (fun h => ?_)
      · refine AW.iconst (n := 74) (dat D_X7_passSurfer 35 rfl) rfl ?_
        cases h
        exact AW.to hJ16 (lle_s rfl (lle_n (lle_n (lle_z))))
      · refine AW.aload_n (n := 60) (dat D_X7_passSurfer 28 rfl) rfl rfl ?_
        refine AW.getR (n := 63) (t := 15) fX7_0 wF_X7_9 ly_17 (le45 rfl) rfl (dat D_X7_passSurfer 29 rfl) rfl ?_
        refine AW.iconst (n := 64) (dat D_X7_passSurfer 30 rfl) rfl ?_
        refine AW.bipush (n := 66) (dat D_X7_passSurfer 31 rfl) rfl (by decide) ?_
        refine AW.iconst (n := 67) (dat D_X7_passSurfer 32 rfl) rfl ?_
        obtain ⟨v27, σ28, hc26, h⟩ := bnd2_some h
        refine AW.cV (n := 70) (as := [vI 0, vI 40, vI 2]) (st := []) (st' := [vI v27]) (uc' := 0) (us' := 0) (A_X10_passNumber hΓ hc26) cf_X10_passNumber ly_15 (le45 rfl) vc_10 (le45 rfl) wM_X7_93 (le45 rfl) (le45 rfl) (dat D_X7_passSurfer 33 rfl) rfl rfl (le45 rfl) (le45 rfl) rfl (fun _ => ?_) nlt0
        refine AW.goto (t := 74) (dat D_X7_passSurfer 34 rfl) rfl ?_
        cases h
        exact AW.to hJ16 (lle_s rfl (lle_n (lle_n (lle_z))))
  · refine AW.iconst (n := 12) (dat D_X7_passSurfer 5 rfl) rfl ?_
    cases h
    exact AW.zret rfl (by decide) rfl rfl (dat D_X7_passSurfer 6 rfl)
def L_X6_addWave : List (Nat × Instr × Nat) := [(0, .aload_n 0, 1), (1, .getfield 34, 3), (4, .bipush 20, 2), (6, .if_icmp .ge 73, 3), (9, .aload_n 0, 1), (10, .getfield 34, 3), (13, .iconst 5, 1), (14, .imul, 1), (15, .istore 6, 2), (17, .aload_n 0, 1), (18, .getfield 24, 3), (21, .iload 6, 2), (23, .iconst 0, 1), (24, .iadd, 1), (25, .iload_n 1, 1), (26, .iastore, 1), (27, .aload_n 0, 1), (28, .getfield 24, 3), (31, .iload 6, 2), (33, .iconst 1, 1), (34, .iadd, 1), (35, .iload_n 2, 1), (36, .iastore, 1), (37, .aload_n 0, 1), (38, .getfield 24, 3), (41, .iload 6, 2), (43, .iconst 2, 1), (44, .iadd, 1), (45, .iload_n 3, 1), (46, .iastore, 1), (47, .aload_n 0, 1), (48, .getfield 24, 3), (51, .iload 6, 2), (53, .iconst 3, 1), (54, .iadd, 1), (55, .iload 4, 2), (57, .iastore, 1), (58, .aload_n 0, 1), (59, .getfield 24, 3), (62, .iload 6, 2), (64, .iconst 4, 1), (65, .iadd, 1), (66, .iload 5, 2), (68, .iastore, 1), (69, .aload_n 0, 1), (70, .dup, 1), (71, .getfield 34, 3), (74, .iconst 1, 1), (75, .iadd, 1), (76, .putfield 34, 3), (79, .return_, 1)]
theorem D_X6_addWave : dOK cX6_addWave L_X6_addWave = true := by decide +kernel
theorem cf_X6_addWave : CFV mX6_addWave 5 := ⟨wI_X6_addWave, wS_X6_addWave, wN_WaveRight_Sea, wC_X6_addWave, rfl, ⟨by decide +kernel, by decide +kernel, by decide +kernel⟩, le45 rfl⟩
def X6_addWave (n : Nat) (k : Nat) (a0 : Int) (a1 : Int) (a2 : Int) (a3 : Int) (a4 : Int) (σ : SG) : Option (SG) :=
  if 20 ≤ w32 (σ k 6) then
    some (σ)
  else
    lt ((σ k 6) * 5) fun x1 =>
    rdA 100 (x1 + 0) fun j2 => lt (up σ (k + 5) j2 a0) fun σ3 =>
    rdA 100 (x1 + 1) fun j4 => lt (up σ3 (k + 5) j4 a1) fun σ5 =>
    rdA 100 (x1 + 2) fun j6 => lt (up σ5 (k + 5) j6 a2) fun σ7 =>
    rdA 100 (x1 + 3) fun j8 => lt (up σ7 (k + 5) j8 a3) fun σ9 =>
    rdA 100 (x1 + 4) fun j10 => lt (up σ9 (k + 5) j10 a4) fun σ11 =>
    lt (up σ11 k 6 ((σ11 k 6) + 1)) fun σ12 =>
    some (σ12)
set_option maxHeartbeats 4000000 in
set_option maxRecDepth 100000 in
theorem A_X6_addWave {Γ : GA} (hΓ : (gl Γ).stackTraces = false) {n : Nat} {k : Nat} {a0 : Int} {a1 : Int} {a2 : Int} {a3 : Int} {a4 : Int} {σ : SG} {τ : SG} (hpk : isSea k = true) (h : X6_addWave n k a0 a1 a2 a3 a4 σ = some τ) : AM Γ mX6_addWave 1 0 0 [vR k, vI a0, vI a1, vI a2, vI a3, vI a4] (85, σ) (0, 0) (85, τ) := by
  refine AM.of pl_X6 rfl wC_X6_addWave (le45 rfl) hΓ ?_
  refine AW.to (ls'' := [some (vR k), some (vI a0), some (vI a1), some (vI a2), some (vI a3), some (vI a4), none]) ?_ (lle_s rfl (lle_s rfl (lle_s rfl (lle_s rfl (lle_s rfl (lle_s rfl (lle_e (lle_z))))))))
  unfold X6_addWave at h
  refine AW.aload_n (n := 1) (dat D_X6_addWave 0 rfl) rfl rfl ?_
  refine AW.getI (n := 4) fX6_6 wF_X6_34 (isSea_ly0 hpk) (by have := isSea_lt hpk; omega) rfl rfl (dat D_X6_addWave 1 rfl) rfl ?_
  refine AW.bipush (n := 6) (dat D_X6_addWave 2 rfl) rfl (by decide) ?_
  refine AW.icmp_geH (t := 79) (n := 9) h (dat D_X6_addWave 3 rfl) rfl rfl rfl (by decide) (fun h => ?_) (fun h => ?_)
  · cases h
    exact AW.vret rfl rfl rfl (dat D_X6_addWave 50 rfl)
  · refine AW.aload_n (n := 10) (dat D_X6_addWave 4 rfl) rfl rfl ?_
    refine AW.getI (n := 13) fX6_6 wF_X6_34 (isSea_ly0 hpk) (by have := isSea_lt hpk; omega) rfl rfl (dat D_X6_addWave 5 rfl) rfl ?_
    refine AW.iconst (n := 14) (dat D_X6_addWave 6 rfl) rfl ?_
    refine AW.imul (n := 15) (dat D_X6_addWave 7 rfl) rfl ?_
    refine AW.ltI h (fun x1 h => ?_)
    refine AW.istore (n := 17) (ls' := [some (vR k), some (vI a0), some (vI a1), some (vI a2), some (vI a3), some (vI a4), some (vI x1)]) (dat D_X6_addWave 8 rfl) rfl (le45 rfl) (le45 rfl) rfl rfl ?_
    refine AW.aload_n (n := 18) (dat D_X6_addWave 9 rfl) rfl rfl ?_
    refine AW.getR (n := 21) (t := k + 5) fX6_4 wF_X6_24 (isSea_ly0 hpk) (by have := isSea_lt hpk; omega) rfl (dat D_X6_addWave 10 rfl) rfl ?_
    refine AW.iload (n := 23) (dat D_X6_addWave 11 rfl) rfl rfl ?_
    refine AW.iconst (n := 24) (dat D_X6_addWave 12 rfl) rfl ?_
    refine AW.iadd (n := 25) (dat D_X6_addWave 13 rfl) rfl ?_
    refine AW.iload_n (n := 26) (dat D_X6_addWave 14 rfl) rfl rfl ?_
    refine AW.iastH h (n := 27) rfl (isSea_ly5 hpk) (by have := isSea_lt hpk; omega) (dat D_X6_addWave 15 rfl) rfl (fun j2 h => ?_)
    refine AW.ltS h (fun σ3 h => ?_)
    refine AW.aload_n (n := 28) (dat D_X6_addWave 16 rfl) rfl rfl ?_
    refine AW.getR (n := 31) (t := k + 5) fX6_4 wF_X6_24 (isSea_ly0 hpk) (by have := isSea_lt hpk; omega) rfl (dat D_X6_addWave 17 rfl) rfl ?_
    refine AW.iload (n := 33) (dat D_X6_addWave 18 rfl) rfl rfl ?_
    refine AW.iconst (n := 34) (dat D_X6_addWave 19 rfl) rfl ?_
    refine AW.iadd (n := 35) (dat D_X6_addWave 20 rfl) rfl ?_
    refine AW.iload_n (n := 36) (dat D_X6_addWave 21 rfl) rfl rfl ?_
    refine AW.iastH h (n := 37) rfl (isSea_ly5 hpk) (by have := isSea_lt hpk; omega) (dat D_X6_addWave 22 rfl) rfl (fun j4 h => ?_)
    refine AW.ltS h (fun σ5 h => ?_)
    refine AW.aload_n (n := 38) (dat D_X6_addWave 23 rfl) rfl rfl ?_
    refine AW.getR (n := 41) (t := k + 5) fX6_4 wF_X6_24 (isSea_ly0 hpk) (by have := isSea_lt hpk; omega) rfl (dat D_X6_addWave 24 rfl) rfl ?_
    refine AW.iload (n := 43) (dat D_X6_addWave 25 rfl) rfl rfl ?_
    refine AW.iconst (n := 44) (dat D_X6_addWave 26 rfl) rfl ?_
    refine AW.iadd (n := 45) (dat D_X6_addWave 27 rfl) rfl ?_
    refine AW.iload_n (n := 46) (dat D_X6_addWave 28 rfl) rfl rfl ?_
    refine AW.iastH h (n := 47) rfl (isSea_ly5 hpk) (by have := isSea_lt hpk; omega) (dat D_X6_addWave 29 rfl) rfl (fun j6 h => ?_)
    refine AW.ltS h (fun σ7 h => ?_)
    refine AW.aload_n (n := 48) (dat D_X6_addWave 30 rfl) rfl rfl ?_
    refine AW.getR (n := 51) (t := k + 5) fX6_4 wF_X6_24 (isSea_ly0 hpk) (by have := isSea_lt hpk; omega) rfl (dat D_X6_addWave 31 rfl) rfl ?_
    refine AW.iload (n := 53) (dat D_X6_addWave 32 rfl) rfl rfl ?_
    refine AW.iconst (n := 54) (dat D_X6_addWave 33 rfl) rfl ?_
    refine AW.iadd (n := 55) (dat D_X6_addWave 34 rfl) rfl ?_
    refine AW.iload (n := 57) (dat D_X6_addWave 35 rfl) rfl rfl ?_
    refine AW.iastH h (n := 58) rfl (isSea_ly5 hpk) (by have := isSea_lt hpk; omega) (dat D_X6_addWave 36 rfl) rfl (fun j8 h => ?_)
    refine AW.ltS h (fun σ9 h => ?_)
    refine AW.aload_n (n := 59) (dat D_X6_addWave 37 rfl) rfl rfl ?_
    refine AW.getR (n := 62) (t := k + 5) fX6_4 wF_X6_24 (isSea_ly0 hpk) (by have := isSea_lt hpk; omega) rfl (dat D_X6_addWave 38 rfl) rfl ?_
    refine AW.iload (n := 64) (dat D_X6_addWave 39 rfl) rfl rfl ?_
    refine AW.iconst (n := 65) (dat D_X6_addWave 40 rfl) rfl ?_
    refine AW.iadd (n := 66) (dat D_X6_addWave 41 rfl) rfl ?_
    refine AW.iload (n := 68) (dat D_X6_addWave 42 rfl) rfl rfl ?_
    refine AW.iastH h (n := 69) rfl (isSea_ly5 hpk) (by have := isSea_lt hpk; omega) (dat D_X6_addWave 43 rfl) rfl (fun j10 h => ?_)
    refine AW.ltS h (fun σ11 h => ?_)
    refine AW.aload_n (n := 70) (dat D_X6_addWave 44 rfl) rfl rfl ?_
    refine AW.dup (n := 71) (dat D_X6_addWave 45 rfl) rfl (cR _) ?_
    refine AW.getI (n := 74) fX6_6 wF_X6_34 (isSea_ly0 hpk) (by have := isSea_lt hpk; omega) rfl rfl (dat D_X6_addWave 46 rfl) rfl ?_
    refine AW.iconst (n := 75) (dat D_X6_addWave 47 rfl) rfl ?_
    refine AW.iadd (n := 76) (dat D_X6_addWave 48 rfl) rfl ?_
    refine AW.putI (n := 79) fX6_6 wF_X6_34 (isSea_ly0 hpk) (by have := isSea_lt hpk; omega) rfl rfl rfl (dat D_X6_addWave 49 rfl) rfl ?_
    refine AW.ltS h (fun σ12 h => ?_)
    cases h
    exact AW.vret rfl rfl rfl (dat D_X6_addWave 50 rfl)
def L_X6_factOf : List (Nat × Instr × Nat) := [(0, .iload_n 1, 1), (1, .iconst 5, 1), (2, .imul, 1), (3, .iload_n 2, 1), (4, .iadd, 1), (5, .istore_n 3, 1), (6, .iload_n 3, 1), (7, .ifCond .lt 12, 3), (10, .iload_n 3, 1), (11, .aload_n 0, 1), (12, .getfield 24, 3), (15, .arraylength, 1), (16, .if_icmp .lt 7, 3), (19, .iconst 0, 1), (20, .goto 9, 3), (23, .aload_n 0, 1), (24, .getfield 24, 3), (27, .iload_n 3, 1), (28, .iaload, 1), (29, .ireturn, 1)]
theorem D_X6_factOf : dOK cX6_factOf L_X6_factOf = true := by decide +kernel
theorem cf_X6_factOf : CFV mX6_factOf 2 := ⟨wI_X6_factOf, wS_X6_factOf, wN_WaveRight_Sea, wC_X6_factOf, rfl, ⟨by decide +kernel, by decide +kernel, by decide +kernel⟩, le45 rfl⟩
def X6_factOf (n : Nat) (k : Nat) (a0 : Int) (a1 : Int) (σ : SG) : Option (Int) :=
  lt ((a0 * 5) + a1) fun x1 =>
  if w32 x1 < 0 then
    some (0)
  else
    if w32 x1 < 100 then
      rdA 100 x1 fun j2 =>
      some ((σ (k + 5) j2))
    else
      some (0)
set_option maxHeartbeats 4000000 in
set_option maxRecDepth 100000 in
theorem A_X6_factOf {Γ : GA} (hΓ : (gl Γ).stackTraces = false) {n : Nat} {k : Nat} {a0 : Int} {a1 : Int} {σ : SG} {r : Int} (hpk : isSea k = true) (h : X6_factOf n k a0 a1 σ = some r) : AM Γ mX6_factOf 1 0 0 [vR k, vI a0, vI a1] (85, σ) (0, r) (85, σ) := by
  refine AM.of pl_X6 rfl wC_X6_factOf (le45 rfl) hΓ ?_
  refine AW.to (ls'' := [some (vR k), some (vI a0), some (vI a1), none]) ?_ (lle_s rfl (lle_s rfl (lle_s rfl (lle_e (lle_z)))))
  unfold X6_factOf at h
  refine AW.iload_n (n := 1) (dat D_X6_factOf 0 rfl) rfl rfl ?_
  refine AW.iconst (n := 2) (dat D_X6_factOf 1 rfl) rfl ?_
  refine AW.imul (n := 3) (dat D_X6_factOf 2 rfl) rfl ?_
  refine AW.iload_n (n := 4) (dat D_X6_factOf 3 rfl) rfl rfl ?_
  refine AW.iadd (n := 5) (dat D_X6_factOf 4 rfl) rfl ?_
  refine AW.ltI h (fun x1 h => ?_)
  refine AW.istore_n (n := 6) (ls' := [some (vR k), some (vI a0), some (vI a1), some (vI x1)]) (dat D_X6_factOf 5 rfl) rfl (le45 rfl) (le45 rfl) rfl rfl ?_
  refine AW.iload_n (n := 7) (dat D_X6_factOf 6 rfl) rfl rfl ?_
  refine AW.if_ltH (t := 19) (n := 10) h (dat D_X6_factOf 7 rfl) rfl rfl (fun h => ?_) (fun h => ?_)
  · refine AW.iconst (n := 20) (dat D_X6_factOf 13 rfl) rfl ?_
    refine AW.goto (t := 29) (dat D_X6_factOf 14 rfl) rfl ?_
    cases h
    exact AW.iret rfl rfl rfl (dat D_X6_factOf 19 rfl)
  · refine AW.iload_n (n := 11) (dat D_X6_factOf 8 rfl) rfl rfl ?_
    refine AW.aload_n (n := 12) (dat D_X6_factOf 9 rfl) rfl rfl ?_
    refine AW.getR (n := 15) (t := k + 5) fX6_4 wF_X6_24 (isSea_ly0 hpk) (by have := isSea_lt hpk; omega) rfl (dat D_X6_factOf 10 rfl) rfl ?_
    refine AW.alen20 (n := 16) (x := 100) (isSea_ly5 hpk) (by have := isSea_lt hpk; omega) rfl (dat D_X6_factOf 11 rfl) rfl ?_
    refine AW.icmp_ltH (t := 23) (n := 19) h (dat D_X6_factOf 12 rfl) rfl rfl rfl (by decide) (fun h => ?_) (fun h => ?_)
    · refine AW.aload_n (n := 24) (dat D_X6_factOf 15 rfl) rfl rfl ?_
      refine AW.getR (n := 27) (t := k + 5) fX6_4 wF_X6_24 (isSea_ly0 hpk) (by have := isSea_lt hpk; omega) rfl (dat D_X6_factOf 16 rfl) rfl ?_
      refine AW.iload_n (n := 28) (dat D_X6_factOf 17 rfl) rfl rfl ?_
      refine AW.ialdH h (n := 29) rfl (isSea_ly5 hpk) (by have := isSea_lt hpk; omega) (dat D_X6_factOf 18 rfl) rfl (fun j2 h => ?_)
      cases h
      exact AW.iret rfl rfl rfl (dat D_X6_factOf 19 rfl)
    · refine AW.iconst (n := 20) (dat D_X6_factOf 13 rfl) rfl ?_
      refine AW.goto (t := 29) (dat D_X6_factOf 14 rfl) rfl ?_
      cases h
      exact AW.iret rfl rfl rfl (dat D_X6_factOf 19 rfl)
def L_X7_passWays : List (Nat × Instr × Nat) := [(0, .aload_n 0, 1), (1, .getfield 9, 3), (4, .ldc 113, 2), (6, .invokevirtual 90, 3), (9, .ifCond .eq 5, 3), (12, .iconst 1, 1), (13, .ireturn, 1), (14, .aload_n 0, 1), (15, .getfield 9, 3), (18, .ldc 115, 2), (20, .invokevirtual 90, 3), (23, .ifCond .eq 5, 3), (26, .iconst 2, 1), (27, .ireturn, 1), (28, .aload_n 0, 1), (29, .getfield 9, 3), (32, .ldc 117, 2), (34, .invokevirtual 90, 3), (37, .ifCond .eq 7, 3), (40, .iconst 3, 1), (41, .goto 4, 3), (44, .iconst 0, 1), (45, .ireturn, 1)]
theorem D_X7_passWays : dOK cX7_passWays L_X7_passWays = true := by decide +kernel
theorem cf_X7_passWays : CFV mX7_passWays 0 := ⟨wI_X7_passWays, wS_X7_passWays, wN_WaveRight_SeaReader, wC_X7_passWays, rfl, ⟨by decide +kernel, by decide +kernel, by decide +kernel⟩, le45 rfl⟩
def X7_passWays (n : Nat) (σ : SG) : Option (Int × SG) :=
  bnd2 (X10_passWord n 6 σ) fun v2 σ3 =>
  if w32 v2 = 0 then
    bnd2 (X10_passWord n 7 σ3) fun v5 σ6 =>
    if w32 v5 = 0 then
      bnd2 (X10_passWord n 8 σ6) fun v8 σ9 =>
      if w32 v8 = 0 then
        some ((0, σ9))
      else
        some ((3, σ9))
    else
      some ((2, σ6))
  else
    some ((1, σ3))
set_option maxHeartbeats 4000000 in
set_option maxRecDepth 100000 in
theorem A_X7_passWays {Γ : GA} (hΓ : (gl Γ).stackTraces = false) {n : Nat} {σ : SG} {r : Int} {τ : SG}  (h : X7_passWays n σ = some (r, τ)) : AM Γ mX7_passWays 11 0 0 [vR 17] (85, σ) (0, r) (85, τ) := by
  refine AM.of pl_X7 rfl wC_X7_passWays (le45 rfl) hΓ ?_
  refine AW.to (ls'' := [some (vR 17)]) ?_ (lle_s rfl (lle_z))
  unfold X7_passWays at h
  refine AW.aload_n (n := 1) (dat D_X7_passWays 0 rfl) rfl rfl ?_
  refine AW.getR (n := 4) (t := 15) fX7_0 wF_X7_9 ly_17 (le45 rfl) rfl (dat D_X7_passWays 1 rfl) rfl ?_
  refine AW.ldcS (n := 6) (j := 6) rfl (dat D_X7_passWays 2 rfl) rfl ?_
  obtain ⟨v2, σ3, hc1, h⟩ := bnd2_some h
  refine AW.cV (n := 9) (as := [vO 6]) (st := []) (st' := [vI v2]) (uc' := 0) (us' := 0) (A_X10_passWord hΓ (by decide) hc1) cf_X10_passWord ly_15 (le45 rfl) vc_10 (le45 rfl) wM_X7_90 (le45 rfl) (le45 rfl) (dat D_X7_passWays 3 rfl) rfl rfl (le45 rfl) (le45 rfl) rfl (fun _ => ?_) nlt0
  refine AW.if_eqH (t := 14) (n := 12) h (dat D_X7_passWays 4 rfl) rfl rfl (fun h => ?_) (fun h => ?_)
  · refine AW.aload_n (n := 15) (dat D_X7_passWays 7 rfl) rfl rfl ?_
    refine AW.getR (n := 18) (t := 15) fX7_0 wF_X7_9 ly_17 (le45 rfl) rfl (dat D_X7_passWays 8 rfl) rfl ?_
    refine AW.ldcS (n := 20) (j := 7) rfl (dat D_X7_passWays 9 rfl) rfl ?_
    obtain ⟨v5, σ6, hc4, h⟩ := bnd2_some h
    refine AW.cV (n := 23) (as := [vO 7]) (st := []) (st' := [vI v5]) (uc' := 0) (us' := 0) (A_X10_passWord hΓ (by decide) hc4) cf_X10_passWord ly_15 (le45 rfl) vc_10 (le45 rfl) wM_X7_90 (le45 rfl) (le45 rfl) (dat D_X7_passWays 10 rfl) rfl rfl (le45 rfl) (le45 rfl) rfl (fun _ => ?_) nlt0
    refine AW.if_eqH (t := 28) (n := 26) h (dat D_X7_passWays 11 rfl) rfl rfl (fun h => ?_) (fun h => ?_)
    · refine AW.aload_n (n := 29) (dat D_X7_passWays 14 rfl) rfl rfl ?_
      refine AW.getR (n := 32) (t := 15) fX7_0 wF_X7_9 ly_17 (le45 rfl) rfl (dat D_X7_passWays 15 rfl) rfl ?_
      refine AW.ldcS (n := 34) (j := 8) rfl (dat D_X7_passWays 16 rfl) rfl ?_
      obtain ⟨v8, σ9, hc7, h⟩ := bnd2_some h
      refine AW.cV (n := 37) (as := [vO 8]) (st := []) (st' := [vI v8]) (uc' := 0) (us' := 0) (A_X10_passWord hΓ (by decide) hc7) cf_X10_passWord ly_15 (le45 rfl) vc_10 (le45 rfl) wM_X7_90 (le45 rfl) (le45 rfl) (dat D_X7_passWays 17 rfl) rfl rfl (le45 rfl) (le45 rfl) rfl (fun _ => ?_) nlt0
      refine AW.if_eqH (t := 44) (n := 40) h (dat D_X7_passWays 18 rfl) rfl rfl (fun h => ?_) (fun h => ?_)
      · refine AW.iconst (n := 45) (dat D_X7_passWays 21 rfl) rfl ?_
        cases h
        exact AW.iret rfl rfl rfl (dat D_X7_passWays 22 rfl)
      · refine AW.iconst (n := 41) (dat D_X7_passWays 19 rfl) rfl ?_
        refine AW.goto (t := 45) (dat D_X7_passWays 20 rfl) rfl ?_
        cases h
        exact AW.iret rfl rfl rfl (dat D_X7_passWays 22 rfl)
    · refine AW.iconst (n := 27) (dat D_X7_passWays 12 rfl) rfl ?_
      cases h
      exact AW.iret rfl rfl rfl (dat D_X7_passWays 13 rfl)
  · refine AW.iconst (n := 13) (dat D_X7_passWays 5 rfl) rfl ?_
    cases h
    exact AW.iret rfl rfl rfl (dat D_X7_passWays 6 rfl)
def L_X7_passWave : List (Nat × Instr × Nat) := [(0, .aload_n 0, 1), (1, .getfield 15, 3), (4, .getfield 128, 3), (7, .bipush 20, 2), (9, .if_icmp .lt 5, 3), (12, .iconst 0, 1), (13, .ireturn, 1), (14, .aload_n 0, 1), (15, .getfield 9, 3), (18, .invokevirtual 78, 3), (21, .aload_n 0, 1), (22, .getfield 15, 3), (25, .getfield 128, 3), (28, .ifCond .ne 7, 3), (31, .iconst 1, 1), (32, .goto 20, 3), (35, .aload_n 0, 1), (36, .getfield 15, 3), (39, .aload_n 0, 1), (40, .getfield 15, 3), (43, .getfield 128, 3), (46, .iconst 1, 1), (47, .isub, 1), (48, .iconst 0, 1), (49, .invokevirtual 131, 3), (52, .istore_n 1, 1), (53, .aload_n 0, 1), (54, .getfield 9, 3), (57, .iload_n 1, 1), (58, .bipush 99, 2), (60, .iconst 2, 1), (61, .invokevirtual 93, 3), (64, .istore_n 2, 1), (65, .iload_n 2, 1), (66, .iconst (-1), 1), (67, .if_icmp .eq 15, 3), (70, .aload_n 0, 1), (71, .getfield 9, 3), (74, .ldc 88, 2), (76, .invokevirtual 90, 3), (79, .ifCond .ne 5, 3), (82, .iconst 0, 1), (83, .ireturn, 1), (84, .aload_n 0, 1), (85, .getfield 9, 3), (88, .iconst 0, 1), (89, .bipush 40, 2), (91, .iconst 2, 1), (92, .invokevirtual 93, 3), (95, .istore_n 3, 1), (96, .iload_n 3, 1), (97, .iconst (-1), 1), (98, .if_icmp .ne 7, 3), (101, .iconst 0, 1), (102, .goto 7, 3), (105, .aload_n 0, 1), (106, .invokevirtual 135, 3), (109, .istore 4, 2), (111, .iload 4, 2), (113, .ifCond .eq 15, 3), (116, .aload_n 0, 1), (117, .getfield 9, 3), (120, .ldc 119, 2), (122, .invokevirtual 90, 3), (125, .ifCond .ne 5, 3), (128, .iconst 0, 1), (129, .ireturn, 1), (130, .aload_n 0, 1), (131, .getfield 9, 3), (134, .iconst 1, 1), (135, .bipush 9, 2), (137, .iconst 2, 1), (138, .invokevirtual 93, 3), (141, .istore 5, 2), (143, .iload 5, 2), (145, .iconst (-1), 1), (146, .if_icmp .eq 15, 3), (149, .aload_n 0, 1), (150, .getfield 9, 3), (153, .ldc 121, 2), (155, .invokevirtual 90, 3), (158, .ifCond .ne 5, 3), (161, .iconst 0, 1), (162, .ireturn, 1), (163, .aload_n 0, 1), (164, .getfield 9, 3), (167, .iconst 1, 1), (168, .bipush 15, 2), (170, .iconst 2, 1), (171, .invokevirtual 93, 3), (174, .istore 6, 2), (176, .iload 6, 2), (178, .iconst (-1), 1), (179, .if_icmp .ne 5, 3), (182, .iconst 0, 1), (183, .ireturn, 1), (184, .aload_n 0, 1), (185, .getfield 15, 3), (188, .iload_n 2, 1), (189, .iload_n 3, 1), (190, .iload 4, 2), (192, .iload 5, 2), (194, .iload 6, 2), (196, .invokevirtual 139, 3), (199, .iconst 1, 1), (200, .ireturn, 1)]
theorem D_X7_passWave : dOK cX7_passWave L_X7_passWave = true := by decide +kernel
theorem cf_X7_passWave : CFV mX7_passWave 0 := ⟨wI_X7_passWave, wS_X7_passWave, wN_WaveRight_SeaReader, wC_X7_passWave, rfl, ⟨by decide +kernel, by decide +kernel, by decide +kernel⟩, le45 rfl⟩
def X7_passWave_j109 (n : Nat) (v8 : Int) (v14 : Int) (y16 : Int) (σ17 : SG) : Option (Int × SG) :=
  if w32 y16 = 0 then
    some ((0, σ17))
  else
    bnd2 (X10_passWord n 9 σ17) fun v20 σ21 =>
    if w32 v20 = 0 then
      some ((0, σ21))
    else
      bnd2 (X10_passNumber n 1 9 2 σ21) fun v23 σ24 =>
      if w32 v23 = (-1) then
        some ((0, σ24))
      else
        bnd2 (X10_passWord n 10 σ24) fun v26 σ27 =>
        if w32 v26 = 0 then
          some ((0, σ27))
        else
          bnd2 (X10_passNumber n 1 15 2 σ27) fun v29 σ30 =>
          if w32 v29 = (-1) then
            some ((0, σ30))
          else
            ckR isSea (σ30 17 1) fun k31 =>
            (X6_addWave n k31 v8 v14 y16 v23 v29 σ30).bind fun σ33 =>
            some ((1, σ33))
def X7_passWave_j52 (n : Nat) (σ3 : SG) (y5 : Int) : Option (Int × SG) :=
  bnd2 (X10_passNumber n y5 99 2 σ3) fun v8 σ9 =>
  if w32 v8 = (-1) then
    some ((0, σ9))
  else
    bnd2 (X10_passWord n 1 σ9) fun v11 σ12 =>
    if w32 v11 = 0 then
      some ((0, σ12))
    else
      bnd2 (X10_passNumber n 0 40 2 σ12) fun v14 σ15 =>
      ((if w32 v14 = (-1) then
        some ((0, σ15))
      else
        bnd2 (X7_passWays n σ15) fun v35 σ36 =>
        some ((v35, σ36))) : Option (Int × SG)).bind (fun s => X7_passWave_j109 n v8 v14 s.1 s.2)
def X7_passWave (n : Nat) (σ : SG) : Option (Int × SG) :=
  ckR isSea (σ 17 1) fun k1 =>
  if w32 (σ k1 6) < 20 then
    (X10_advance n σ).bind fun σ3 =>
    ckR isSea (σ3 17 1) fun k4 =>
    ((if w32 (σ3 k4 6) = 0 then
      some (1)
    else
      ckR isSea (σ3 17 1) fun k37 =>
      ckR isSea (σ3 17 1) fun k38 =>
      (X6_factOf n k37 ((σ3 k38 6) - 1) 0 σ3).bind fun v40 =>
      some (v40)) : Option (Int)).bind (fun s => X7_passWave_j52 n σ3 s)
  else
    some ((0, σ))
set_option maxHeartbeats 4000000 in
set_option maxRecDepth 100000 in
theorem A_X7_passWave {Γ : GA} (hΓ : (gl Γ).stackTraces = false) {n : Nat} {σ : SG} {r : Int} {τ : SG}  (h : X7_passWave n σ = some (r, τ)) : AM Γ mX7_passWave 12 0 0 [vR 17] (85, σ) (0, r) (85, τ) := by
  refine AM.of pl_X7 rfl wC_X7_passWave (le45 rfl) hΓ ?_
  refine AW.to (ls'' := [some (vR 17), none, none, none, none, none, none]) ?_ (lle_s rfl (lle_e (lle_e (lle_e (lle_e (lle_e (lle_e (lle_z))))))))
  unfold X7_passWave at h
  refine AW.aload_n (n := 1) (dat D_X7_passWave 0 rfl) rfl rfl ?_
  refine AW.getQH h (n := 4) fX7_1 wF_X7_15 ly_17 (le45 rfl) rfl rfl (dat D_X7_passWave 1 rfl) rfl (fun k1 hpk1 h => ?_)
  refine AW.getI (n := 7) fX6_6 wF_X7_128 (isSea_ly0 hpk1) (by have := isSea_lt hpk1; omega) rfl rfl (dat D_X7_passWave 2 rfl) rfl ?_
  refine AW.bipush (n := 9) (dat D_X7_passWave 3 rfl) rfl (by decide) ?_
  refine AW.icmp_ltH (t := 14) (n := 12) h (dat D_X7_passWave 4 rfl) rfl rfl rfl (by decide) (fun h => ?_) (fun h => ?_)
  · refine AW.aload_n (n := 15) (dat D_X7_passWave 7 rfl) rfl rfl ?_
    refine AW.getR (n := 18) (t := 15) fX7_0 wF_X7_9 ly_17 (le45 rfl) rfl (dat D_X7_passWave 8 rfl) rfl ?_
    obtain ⟨σ3, hc2, h⟩ := ob_some h
    refine AW.cV (n := 21) (as := []) (st := []) (st' := []) (uc' := 0) (us' := 0) (A_X10_advance hΓ hc2) cf_X10_advance ly_15 (le45 rfl) vc_10 (le45 rfl) wM_X7_78 (le45 rfl) (le45 rfl) (dat D_X7_passWave 9 rfl) rfl rfl (le45 rfl) (le45 rfl) rfl (fun _ => ?_) nlt0
    refine AW.aload_n (n := 22) (dat D_X7_passWave 10 rfl) rfl rfl ?_
    refine AW.getQH h (n := 25) fX7_1 wF_X7_15 ly_17 (le45 rfl) rfl rfl (dat D_X7_passWave 11 rfl) rfl (fun k4 hpk4 h => ?_)
    refine AW.getI (n := 28) fX6_6 wF_X7_128 (isSea_ly0 hpk4) (by have := isSea_lt hpk4; omega) rfl rfl (dat D_X7_passWave 12 rfl) rfl ?_
    obtain ⟨s6, h, hq6⟩ := ob_some h
    obtain ⟨y5, e6⟩ : ∃ z, z = s6 := ⟨_, rfl⟩
    subst e6
    have hJ6 : AW Γ mX7_passWave 12 (0, r) (85, τ) 0 0 52 [some (vR 17), none, none, none, none, none, none] [vI y5] (85, σ3) := by
      have h : X7_passWave_j52 n σ3 y5 = some _ := hq6
      unfold X7_passWave_j52 at h
      refine AW.istore_n (n := 53) (ls' := [some (vR 17), some (vI y5), none, none, none, none, none]) (dat D_X7_passWave 25 rfl) rfl (le45 rfl) (le45 rfl) rfl rfl ?_
      refine AW.aload_n (n := 54) (dat D_X7_passWave 26 rfl) rfl rfl ?_
      refine AW.getR (n := 57) (t := 15) fX7_0 wF_X7_9 ly_17 (le45 rfl) rfl (dat D_X7_passWave 27 rfl) rfl ?_
      refine AW.iload_n (n := 58) (dat D_X7_passWave 28 rfl) rfl rfl ?_
      refine AW.bipush (n := 60) (dat D_X7_passWave 29 rfl) rfl (by decide) ?_
      refine AW.iconst (n := 61) (dat D_X7_passWave 30 rfl) rfl ?_
      obtain ⟨v8, σ9, hc7, h⟩ := bnd2_some h
      refine AW.cV (n := 64) (as := [vI y5, vI 99, vI 2]) (st := []) (st' := [vI v8]) (uc' := 0) (us' := 0) (A_X10_passNumber hΓ hc7) cf_X10_passNumber ly_15 (le45 rfl) vc_10 (le45 rfl) wM_X7_93 (le45 rfl) (le45 rfl) (dat D_X7_passWave 31 rfl) rfl rfl (le45 rfl) (le45 rfl) rfl (fun _ => ?_) nlt0
      refine AW.istore_n (n := 65) (ls' := [some (vR 17), some (vI y5), some (vI v8), none, none, none, none]) (dat D_X7_passWave 32 rfl) rfl (le45 rfl) (le45 rfl) rfl rfl ?_
      refine AW.iload_n (n := 66) (dat D_X7_passWave 33 rfl) rfl rfl ?_
      refine AW.iconst (n := 67) (dat D_X7_passWave 34 rfl) rfl ?_
      refine AW.icmp_eqH (t := 82) (n := 70) h (dat D_X7_passWave 35 rfl) rfl rfl rfl (by decide) (fun h => ?_) (fun h => ?_)
      · refine AW.iconst (n := 83) (dat D_X7_passWave 41 rfl) rfl ?_
        cases h
        exact AW.zret rfl (by decide) rfl rfl (dat D_X7_passWave 42 rfl)
      · refine AW.aload_n (n := 71) (dat D_X7_passWave 36 rfl) rfl rfl ?_
        refine AW.getR (n := 74) (t := 15) fX7_0 wF_X7_9 ly_17 (le45 rfl) rfl (dat D_X7_passWave 37 rfl) rfl ?_
        refine AW.ldcS (n := 76) (j := 1) rfl (dat D_X7_passWave 38 rfl) rfl ?_
        obtain ⟨v11, σ12, hc10, h⟩ := bnd2_some h
        refine AW.cV (n := 79) (as := [vO 1]) (st := []) (st' := [vI v11]) (uc' := 0) (us' := 0) (A_X10_passWord hΓ (by decide) hc10) cf_X10_passWord ly_15 (le45 rfl) vc_10 (le45 rfl) wM_X7_90 (le45 rfl) (le45 rfl) (dat D_X7_passWave 39 rfl) rfl rfl (le45 rfl) (le45 rfl) rfl (fun _ => ?_) nlt0
        refine AW.if_neH (t := 84) (n := 82) h (dat D_X7_passWave 40 rfl) rfl rfl (fun h => ?_) (fun h => ?_)
        · refine AW.iconst (n := 83) (dat D_X7_passWave 41 rfl) rfl ?_
          cases h
          exact AW.zret rfl (by decide) rfl rfl (dat D_X7_passWave 42 rfl)
        · refine AW.aload_n (n := 85) (dat D_X7_passWave 43 rfl) rfl rfl ?_
          refine AW.getR (n := 88) (t := 15) fX7_0 wF_X7_9 ly_17 (le45 rfl) rfl (dat D_X7_passWave 44 rfl) rfl ?_
          refine AW.iconst (n := 89) (dat D_X7_passWave 45 rfl) rfl ?_
          refine AW.bipush (n := 91) (dat D_X7_passWave 46 rfl) rfl (by decide) ?_
          refine AW.iconst (n := 92) (dat D_X7_passWave 47 rfl) rfl ?_
          obtain ⟨v14, σ15, hc13, h⟩ := bnd2_some h
          refine AW.cV (n := 95) (as := [vI 0, vI 40, vI 2]) (st := []) (st' := [vI v14]) (uc' := 0) (us' := 0) (A_X10_passNumber hΓ hc13) cf_X10_passNumber ly_15 (le45 rfl) vc_10 (le45 rfl) wM_X7_93 (le45 rfl) (le45 rfl) (dat D_X7_passWave 48 rfl) rfl rfl (le45 rfl) (le45 rfl) rfl (fun _ => ?_) nlt0
          refine AW.istore_n (n := 96) (ls' := [some (vR 17), some (vI y5), some (vI v8), some (vI v14), none, none, none]) (dat D_X7_passWave 49 rfl) rfl (le45 rfl) (le45 rfl) rfl rfl ?_
          refine AW.iload_n (n := 97) (dat D_X7_passWave 50 rfl) rfl rfl ?_
          refine AW.iconst (n := 98) (dat D_X7_passWave 51 rfl) rfl ?_
          obtain ⟨s18, h, hq18⟩ := ob_some h
          obtain ⟨y16, σ17⟩ := s18
          have hJ18 : AW Γ mX7_passWave 12 (0, r) (85, τ) 0 0 109 [some (vR 17), none, some (vI v8), some (vI v14), none, none, none] [vI y16] (85, σ17) := by
            have h : X7_passWave_j109 n v8 v14 y16 σ17 = some _ := hq18
            unfold X7_passWave_j109 at h
            refine AW.istore (n := 111) (ls' := [some (vR 17), none, some (vI v8), some (vI v14), some (vI y16), none, none]) (dat D_X7_passWave 57 rfl) rfl (le45 rfl) (le45 rfl) rfl rfl ?_
            refine AW.iload (n := 113) (dat D_X7_passWave 58 rfl) rfl rfl ?_
            refine AW.if_eqH (t := 128) (n := 116) h (dat D_X7_passWave 59 rfl) rfl rfl (fun h => ?_) (fun h => ?_)
            · refine AW.iconst (n := 129) (dat D_X7_passWave 65 rfl) rfl ?_
              cases h
              exact AW.zret rfl (by decide) rfl rfl (dat D_X7_passWave 66 rfl)
            · refine AW.aload_n (n := 117) (dat D_X7_passWave 60 rfl) rfl rfl ?_
              refine AW.getR (n := 120) (t := 15) fX7_0 wF_X7_9 ly_17 (le45 rfl) rfl (dat D_X7_passWave 61 rfl) rfl ?_
              refine AW.ldcS (n := 122) (j := 9) rfl (dat D_X7_passWave 62 rfl) rfl ?_
              obtain ⟨v20, σ21, hc19, h⟩ := bnd2_some h
              refine AW.cV (n := 125) (as := [vO 9]) (st := []) (st' := [vI v20]) (uc' := 0) (us' := 0) (A_X10_passWord hΓ (by decide) hc19) cf_X10_passWord ly_15 (le45 rfl) vc_10 (le45 rfl) wM_X7_90 (le45 rfl) (le45 rfl) (dat D_X7_passWave 63 rfl) rfl rfl (le45 rfl) (le45 rfl) rfl (fun _ => ?_) nlt0
              refine AW.if_neH (t := 130) (n := 128) h (dat D_X7_passWave 64 rfl) rfl rfl (fun h => ?_) (fun h => ?_)
              · refine AW.iconst (n := 129) (dat D_X7_passWave 65 rfl) rfl ?_
                cases h
                exact AW.zret rfl (by decide) rfl rfl (dat D_X7_passWave 66 rfl)
              · refine AW.aload_n (n := 131) (dat D_X7_passWave 67 rfl) rfl rfl ?_
                refine AW.getR (n := 134) (t := 15) fX7_0 wF_X7_9 ly_17 (le45 rfl) rfl (dat D_X7_passWave 68 rfl) rfl ?_
                refine AW.iconst (n := 135) (dat D_X7_passWave 69 rfl) rfl ?_
                refine AW.bipush (n := 137) (dat D_X7_passWave 70 rfl) rfl (by decide) ?_
                refine AW.iconst (n := 138) (dat D_X7_passWave 71 rfl) rfl ?_
                obtain ⟨v23, σ24, hc22, h⟩ := bnd2_some h
                refine AW.cV (n := 141) (as := [vI 1, vI 9, vI 2]) (st := []) (st' := [vI v23]) (uc' := 0) (us' := 0) (A_X10_passNumber hΓ hc22) cf_X10_passNumber ly_15 (le45 rfl) vc_10 (le45 rfl) wM_X7_93 (le45 rfl) (le45 rfl) (dat D_X7_passWave 72 rfl) rfl rfl (le45 rfl) (le45 rfl) rfl (fun _ => ?_) nlt0
                refine AW.istore (n := 143) (ls' := [some (vR 17), none, some (vI v8), some (vI v14), some (vI y16), some (vI v23), none]) (dat D_X7_passWave 73 rfl) rfl (le45 rfl) (le45 rfl) rfl rfl ?_
                refine AW.iload (n := 145) (dat D_X7_passWave 74 rfl) rfl rfl ?_
                refine AW.iconst (n := 146) (dat D_X7_passWave 75 rfl) rfl ?_
                refine AW.icmp_eqH (t := 161) (n := 149) h (dat D_X7_passWave 76 rfl) rfl rfl rfl (by decide) (fun h => ?_) (fun h => ?_)
                · refine AW.iconst (n := 162) (dat D_X7_passWave 82 rfl) rfl ?_
                  cases h
                  exact AW.zret rfl (by decide) rfl rfl (dat D_X7_passWave 83 rfl)
                · refine AW.aload_n (n := 150) (dat D_X7_passWave 77 rfl) rfl rfl ?_
                  refine AW.getR (n := 153) (t := 15) fX7_0 wF_X7_9 ly_17 (le45 rfl) rfl (dat D_X7_passWave 78 rfl) rfl ?_
                  refine AW.ldcS (n := 155) (j := 10) rfl (dat D_X7_passWave 79 rfl) rfl ?_
                  obtain ⟨v26, σ27, hc25, h⟩ := bnd2_some h
                  refine AW.cV (n := 158) (as := [vO 10]) (st := []) (st' := [vI v26]) (uc' := 0) (us' := 0) (A_X10_passWord hΓ (by decide) hc25) cf_X10_passWord ly_15 (le45 rfl) vc_10 (le45 rfl) wM_X7_90 (le45 rfl) (le45 rfl) (dat D_X7_passWave 80 rfl) rfl rfl (le45 rfl) (le45 rfl) rfl (fun _ => ?_) nlt0
                  refine AW.if_neH (t := 163) (n := 161) h (dat D_X7_passWave 81 rfl) rfl rfl (fun h => ?_) (fun h => ?_)
                  · refine AW.iconst (n := 162) (dat D_X7_passWave 82 rfl) rfl ?_
                    cases h
                    exact AW.zret rfl (by decide) rfl rfl (dat D_X7_passWave 83 rfl)
                  · refine AW.aload_n (n := 164) (dat D_X7_passWave 84 rfl) rfl rfl ?_
                    refine AW.getR (n := 167) (t := 15) fX7_0 wF_X7_9 ly_17 (le45 rfl) rfl (dat D_X7_passWave 85 rfl) rfl ?_
                    refine AW.iconst (n := 168) (dat D_X7_passWave 86 rfl) rfl ?_
                    refine AW.bipush (n := 170) (dat D_X7_passWave 87 rfl) rfl (by decide) ?_
                    refine AW.iconst (n := 171) (dat D_X7_passWave 88 rfl) rfl ?_
                    obtain ⟨v29, σ30, hc28, h⟩ := bnd2_some h
                    refine AW.cV (n := 174) (as := [vI 1, vI 15, vI 2]) (st := []) (st' := [vI v29]) (uc' := 0) (us' := 0) (A_X10_passNumber hΓ hc28) cf_X10_passNumber ly_15 (le45 rfl) vc_10 (le45 rfl) wM_X7_93 (le45 rfl) (le45 rfl) (dat D_X7_passWave 89 rfl) rfl rfl (le45 rfl) (le45 rfl) rfl (fun _ => ?_) nlt0
                    refine AW.istore (n := 176) (ls' := [some (vR 17), none, some (vI v8), some (vI v14), some (vI y16), some (vI v23), some (vI v29)]) (dat D_X7_passWave 90 rfl) rfl (le45 rfl) (le45 rfl) rfl rfl ?_
                    refine AW.iload (n := 178) (dat D_X7_passWave 91 rfl) rfl rfl ?_
                    refine AW.iconst (n := 179) (dat D_X7_passWave 92 rfl) rfl ?_
                    refine AW.icmp_neH (t := 184) (n := 182) h (dat D_X7_passWave 93 rfl) rfl rfl rfl (by decide) (fun h => ?_) (fun h => ?_)
                    · refine AW.iconst (n := 183) (dat D_X7_passWave 94 rfl) rfl ?_
                      cases h
                      exact AW.zret rfl (by decide) rfl rfl (dat D_X7_passWave 95 rfl)
                    · refine AW.aload_n (n := 185) (dat D_X7_passWave 96 rfl) rfl rfl ?_
                      refine AW.getQH h (n := 188) fX7_1 wF_X7_15 ly_17 (le45 rfl) rfl rfl (dat D_X7_passWave 97 rfl) rfl (fun k31 hpk31 h => ?_)
                      refine AW.iload_n (n := 189) (dat D_X7_passWave 98 rfl) rfl rfl ?_
                      refine AW.iload_n (n := 190) (dat D_X7_passWave 99 rfl) rfl rfl ?_
                      refine AW.iload (n := 192) (dat D_X7_passWave 100 rfl) rfl rfl ?_
                      refine AW.iload (n := 194) (dat D_X7_passWave 101 rfl) rfl rfl ?_
                      refine AW.iload (n := 196) (dat D_X7_passWave 102 rfl) rfl rfl ?_
                      obtain ⟨σ33, hc32, h⟩ := ob_some h
                      refine AW.cV (n := 199) (as := [vI v8, vI v14, vI y16, vI v23, vI v29]) (st := []) (st' := []) (uc' := 0) (us' := 0) (A_X6_addWave hΓ hpk31 hc32) cf_X6_addWave (isSea_ly0 hpk31) (by have := isSea_lt hpk31; omega) vc_6 (le45 rfl) wM_X7_139 (le45 rfl) (le45 rfl) (dat D_X7_passWave 103 rfl) rfl rfl (le45 rfl) (le45 rfl) rfl (fun _ => ?_) nlt0
                      refine AW.iconst (n := 200) (dat D_X7_passWave 104 rfl) rfl ?_
                      cases h
                      exact AW.zret rfl (by decide) rfl rfl (dat D_X7_passWave 105 rfl)
          refine AW.icmp_neH (t := 105) (n := 101) h (dat D_X7_passWave 52 rfl) rfl rfl rfl (by decide) (fun h => ?_) (fun h => ?_)
          · refine AW.iconst (n := 102) (dat D_X7_passWave 53 rfl) rfl ?_
            refine AW.goto (t := 109) (dat D_X7_passWave 54 rfl) rfl ?_
            cases h
            exact AW.to hJ18 (lle_s rfl (lle_n (lle_s rfl (lle_s rfl (lle_n (lle_n (lle_n (lle_z))))))))
          · refine AW.aload_n (n := 106) (dat D_X7_passWave 55 rfl) rfl rfl ?_
            obtain ⟨v35, σ36, hc34, h⟩ := bnd2_some h
            refine AW.cV (n := 109) (as := []) (st := []) (st' := [vI v35]) (uc' := 0) (us' := 0) (A_X7_passWays hΓ hc34) cf_X7_passWays ly_17 (le45 rfl) vc_7 (le45 rfl) wM_X7_135 (le45 rfl) (le45 rfl) (dat D_X7_passWave 56 rfl) rfl rfl (le45 rfl) (le45 rfl) rfl (fun _ => ?_) nlt0
            cases h
            exact AW.to hJ18 (lle_s rfl (lle_n (lle_s rfl (lle_s rfl (lle_n (lle_n (lle_n (lle_z))))))))
    refine AW.if_neH (t := 35) (n := 31) h (dat D_X7_passWave 13 rfl) rfl rfl (fun h => ?_) (fun h => ?_)
    · refine AW.iconst (n := 32) (dat D_X7_passWave 14 rfl) rfl ?_
      refine AW.goto (t := 52) (dat D_X7_passWave 15 rfl) rfl ?_
      cases h
      exact AW.to hJ6 (lle_s rfl (lle_n (lle_n (lle_n (lle_n (lle_n (lle_n (lle_z))))))))
    · refine AW.aload_n (n := 36) (dat D_X7_passWave 16 rfl) rfl rfl ?_
      refine AW.getQH h (n := 39) fX7_1 wF_X7_15 ly_17 (le45 rfl) rfl rfl (dat D_X7_passWave 17 rfl) rfl (fun k37 hpk37 h => ?_)
      refine AW.aload_n (n := 40) (dat D_X7_passWave 18 rfl) rfl rfl ?_
      refine AW.getQH h (n := 43) fX7_1 wF_X7_15 ly_17 (le45 rfl) rfl rfl (dat D_X7_passWave 19 rfl) rfl (fun k38 hpk38 h => ?_)
      refine AW.getI (n := 46) fX6_6 wF_X7_128 (isSea_ly0 hpk38) (by have := isSea_lt hpk38; omega) rfl rfl (dat D_X7_passWave 20 rfl) rfl ?_
      refine AW.iconst (n := 47) (dat D_X7_passWave 21 rfl) rfl ?_
      refine AW.isub (n := 48) (dat D_X7_passWave 22 rfl) rfl ?_
      refine AW.iconst (n := 49) (dat D_X7_passWave 23 rfl) rfl ?_
      obtain ⟨v40, hc39, h⟩ := ob_some h
      refine AW.cV (n := 52) (as := [vI ((σ3 k38 6) - 1), vI 0]) (st := []) (st' := [vI v40]) (uc' := 0) (us' := 0) (A_X6_factOf hΓ hpk37 hc39) cf_X6_factOf (isSea_ly0 hpk37) (by have := isSea_lt hpk37; omega) vc_6 (le45 rfl) wM_X7_131 (le45 rfl) (le45 rfl) (dat D_X7_passWave 24 rfl) rfl rfl (le45 rfl) (le45 rfl) rfl (fun _ => ?_) nlt0
      cases h
      exact AW.to hJ6 (lle_s rfl (lle_n (lle_n (lle_n (lle_n (lle_n (lle_n (lle_z))))))))
  · refine AW.iconst (n := 13) (dat D_X7_passWave 5 rfl) rfl ?_
    cases h
    exact AW.zret rfl (by decide) rfl rfl (dat D_X7_passWave 6 rfl)
def L_X7_passLine : List (Nat × Instr × Nat) := [(0, .aload_n 0, 1), (1, .getfield 9, 3), (4, .ldc 54, 2), (6, .invokevirtual 56, 3), (9, .ifCond .eq 8, 3), (12, .aload_n 0, 1), (13, .invokevirtual 60, 3), (16, .ireturn, 1), (17, .aload_n 0, 1), (18, .getfield 9, 3), (21, .ldc 63, 2), (23, .invokevirtual 56, 3), (26, .ifCond .eq 8, 3), (29, .aload_n 0, 1), (30, .invokevirtual 65, 3), (33, .ireturn, 1), (34, .aload_n 0, 1), (35, .getfield 9, 3), (38, .ldc 68, 2), (40, .invokevirtual 56, 3), (43, .ifCond .eq 8, 3), (46, .aload_n 0, 1), (47, .invokevirtual 70, 3), (50, .ireturn, 1), (51, .aload_n 0, 1), (52, .getfield 9, 3), (55, .ldc 73, 2), (57, .invokevirtual 56, 3), (60, .ifCond .eq 14, 3), (63, .aload_n 0, 1), (64, .invokevirtual 75, 3), (67, .ifCond .eq 7, 3), (70, .iconst 1, 1), (71, .goto 4, 3), (74, .iconst 0, 1), (75, .ireturn, 1)]
theorem D_X7_passLine : dOK cX7_passLine L_X7_passLine = true := by decide +kernel
theorem cf_X7_passLine : CFV mX7_passLine 0 := ⟨wI_X7_passLine, wS_X7_passLine, wN_WaveRight_SeaReader, wC_X7_passLine, rfl, ⟨by decide +kernel, by decide +kernel, by decide +kernel⟩, le45 rfl⟩
def X7_passLine (n : Nat) (σ : SG) : Option (Int × SG) :=
  (X10_isWord n 0 σ).bind fun v2 =>
  if w32 v2 = 0 then
    (X10_isWord n 5 σ).bind fun v4 =>
    if w32 v4 = 0 then
      (X10_isWord n 3 σ).bind fun v6 =>
      if w32 v6 = 0 then
        (X10_isWord n 4 σ).bind fun v8 =>
        if w32 v8 = 0 then
          some ((0, σ))
        else
          bnd2 (X7_passAgain n σ) fun v10 σ11 =>
          if w32 v10 = 0 then
            some ((0, σ11))
          else
            some ((1, σ11))
      else
        bnd2 (X7_passMinutes n σ) fun v13 σ14 =>
        some ((wZ v13, σ14))
    else
      bnd2 (X7_passWave n σ) fun v16 σ17 =>
      some ((wZ v16, σ17))
  else
    bnd2 (X7_passSurfer n σ) fun v19 σ20 =>
    some ((wZ v19, σ20))
set_option maxHeartbeats 4000000 in
set_option maxRecDepth 100000 in
theorem A_X7_passLine {Γ : GA} (hΓ : (gl Γ).stackTraces = false) {n : Nat} {σ : SG} {r : Int} {τ : SG}  (h : X7_passLine n σ = some (r, τ)) : AM Γ mX7_passLine 13 0 0 [vR 17] (85, σ) (0, r) (85, τ) := by
  refine AM.of pl_X7 rfl wC_X7_passLine (le45 rfl) hΓ ?_
  refine AW.to (ls'' := [some (vR 17)]) ?_ (lle_s rfl (lle_z))
  unfold X7_passLine at h
  refine AW.aload_n (n := 1) (dat D_X7_passLine 0 rfl) rfl rfl ?_
  refine AW.getR (n := 4) (t := 15) fX7_0 wF_X7_9 ly_17 (le45 rfl) rfl (dat D_X7_passLine 1 rfl) rfl ?_
  refine AW.ldcS (n := 6) (j := 0) rfl (dat D_X7_passLine 2 rfl) rfl ?_
  obtain ⟨v2, hc1, h⟩ := ob_some h
  refine AW.cV (n := 9) (as := [vO 0]) (st := []) (st' := [vI v2]) (uc' := 0) (us' := 0) (A_X10_isWord hΓ (by decide) hc1) cf_X10_isWord ly_15 (le45 rfl) vc_10 (le45 rfl) wM_X7_56 (le45 rfl) (le45 rfl) (dat D_X7_passLine 3 rfl) rfl rfl (le45 rfl) (le45 rfl) rfl (fun _ => ?_) nlt0
  refine AW.if_eqH (t := 17) (n := 12) h (dat D_X7_passLine 4 rfl) rfl rfl (fun h => ?_) (fun h => ?_)
  · refine AW.aload_n (n := 18) (dat D_X7_passLine 8 rfl) rfl rfl ?_
    refine AW.getR (n := 21) (t := 15) fX7_0 wF_X7_9 ly_17 (le45 rfl) rfl (dat D_X7_passLine 9 rfl) rfl ?_
    refine AW.ldcS (n := 23) (j := 5) rfl (dat D_X7_passLine 10 rfl) rfl ?_
    obtain ⟨v4, hc3, h⟩ := ob_some h
    refine AW.cV (n := 26) (as := [vO 5]) (st := []) (st' := [vI v4]) (uc' := 0) (us' := 0) (A_X10_isWord hΓ (by decide) hc3) cf_X10_isWord ly_15 (le45 rfl) vc_10 (le45 rfl) wM_X7_56 (le45 rfl) (le45 rfl) (dat D_X7_passLine 11 rfl) rfl rfl (le45 rfl) (le45 rfl) rfl (fun _ => ?_) nlt0
    refine AW.if_eqH (t := 34) (n := 29) h (dat D_X7_passLine 12 rfl) rfl rfl (fun h => ?_) (fun h => ?_)
    · refine AW.aload_n (n := 35) (dat D_X7_passLine 16 rfl) rfl rfl ?_
      refine AW.getR (n := 38) (t := 15) fX7_0 wF_X7_9 ly_17 (le45 rfl) rfl (dat D_X7_passLine 17 rfl) rfl ?_
      refine AW.ldcS (n := 40) (j := 3) rfl (dat D_X7_passLine 18 rfl) rfl ?_
      obtain ⟨v6, hc5, h⟩ := ob_some h
      refine AW.cV (n := 43) (as := [vO 3]) (st := []) (st' := [vI v6]) (uc' := 0) (us' := 0) (A_X10_isWord hΓ (by decide) hc5) cf_X10_isWord ly_15 (le45 rfl) vc_10 (le45 rfl) wM_X7_56 (le45 rfl) (le45 rfl) (dat D_X7_passLine 19 rfl) rfl rfl (le45 rfl) (le45 rfl) rfl (fun _ => ?_) nlt0
      refine AW.if_eqH (t := 51) (n := 46) h (dat D_X7_passLine 20 rfl) rfl rfl (fun h => ?_) (fun h => ?_)
      · refine AW.aload_n (n := 52) (dat D_X7_passLine 24 rfl) rfl rfl ?_
        refine AW.getR (n := 55) (t := 15) fX7_0 wF_X7_9 ly_17 (le45 rfl) rfl (dat D_X7_passLine 25 rfl) rfl ?_
        refine AW.ldcS (n := 57) (j := 4) rfl (dat D_X7_passLine 26 rfl) rfl ?_
        obtain ⟨v8, hc7, h⟩ := ob_some h
        refine AW.cV (n := 60) (as := [vO 4]) (st := []) (st' := [vI v8]) (uc' := 0) (us' := 0) (A_X10_isWord hΓ (by decide) hc7) cf_X10_isWord ly_15 (le45 rfl) vc_10 (le45 rfl) wM_X7_56 (le45 rfl) (le45 rfl) (dat D_X7_passLine 27 rfl) rfl rfl (le45 rfl) (le45 rfl) rfl (fun _ => ?_) nlt0
        refine AW.if_eqH (t := 74) (n := 63) h (dat D_X7_passLine 28 rfl) rfl rfl (fun h => ?_) (fun h => ?_)
        · refine AW.iconst (n := 75) (dat D_X7_passLine 34 rfl) rfl ?_
          cases h
          exact AW.zret rfl (by decide) rfl rfl (dat D_X7_passLine 35 rfl)
        · refine AW.aload_n (n := 64) (dat D_X7_passLine 29 rfl) rfl rfl ?_
          obtain ⟨v10, σ11, hc9, h⟩ := bnd2_some h
          refine AW.cV (n := 67) (as := []) (st := []) (st' := [vI v10]) (uc' := 0) (us' := 0) (A_X7_passAgain hΓ hc9) cf_X7_passAgain ly_17 (le45 rfl) vc_7 (le45 rfl) wM_X7_75 (le45 rfl) (le45 rfl) (dat D_X7_passLine 30 rfl) rfl rfl (le45 rfl) (le45 rfl) rfl (fun _ => ?_) nlt0
          refine AW.if_eqH (t := 74) (n := 70) h (dat D_X7_passLine 31 rfl) rfl rfl (fun h => ?_) (fun h => ?_)
          · refine AW.iconst (n := 75) (dat D_X7_passLine 34 rfl) rfl ?_
            cases h
            exact AW.zret rfl (by decide) rfl rfl (dat D_X7_passLine 35 rfl)
          · refine AW.iconst (n := 71) (dat D_X7_passLine 32 rfl) rfl ?_
            refine AW.goto (t := 75) (dat D_X7_passLine 33 rfl) rfl ?_
            cases h
            exact AW.zret rfl (by decide) rfl rfl (dat D_X7_passLine 35 rfl)
      · refine AW.aload_n (n := 47) (dat D_X7_passLine 21 rfl) rfl rfl ?_
        obtain ⟨v13, σ14, hc12, h⟩ := bnd2_some h
        refine AW.cV (n := 50) (as := []) (st := []) (st' := [vI v13]) (uc' := 0) (us' := 0) (A_X7_passMinutes hΓ hc12) cf_X7_passMinutes ly_17 (le45 rfl) vc_7 (le45 rfl) wM_X7_70 (le45 rfl) (le45 rfl) (dat D_X7_passLine 22 rfl) rfl rfl (le45 rfl) (le45 rfl) rfl (fun _ => ?_) nlt0
        cases h
        exact AW.zret rfl rfl rfl rfl (dat D_X7_passLine 23 rfl)
    · refine AW.aload_n (n := 30) (dat D_X7_passLine 13 rfl) rfl rfl ?_
      obtain ⟨v16, σ17, hc15, h⟩ := bnd2_some h
      refine AW.cV (n := 33) (as := []) (st := []) (st' := [vI v16]) (uc' := 0) (us' := 0) (A_X7_passWave hΓ hc15) cf_X7_passWave ly_17 (le45 rfl) vc_7 (le45 rfl) wM_X7_65 (le45 rfl) (le45 rfl) (dat D_X7_passLine 14 rfl) rfl rfl (le45 rfl) (le45 rfl) rfl (fun _ => ?_) nlt0
      cases h
      exact AW.zret rfl rfl rfl rfl (dat D_X7_passLine 15 rfl)
  · refine AW.aload_n (n := 13) (dat D_X7_passLine 5 rfl) rfl rfl ?_
    obtain ⟨v19, σ20, hc18, h⟩ := bnd2_some h
    refine AW.cV (n := 16) (as := []) (st := []) (st' := [vI v19]) (uc' := 0) (us' := 0) (A_X7_passSurfer hΓ hc18) cf_X7_passSurfer ly_17 (le45 rfl) vc_7 (le45 rfl) wM_X7_60 (le45 rfl) (le45 rfl) (dat D_X7_passLine 6 rfl) rfl rfl (le45 rfl) (le45 rfl) rfl (fun _ => ?_) nlt0
    cases h
    exact AW.zret rfl rfl rfl rfl (dat D_X7_passLine 7 rfl)
def L_X7_readInto : List (Nat × Instr × Nat) := [(0, .aload_n 0, 1), (1, .aload_n 1, 1), (2, .putfield 15, 3), (5, .aload_n 0, 1), (6, .getfield 15, 3), (9, .invokevirtual 19, 3), (12, .aload_n 0, 1), (13, .iconst 0, 1), (14, .putfield 24, 3), (17, .aload_n 0, 1), (18, .iconst 0, 1), (19, .putfield 28, 3), (22, .aload_n 0, 1), (23, .getfield 9, 3), (26, .invokevirtual 31, 3), (29, .iconst 0, 1), (30, .istore_n 2, 1), (31, .iload_n 2, 1), (32, .sipush 400, 3), (35, .if_icmp .ge 46, 3), (38, .aload_n 0, 1), (39, .getfield 9, 3), (42, .getfield 36, 3), (45, .ifCond .eq 36, 3), (48, .aload_n 0, 1), (49, .invokevirtual 40, 3), (52, .ifCond .eq 15, 3), (55, .aload_n 0, 1), (56, .getfield 9, 3), (59, .bipush 59, 2), (61, .invokevirtual 44, 3), (64, .ifCond .ne 11, 3), (67, .aload_n 0, 1), (68, .getfield 9, 3), (71, .getfield 48, 3), (74, .ireturn, 1), (75, .iinc 2 1, 3), (78, .goto (-47), 3), (81, .aload_n 0, 1), (82, .getfield 15, 3), (85, .getfield 51, 3), (88, .iconst 2, 1), (89, .if_icmp .ge 13, 3), (92, .aload_n 0, 1), (93, .getfield 9, 3), (96, .getfield 48, 3), (99, .goto 4, 3), (102, .iconst (-1), 1), (103, .ireturn, 1)]
theorem D_X7_readInto : dOK cX7_readInto L_X7_readInto = true := by decide +kernel
theorem cf_X7_readInto : CFV mX7_readInto 1 := ⟨wI_X7_readInto, wS_X7_readInto, wN_WaveRight_SeaReader, wC_X7_readInto, rfl, ⟨by decide +kernel, by decide +kernel, by decide +kernel⟩, le45 rfl⟩
def X7_readInto_e31 (n : Nat) (σ12 : SG) : Option (Int × SG) :=
  ckR isSea (σ12 17 1) fun k13 =>
  if 2 ≤ w32 (σ12 k13 5) then
    some (((-1), σ12))
  else
    some (((σ12 15 3), σ12))
def X7_readInto_l31 (n : Nat) (z9 : Int) (σ10 : SG) : Option ((Int × SG) ⊕ ((SG) ⊕ (Int × SG))) :=
  if 400 ≤ w32 z9 then
    some (.inr (.inl σ10))
  else
    if w32 (σ10 15 2) = 0 then
      some (.inr (.inl σ10))
    else
      bnd2 (X7_passLine n σ10) fun v15 σ16 =>
      if w32 v15 = 0 then
        some (.inr (.inr ((σ16 15 3), σ16)))
      else
        bnd2 (X10_passSign n 59 σ16) fun v18 σ19 =>
        if w32 v18 = 0 then
          some (.inr (.inr ((σ19 15 3), σ19)))
        else
          lt (z9 + 1) fun x20 =>
          some (.inl (x20, σ19))
def X7_readInto (n : Nat) (a0 : Nat) (σ : SG) : Option (Int × SG) :=
  lt (up σ 17 1 ((a0 : Nat) : Int)) fun σ1 =>
  ckR isSea (σ1 17 1) fun k2 =>
  (X6_clear n k2 σ1).bind fun σ4 =>
  lt (up σ4 17 2 0) fun σ5 =>
  lt (up σ5 17 3 0) fun σ6 =>
  (X10_open n σ6).bind fun σ8 =>
  ((iter n (fun s : Int × SG => X7_readInto_l31 n s.1 s.2) (0, σ8)) : Option ((SG) ⊕ (Int × SG))).bind (orr (fun s => X7_readInto_e31 n s))
set_option maxHeartbeats 4000000 in
set_option maxRecDepth 100000 in
theorem A_X7_readInto {Γ : GA} (hΓ : (gl Γ).stackTraces = false) {n : Nat} {a0 : Nat} {σ : SG} {r : Int} {τ : SG} (hpa0 : isSea a0 = true) (h : X7_readInto n a0 σ = some (r, τ)) : AM Γ mX7_readInto 14 0 0 [vR 17, vR a0] (85, σ) (0, r) (85, τ) := by
  refine AM.of pl_X7 rfl wC_X7_readInto (le45 rfl) hΓ ?_
  refine AW.to (ls'' := [some (vR 17), some (vR a0), none]) ?_ (lle_s rfl (lle_s rfl (lle_e (lle_z))))
  unfold X7_readInto at h
  refine AW.aload_n (n := 1) (dat D_X7_readInto 0 rfl) rfl rfl ?_
  refine AW.aload_n (n := 2) (dat D_X7_readInto 1 rfl) rfl rfl ?_
  refine AW.putR (n := 5) fX7_1 wF_X7_15 ly_17 (le45 rfl) rfl rfl rfl (dat D_X7_readInto 2 rfl) rfl ?_
  refine AW.ltS h (fun σ1 h => ?_)
  refine AW.aload_n (n := 6) (dat D_X7_readInto 3 rfl) rfl rfl ?_
  refine AW.getQH h (n := 9) fX7_1 wF_X7_15 ly_17 (le45 rfl) rfl rfl (dat D_X7_readInto 4 rfl) rfl (fun k2 hpk2 h => ?_)
  obtain ⟨σ4, hc3, h⟩ := ob_some h
  refine AW.cV (n := 12) (as := []) (st := []) (st' := []) (uc' := 0) (us' := 0) (A_X6_clear hΓ hpk2 hc3) cf_X6_clear (isSea_ly0 hpk2) (by have := isSea_lt hpk2; omega) vc_6 (le45 rfl) wM_X7_19 (le45 rfl) (le45 rfl) (dat D_X7_readInto 5 rfl) rfl rfl (le45 rfl) (le45 rfl) rfl (fun _ => ?_) nlt0
  refine AW.aload_n (n := 13) (dat D_X7_readInto 6 rfl) rfl rfl ?_
  refine AW.iconst (n := 14) (dat D_X7_readInto 7 rfl) rfl ?_
  refine AW.putZ (n := 17) (Or.inl rfl) fX7_2 wF_X7_24 ly_17 (le45 rfl) rfl rfl rfl (dat D_X7_readInto 8 rfl) rfl ?_
  refine AW.ltS h (fun σ5 h => ?_)
  refine AW.aload_n (n := 18) (dat D_X7_readInto 9 rfl) rfl rfl ?_
  refine AW.iconst (n := 19) (dat D_X7_readInto 10 rfl) rfl ?_
  refine AW.putZ (n := 22) (Or.inl rfl) fX7_3 wF_X7_28 ly_17 (le45 rfl) rfl rfl rfl (dat D_X7_readInto 11 rfl) rfl ?_
  refine AW.ltS h (fun σ6 h => ?_)
  refine AW.aload_n (n := 23) (dat D_X7_readInto 12 rfl) rfl rfl ?_
  refine AW.getR (n := 26) (t := 15) fX7_0 wF_X7_9 ly_17 (le45 rfl) rfl (dat D_X7_readInto 13 rfl) rfl ?_
  obtain ⟨σ8, hc7, h⟩ := ob_some h
  refine AW.cV (n := 29) (as := []) (st := []) (st' := []) (uc' := 0) (us' := 0) (A_X10_open hΓ hc7) cf_X10_open ly_15 (le45 rfl) vc_10 (le45 rfl) wM_X7_31 (le45 rfl) (le45 rfl) (dat D_X7_readInto 14 rfl) rfl rfl (le45 rfl) (le45 rfl) rfl (fun _ => ?_) nlt0
  refine AW.iconst (n := 30) (dat D_X7_readInto 15 rfl) rfl ?_
  refine AW.istore_n (n := 31) (ls' := [some (vR 17), some (vR a0), some (vI 0)]) (dat D_X7_readInto 16 rfl) rfl (le45 rfl) (le45 rfl) rfl rfl ?_
  obtain ⟨b11, hi11, hq11⟩ := ob_some h
  have hR11 : ∀ (σ12 : SG), b11 = .inl σ12 → AW Γ mX7_readInto 14 (0, r) (85, τ) 0 0 81 [some (vR 17), none, none] [] (85, σ12) := by
    intro σ12 e
    subst e
    have h : X7_readInto_e31 n σ12 = some _ := hq11
    unfold X7_readInto_e31 at h
    refine AW.aload_n (n := 82) (dat D_X7_readInto 38 rfl) rfl rfl ?_
    refine AW.getQH h (n := 85) fX7_1 wF_X7_15 ly_17 (le45 rfl) rfl rfl (dat D_X7_readInto 39 rfl) rfl (fun k13 hpk13 h => ?_)
    refine AW.getI (n := 88) fX6_5 wF_X7_51 (isSea_ly0 hpk13) (by have := isSea_lt hpk13; omega) rfl rfl (dat D_X7_readInto 40 rfl) rfl ?_
    refine AW.iconst (n := 89) (dat D_X7_readInto 41 rfl) rfl ?_
    refine AW.icmp_geH (t := 102) (n := 92) h (dat D_X7_readInto 42 rfl) rfl rfl rfl (by decide) (fun h => ?_) (fun h => ?_)
    · refine AW.iconst (n := 103) (dat D_X7_readInto 47 rfl) rfl ?_
      cases h
      exact AW.iret rfl rfl rfl (dat D_X7_readInto 48 rfl)
    · refine AW.aload_n (n := 93) (dat D_X7_readInto 43 rfl) rfl rfl ?_
      refine AW.getR (n := 96) (t := 15) fX7_0 wF_X7_9 ly_17 (le45 rfl) rfl (dat D_X7_readInto 44 rfl) rfl ?_
      refine AW.getI (n := 99) fX10_3 wF_X7_48 ly_15 (le45 rfl) rfl rfl (dat D_X7_readInto 45 rfl) rfl ?_
      refine AW.goto (t := 103) (dat D_X7_readInto 46 rfl) rfl ?_
      cases h
      exact AW.iret rfl rfl rfl (dat D_X7_readInto 48 rfl)
  refine AW.to (ls'' := [some (vR 17), none, some (vI 0)]) ?_ (lle_s rfl (lle_n (lle_s rfl (lle_z))))
  refine aw_iter (fun s : Int × SG => AW Γ mX7_readInto 14 (0, r) (85, τ) 0 0 31 [some (vR 17), none, some (vI (s.1))] [] (85, s.2)) (fun s y h hk11 hb11 => ?_) _ _ hi11
  obtain ⟨z9, σ10⟩ := s
  show AW Γ mX7_readInto 14 (0, r) (85, τ) 0 0 31 [some (vR 17), none, some (vI z9)] [] (85, σ10)
  have h : X7_readInto_l31 n z9 σ10 = some y := h
  unfold X7_readInto_l31 at h
  refine AW.iload_n (n := 32) (dat D_X7_readInto 17 rfl) rfl rfl ?_
  refine AW.sipush (n := 35) (dat D_X7_readInto 18 rfl) rfl (by decide) ?_
  refine AW.icmp_geH (t := 81) (n := 38) h (dat D_X7_readInto 19 rfl) rfl rfl rfl (by decide) (fun h => ?_) (fun h => ?_)
  · cases h
    have hb := hb11 _ rfl
    exact AW.to (hR11 _ hb.symm) (lle_s rfl (lle_n (lle_n (lle_z))))
  · refine AW.aload_n (n := 39) (dat D_X7_readInto 20 rfl) rfl rfl ?_
    refine AW.getR (n := 42) (t := 15) fX7_0 wF_X7_9 ly_17 (le45 rfl) rfl (dat D_X7_readInto 21 rfl) rfl ?_
    refine AW.getI (n := 45) fX10_2 wF_X7_36 ly_15 (le45 rfl) rfl rfl (dat D_X7_readInto 22 rfl) rfl ?_
    refine AW.if_eqH (t := 81) (n := 48) h (dat D_X7_readInto 23 rfl) rfl rfl (fun h => ?_) (fun h => ?_)
    · cases h
      have hb := hb11 _ rfl
      exact AW.to (hR11 _ hb.symm) (lle_s rfl (lle_n (lle_n (lle_z))))
    · refine AW.aload_n (n := 49) (dat D_X7_readInto 24 rfl) rfl rfl ?_
      obtain ⟨v15, σ16, hc14, h⟩ := bnd2_some h
      refine AW.cV (n := 52) (as := []) (st := []) (st' := [vI v15]) (uc' := 0) (us' := 0) (A_X7_passLine hΓ hc14) cf_X7_passLine ly_17 (le45 rfl) vc_7 (le45 rfl) wM_X7_40 (le45 rfl) (le45 rfl) (dat D_X7_readInto 25 rfl) rfl rfl (le45 rfl) (le45 rfl) rfl (fun _ => ?_) nlt0
      refine AW.if_eqH (t := 67) (n := 55) h (dat D_X7_readInto 26 rfl) rfl rfl (fun h => ?_) (fun h => ?_)
      · refine AW.aload_n (n := 68) (dat D_X7_readInto 32 rfl) rfl rfl ?_
        refine AW.getR (n := 71) (t := 15) fX7_0 wF_X7_9 ly_17 (le45 rfl) rfl (dat D_X7_readInto 33 rfl) rfl ?_
        refine AW.getI (n := 74) fX10_3 wF_X7_48 ly_15 (le45 rfl) rfl rfl (dat D_X7_readInto 34 rfl) rfl ?_
        cases h
        have hb := hb11 _ rfl
        subst hb
        have h := hq11
        have h : some _ = some _ := h
        cases h
        exact AW.iret rfl rfl rfl (dat D_X7_readInto 35 rfl)
      · refine AW.aload_n (n := 56) (dat D_X7_readInto 27 rfl) rfl rfl ?_
        refine AW.getR (n := 59) (t := 15) fX7_0 wF_X7_9 ly_17 (le45 rfl) rfl (dat D_X7_readInto 28 rfl) rfl ?_
        refine AW.bipush (n := 61) (dat D_X7_readInto 29 rfl) rfl (by decide) ?_
        obtain ⟨v18, σ19, hc17, h⟩ := bnd2_some h
        refine AW.cV (n := 64) (as := [vI 59]) (st := []) (st' := [vI v18]) (uc' := 0) (us' := 0) (A_X10_passSign hΓ hc17) cf_X10_passSign ly_15 (le45 rfl) vc_10 (le45 rfl) wM_X7_44 (le45 rfl) (le45 rfl) (dat D_X7_readInto 30 rfl) rfl rfl (le45 rfl) (le45 rfl) rfl (fun _ => ?_) nlt0
        refine AW.if_neH (t := 75) (n := 67) h (dat D_X7_readInto 31 rfl) rfl rfl (fun h => ?_) (fun h => ?_)
        · refine AW.aload_n (n := 68) (dat D_X7_readInto 32 rfl) rfl rfl ?_
          refine AW.getR (n := 71) (t := 15) fX7_0 wF_X7_9 ly_17 (le45 rfl) rfl (dat D_X7_readInto 33 rfl) rfl ?_
          refine AW.getI (n := 74) fX10_3 wF_X7_48 ly_15 (le45 rfl) rfl rfl (dat D_X7_readInto 34 rfl) rfl ?_
          cases h
          have hb := hb11 _ rfl
          subst hb
          have h := hq11
          have h : some _ = some _ := h
          cases h
          exact AW.iret rfl rfl rfl (dat D_X7_readInto 35 rfl)
        · refine AW.iincH h (n := 78) (dat D_X7_readInto 36 rfl) rfl rfl (le45 rfl) rfl (fun x20 h => ?_)
          refine AW.lq (ls' := [some (vR 17), none, some (vI x20)]) rfl ?_
          refine AW.goto (t := 31) (dat D_X7_readInto 37 rfl) rfl ?_
          cases h
          exact AW.to (hk11 _ rfl) (lle_s rfl (lle_n (lle_s rfl (lle_z))))
def L_X11_sea : List (Nat × Instr × Nat) := [(0, .aload_n 0, 1), (1, .aload_n 0, 1), (2, .getfield 35, 3), (5, .aload_n 0, 1), (6, .getfield 10, 3), (9, .invokevirtual 91, 3), (12, .putfield 48, 3), (15, .aload_n 0, 1), (16, .getfield 26, 3), (19, .iconst 0, 1), (20, .putfield 84, 3), (23, .aload_n 0, 1), (24, .getfield 48, 3), (27, .iconst (-1), 1), (28, .if_icmp .eq 13, 3), (31, .new 95, 3), (34, .dup, 1), (35, .ldc 97, 2), (37, .invokespecial 99, 3), (40, .athrow, 1), (41, .aload_n 0, 1), (42, .getfield 55, 3), (45, .getfield 102, 3), (48, .astore_n 1, 1), (49, .aload_n 0, 1), (50, .getfield 55, 3), (53, .aload_n 0, 1), (54, .getfield 10, 3), (57, .putfield 102, 3), (60, .aload_n 0, 1), (61, .aload_n 1, 1), (62, .putfield 10, 3), (65, .aload_n 0, 1), (66, .getfield 55, 3), (69, .invokevirtual 105, 3), (72, .aload_n 0, 1), (73, .getfield 55, 3), (76, .getfield 102, 3), (79, .getfield 108, 3), (82, .ireturn, 1)]
theorem D_X11_sea : dOK cX11_sea L_X11_sea = true := by decide +kernel
theorem cf_X11_sea : CFV mX11_sea 0 := ⟨wI_X11_sea, wS_X11_sea, wN_WaveRight, wC_X11_sea, rfl, ⟨by decide +kernel, by decide +kernel, by decide +kernel⟩, le45 rfl⟩
def X11_sea (n : Nat) (σ : SG) : Option ((Nat × Int) × SG) :=
  ckR isSea (σ 0 0) fun k1 =>
  bnd2 (X7_readInto n k1 σ) fun v3 σ4 =>
  lt (up σ4 0 5 v3) fun σ5 =>
  lt (up σ5 15 1 0) fun σ6 =>
  if w32 (σ6 0 5) = (-1) then
    ckR isSea (σ6 19 0) fun k7 =>
    ckR isSea (σ6 0 0) fun k8 =>
    lt (up σ6 19 0 ((k8 : Nat) : Int)) fun σ9 =>
    lt (up σ9 0 0 ((k7 : Nat) : Int)) fun σ10 =>
    (X1_begin n σ10).bind fun σ12 =>
    ckR isSea (σ12 19 0) fun k13 =>
    some (((0, (σ12 k13 6)), σ12))
  else
    some (((2, 0), σ6))
set_option maxHeartbeats 4000000 in
set_option maxRecDepth 100000 in
theorem A_X11_sea {Γ : GA} (hΓ : (gl Γ).stackTraces = false) {n : Nat} {σ : SG} {o : Nat × Int} {τ : SG}  (h : X11_sea n σ = some (o, τ)) : AM Γ mX11_sea 15 8 48 [vR 0] (85, σ) o (85, τ) := by
  refine AM.of pl_X11 rfl wC_X11_sea (le45 rfl) hΓ ?_
  refine AW.to (ls'' := [some (vR 0), none]) ?_ (lle_s rfl (lle_e (lle_z)))
  unfold X11_sea at h
  refine AW.aload_n (n := 1) (dat D_X11_sea 0 rfl) rfl rfl ?_
  refine AW.aload_n (n := 2) (dat D_X11_sea 1 rfl) rfl rfl ?_
  refine AW.getR (n := 5) (t := 17) fX11_3 wF_X11_35 ly_0 (le45 rfl) rfl (dat D_X11_sea 2 rfl) rfl ?_
  refine AW.aload_n (n := 6) (dat D_X11_sea 3 rfl) rfl rfl ?_
  refine AW.getQH h (n := 9) fX11_0 wF_X11_10 ly_0 (le45 rfl) rfl rfl (dat D_X11_sea 4 rfl) rfl (fun k1 hpk1 h => ?_)
  obtain ⟨v3, σ4, hc2, h⟩ := bnd2_some h
  refine AW.cV (n := 12) (as := [vR k1]) (st := [vR 0]) (st' := [vI v3, vR 0]) (uc' := 8) (us' := 48) (A_X7_readInto hΓ hpk1 hc2) cf_X7_readInto ly_17 (le45 rfl) vc_7 (le45 rfl) wM_X11_91 (le45 rfl) (le45 rfl) (dat D_X11_sea 5 rfl) rfl rfl (le45 rfl) (le45 rfl) rfl (fun _ => ?_) nlt0
  refine AW.putI (n := 15) fX11_5 wF_X11_48 ly_0 (le45 rfl) rfl rfl rfl (dat D_X11_sea 6 rfl) rfl ?_
  refine AW.ltS h (fun σ5 h => ?_)
  refine AW.aload_n (n := 16) (dat D_X11_sea 7 rfl) rfl rfl ?_
  refine AW.getR (n := 19) (t := 15) fX11_2 wF_X11_26 ly_0 (le45 rfl) rfl (dat D_X11_sea 8 rfl) rfl ?_
  refine AW.iconst (n := 20) (dat D_X11_sea 9 rfl) rfl ?_
  refine AW.putI (n := 23) fX10_1 wF_X11_84 ly_15 (le45 rfl) rfl rfl rfl (dat D_X11_sea 10 rfl) rfl ?_
  refine AW.ltS h (fun σ6 h => ?_)
  refine AW.aload_n (n := 24) (dat D_X11_sea 11 rfl) rfl rfl ?_
  refine AW.getI (n := 27) fX11_5 wF_X11_48 ly_0 (le45 rfl) rfl rfl (dat D_X11_sea 12 rfl) rfl ?_
  refine AW.iconst (n := 28) (dat D_X11_sea 13 rfl) rfl ?_
  refine AW.icmp_eqH (t := 41) (n := 31) h (dat D_X11_sea 14 rfl) rfl rfl rfl (by decide) (fun h => ?_) (fun h => ?_)
  · refine AW.aload_n (n := 42) (dat D_X11_sea 20 rfl) rfl rfl ?_
    refine AW.getR (n := 45) (t := 19) fX11_6 wF_X11_55 ly_0 (le45 rfl) rfl (dat D_X11_sea 21 rfl) rfl ?_
    refine AW.getQH h (n := 48) fX1_0 wF_X11_102 ly_19 (le45 rfl) rfl rfl (dat D_X11_sea 22 rfl) rfl (fun k7 hpk7 h => ?_)
    refine AW.astore_n (n := 49) (ls' := [some (vR 0), some (vR k7)]) (dat D_X11_sea 23 rfl) rfl (le45 rfl) (le45 rfl) rfl rfl ?_
    refine AW.aload_n (n := 50) (dat D_X11_sea 24 rfl) rfl rfl ?_
    refine AW.getR (n := 53) (t := 19) fX11_6 wF_X11_55 ly_0 (le45 rfl) rfl (dat D_X11_sea 25 rfl) rfl ?_
    refine AW.aload_n (n := 54) (dat D_X11_sea 26 rfl) rfl rfl ?_
    refine AW.getQH h (n := 57) fX11_0 wF_X11_10 ly_0 (le45 rfl) rfl rfl (dat D_X11_sea 27 rfl) rfl (fun k8 hpk8 h => ?_)
    refine AW.putR (n := 60) fX1_0 wF_X11_102 ly_19 (le45 rfl) rfl rfl rfl (dat D_X11_sea 28 rfl) rfl ?_
    refine AW.ltS h (fun σ9 h => ?_)
    refine AW.aload_n (n := 61) (dat D_X11_sea 29 rfl) rfl rfl ?_
    refine AW.aload_n (n := 62) (dat D_X11_sea 30 rfl) rfl rfl ?_
    refine AW.putR (n := 65) fX11_0 wF_X11_10 ly_0 (le45 rfl) rfl rfl rfl (dat D_X11_sea 31 rfl) rfl ?_
    refine AW.ltS h (fun σ10 h => ?_)
    refine AW.aload_n (n := 66) (dat D_X11_sea 32 rfl) rfl rfl ?_
    refine AW.getR (n := 69) (t := 19) fX11_6 wF_X11_55 ly_0 (le45 rfl) rfl (dat D_X11_sea 33 rfl) rfl ?_
    obtain ⟨σ12, hc11, h⟩ := ob_some h
    refine AW.cV (n := 72) (as := []) (st := []) (st' := []) (uc' := 8) (us' := 48) (A_X1_begin hΓ hc11) cf_X1_begin ly_19 (le45 rfl) vc_1 (le45 rfl) wM_X11_105 (le45 rfl) (le45 rfl) (dat D_X11_sea 34 rfl) rfl rfl (le45 rfl) (le45 rfl) rfl (fun _ => ?_) nlt0
    refine AW.aload_n (n := 73) (dat D_X11_sea 35 rfl) rfl rfl ?_
    refine AW.getR (n := 76) (t := 19) fX11_6 wF_X11_55 ly_0 (le45 rfl) rfl (dat D_X11_sea 36 rfl) rfl ?_
    refine AW.getQH h (n := 79) fX1_0 wF_X11_102 ly_19 (le45 rfl) rfl rfl (dat D_X11_sea 37 rfl) rfl (fun k13 hpk13 h => ?_)
    refine AW.getI (n := 82) fX6_6 wF_X11_108 (isSea_ly0 hpk13) (by have := isSea_lt hpk13; omega) rfl rfl (dat D_X11_sea 38 rfl) rfl ?_
    cases h
    exact AW.iret rfl rfl rfl (dat D_X11_sea 39 rfl)
  · cases h
    exact AW.throw (k := 2) (j := 11) (by decide) thrW_2 wL_X11_95 wN_java_lang_IllegalArgumentException rfl wM_X11_99 (dat D_X11_sea 15 rfl) (dat D_X11_sea 16 rfl) (dat D_X11_sea 17 rfl) (dat D_X11_sea 18 rfl) (dat D_X11_sea 19 rfl) rfl (le45 rfl) (le45 rfl) rfl rfl (le45 rfl) (le45 rfl)
def L_X2_clear : List (Nat × Instr × Nat) := [(0, .aload_n 0, 1), (1, .iconst 0, 1), (2, .putfield 34, 3), (5, .aload_n 0, 1), (6, .iconst 0, 1), (7, .putfield 38, 3), (10, .return_, 1)]
theorem D_X2_clear : dOK cX2_clear L_X2_clear = true := by decide +kernel
theorem cf_X2_clear : CFV mX2_clear 0 := ⟨wI_X2_clear, wS_X2_clear, wN_WaveRight_Judge, wC_X2_clear, rfl, ⟨by decide +kernel, by decide +kernel, by decide +kernel⟩, le45 rfl⟩
def X2_clear (n : Nat) (k : Nat) (σ : SG) : Option (SG) :=
  lt (up σ k 2 0) fun σ1 =>
  lt (up σ1 k 6 0) fun σ2 =>
  some (σ2)
set_option maxHeartbeats 4000000 in
set_option maxRecDepth 100000 in
theorem A_X2_clear {Γ : GA} (hΓ : (gl Γ).stackTraces = false) {n : Nat} {k : Nat} {σ : SG} {τ : SG} (hpk : isJudge k = true) (h : X2_clear n k σ = some τ) : AM Γ mX2_clear 1 0 0 [vR k] (85, σ) (0, 0) (85, τ) := by
  refine AM.of pl_X2 rfl wC_X2_clear (le45 rfl) hΓ ?_
  refine AW.to (ls'' := [some (vR k)]) ?_ (lle_s rfl (lle_z))
  unfold X2_clear at h
  refine AW.aload_n (n := 1) (dat D_X2_clear 0 rfl) rfl rfl ?_
  refine AW.iconst (n := 2) (dat D_X2_clear 1 rfl) rfl ?_
  refine AW.putI (n := 5) fX2_2 wF_X2_34 (isJudge_ly0 hpk) (by have := isJudge_lt hpk; omega) rfl rfl rfl (dat D_X2_clear 2 rfl) rfl ?_
  refine AW.ltS h (fun σ1 h => ?_)
  refine AW.aload_n (n := 6) (dat D_X2_clear 3 rfl) rfl rfl ?_
  refine AW.iconst (n := 7) (dat D_X2_clear 4 rfl) rfl ?_
  refine AW.putI (n := 10) fX2_6 wF_X2_38 (isJudge_ly0 hpk) (by have := isJudge_lt hpk; omega) rfl rfl rfl (dat D_X2_clear 5 rfl) rfl ?_
  refine AW.ltS h (fun σ2 h => ?_)
  cases h
  exact AW.vret rfl rfl rfl (dat D_X2_clear 6 rfl)
def L_X2_beginLine : List (Nat × Instr × Nat) := [(0, .aload_n 0, 1), (1, .getfield 38, 3), (4, .bipush 10, 2), (6, .if_icmp .ge 26, 3), (9, .aload_n 0, 1), (10, .getfield 18, 3), (13, .aload_n 0, 1), (14, .getfield 38, 3), (17, .iload_n 1, 1), (18, .bastore, 1), (19, .aload_n 0, 1), (20, .getfield 22, 3), (23, .aload_n 0, 1), (24, .getfield 38, 3), (27, .aload_n 0, 1), (28, .getfield 34, 3), (31, .iastore, 1), (32, .return_, 1)]
theorem D_X2_beginLine : dOK cX2_beginLine L_X2_beginLine = true := by decide +kernel
theorem cf_X2_beginLine : CFV mX2_beginLine 1 := ⟨wI_X2_beginLine, wS_X2_beginLine, wN_WaveRight_Judge, wC_X2_beginLine, rfl, ⟨by decide +kernel, by decide +kernel, by decide +kernel⟩, le45 rfl⟩
def X2_beginLine (n : Nat) (k : Nat) (a0 : Int) (σ : SG) : Option (SG) :=
  if 10 ≤ w32 (σ k 6) then
    some (σ)
  else
    rdA 10 (σ k 6) fun j1 => lt (up σ (k + 3) j1 (wZ a0)) fun σ2 =>
    rdA 11 (σ2 k 6) fun j3 => lt (up σ2 (k + 4) j3 (σ2 k 2)) fun σ4 =>
    some (σ4)
set_option maxHeartbeats 4000000 in
set_option maxRecDepth 100000 in
theorem A_X2_beginLine {Γ : GA} (hΓ : (gl Γ).stackTraces = false) {n : Nat} {k : Nat} {a0 : Int} {σ : SG} {τ : SG} (hpk : isJudge k = true) (h : X2_beginLine n k a0 σ = some τ) : AM Γ mX2_beginLine 1 0 0 [vR k, vI a0] (85, σ) (0, 0) (85, τ) := by
  refine AM.of pl_X2 rfl wC_X2_beginLine (le45 rfl) hΓ ?_
  refine AW.to (ls'' := [some (vR k), some (vI a0)]) ?_ (lle_s rfl (lle_s rfl (lle_z)))
  unfold X2_beginLine at h
  refine AW.aload_n (n := 1) (dat D_X2_beginLine 0 rfl) rfl rfl ?_
  refine AW.getI (n := 4) fX2_6 wF_X2_38 (isJudge_ly0 hpk) (by have := isJudge_lt hpk; omega) rfl rfl (dat D_X2_beginLine 1 rfl) rfl ?_
  refine AW.bipush (n := 6) (dat D_X2_beginLine 2 rfl) rfl (by decide) ?_
  refine AW.icmp_geH (t := 32) (n := 9) h (dat D_X2_beginLine 3 rfl) rfl rfl rfl (by decide) (fun h => ?_) (fun h => ?_)
  · cases h
    exact AW.vret rfl rfl rfl (dat D_X2_beginLine 17 rfl)
  · refine AW.aload_n (n := 10) (dat D_X2_beginLine 4 rfl) rfl rfl ?_
    refine AW.getR (n := 13) (t := k + 3) fX2_3 wF_X2_18 (isJudge_ly0 hpk) (by have := isJudge_lt hpk; omega) rfl (dat D_X2_beginLine 5 rfl) rfl ?_
    refine AW.aload_n (n := 14) (dat D_X2_beginLine 6 rfl) rfl rfl ?_
    refine AW.getI (n := 17) fX2_6 wF_X2_38 (isJudge_ly0 hpk) (by have := isJudge_lt hpk; omega) rfl rfl (dat D_X2_beginLine 7 rfl) rfl ?_
    refine AW.iload_n (n := 18) (dat D_X2_beginLine 8 rfl) rfl rfl ?_
    refine AW.zastH h (n := 19) rfl (isJudge_ly3 hpk) (by have := isJudge_lt hpk; omega) (dat D_X2_beginLine 9 rfl) rfl (fun j1 h => ?_)
    refine AW.ltS h (fun σ2 h => ?_)
    refine AW.aload_n (n := 20) (dat D_X2_beginLine 10 rfl) rfl rfl ?_
    refine AW.getR (n := 23) (t := k + 4) fX2_4 wF_X2_22 (isJudge_ly0 hpk) (by have := isJudge_lt hpk; omega) rfl (dat D_X2_beginLine 11 rfl) rfl ?_
    refine AW.aload_n (n := 24) (dat D_X2_beginLine 12 rfl) rfl rfl ?_
    refine AW.getI (n := 27) fX2_6 wF_X2_38 (isJudge_ly0 hpk) (by have := isJudge_lt hpk; omega) rfl rfl (dat D_X2_beginLine 13 rfl) rfl ?_
    refine AW.aload_n (n := 28) (dat D_X2_beginLine 14 rfl) rfl rfl ?_
    refine AW.getI (n := 31) fX2_2 wF_X2_34 (isJudge_ly0 hpk) (by have := isJudge_lt hpk; omega) rfl rfl (dat D_X2_beginLine 15 rfl) rfl ?_
    refine AW.iastH h (n := 32) rfl (isJudge_ly4 hpk) (by have := isJudge_lt hpk; omega) (dat D_X2_beginLine 16 rfl) rfl (fun j3 h => ?_)
    refine AW.ltS h (fun σ4 h => ?_)
    cases h
    exact AW.vret rfl rfl rfl (dat D_X2_beginLine 17 rfl)
def L_X2_endLine : List (Nat × Instr × Nat) := [(0, .aload_n 0, 1), (1, .getfield 38, 3), (4, .bipush 10, 2), (6, .if_icmp .ge 26, 3), (9, .aload_n 0, 1), (10, .dup, 1), (11, .getfield 38, 3), (14, .iconst 1, 1), (15, .iadd, 1), (16, .putfield 38, 3), (19, .aload_n 0, 1), (20, .getfield 22, 3), (23, .aload_n 0, 1), (24, .getfield 38, 3), (27, .aload_n 0, 1), (28, .getfield 34, 3), (31, .iastore, 1), (32, .return_, 1)]
theorem D_X2_endLine : dOK cX2_endLine L_X2_endLine = true := by decide +kernel
theorem cf_X2_endLine : CFV mX2_endLine 0 := ⟨wI_X2_endLine, wS_X2_endLine, wN_WaveRight_Judge, wC_X2_endLine, rfl, ⟨by decide +kernel, by decide +kernel, by decide +kernel⟩, le45 rfl⟩
def X2_endLine (n : Nat) (k : Nat) (σ : SG) : Option (SG) :=
  if 10 ≤ w32 (σ k 6) then
    some (σ)
  else
    lt (up σ k 6 ((σ k 6) + 1)) fun σ1 =>
    rdA 11 (σ1 k 6) fun j2 => lt (up σ1 (k + 4) j2 (σ1 k 2)) fun σ3 =>
    some (σ3)
set_option maxHeartbeats 4000000 in
set_option maxRecDepth 100000 in
theorem A_X2_endLine {Γ : GA} (hΓ : (gl Γ).stackTraces = false) {n : Nat} {k : Nat} {σ : SG} {τ : SG} (hpk : isJudge k = true) (h : X2_endLine n k σ = some τ) : AM Γ mX2_endLine 1 0 0 [vR k] (85, σ) (0, 0) (85, τ) := by
  refine AM.of pl_X2 rfl wC_X2_endLine (le45 rfl) hΓ ?_
  refine AW.to (ls'' := [some (vR k)]) ?_ (lle_s rfl (lle_z))
  unfold X2_endLine at h
  refine AW.aload_n (n := 1) (dat D_X2_endLine 0 rfl) rfl rfl ?_
  refine AW.getI (n := 4) fX2_6 wF_X2_38 (isJudge_ly0 hpk) (by have := isJudge_lt hpk; omega) rfl rfl (dat D_X2_endLine 1 rfl) rfl ?_
  refine AW.bipush (n := 6) (dat D_X2_endLine 2 rfl) rfl (by decide) ?_
  refine AW.icmp_geH (t := 32) (n := 9) h (dat D_X2_endLine 3 rfl) rfl rfl rfl (by decide) (fun h => ?_) (fun h => ?_)
  · cases h
    exact AW.vret rfl rfl rfl (dat D_X2_endLine 17 rfl)
  · refine AW.aload_n (n := 10) (dat D_X2_endLine 4 rfl) rfl rfl ?_
    refine AW.dup (n := 11) (dat D_X2_endLine 5 rfl) rfl (cR _) ?_
    refine AW.getI (n := 14) fX2_6 wF_X2_38 (isJudge_ly0 hpk) (by have := isJudge_lt hpk; omega) rfl rfl (dat D_X2_endLine 6 rfl) rfl ?_
    refine AW.iconst (n := 15) (dat D_X2_endLine 7 rfl) rfl ?_
    refine AW.iadd (n := 16) (dat D_X2_endLine 8 rfl) rfl ?_
    refine AW.putI (n := 19) fX2_6 wF_X2_38 (isJudge_ly0 hpk) (by have := isJudge_lt hpk; omega) rfl rfl rfl (dat D_X2_endLine 9 rfl) rfl ?_
    refine AW.ltS h (fun σ1 h => ?_)
    refine AW.aload_n (n := 20) (dat D_X2_endLine 10 rfl) rfl rfl ?_
    refine AW.getR (n := 23) (t := k + 4) fX2_4 wF_X2_22 (isJudge_ly0 hpk) (by have := isJudge_lt hpk; omega) rfl (dat D_X2_endLine 11 rfl) rfl ?_
    refine AW.aload_n (n := 24) (dat D_X2_endLine 12 rfl) rfl rfl ?_
    refine AW.getI (n := 27) fX2_6 wF_X2_38 (isJudge_ly0 hpk) (by have := isJudge_lt hpk; omega) rfl rfl (dat D_X2_endLine 13 rfl) rfl ?_
    refine AW.aload_n (n := 28) (dat D_X2_endLine 14 rfl) rfl rfl ?_
    refine AW.getI (n := 31) fX2_2 wF_X2_34 (isJudge_ly0 hpk) (by have := isJudge_lt hpk; omega) rfl rfl (dat D_X2_endLine 15 rfl) rfl ?_
    refine AW.iastH h (n := 32) rfl (isJudge_ly4 hpk) (by have := isJudge_lt hpk; omega) (dat D_X2_endLine 16 rfl) rfl (fun j2 h => ?_)
    refine AW.ltS h (fun σ3 h => ?_)
    cases h
    exact AW.vret rfl rfl rfl (dat D_X2_endLine 17 rfl)
def L_X2_endSum : List (Nat × Instr × Nat) := [(0, .aload_n 0, 1), (1, .getfield 38, 3), (4, .bipush 10, 2), (6, .if_icmp .ge 16, 3), (9, .aload_n 0, 1), (10, .getfield 25, 3), (13, .aload_n 0, 1), (14, .getfield 38, 3), (17, .aload_n 0, 1), (18, .getfield 34, 3), (21, .iastore, 1), (22, .return_, 1)]
theorem D_X2_endSum : dOK cX2_endSum L_X2_endSum = true := by decide +kernel
theorem cf_X2_endSum : CFV mX2_endSum 0 := ⟨wI_X2_endSum, wS_X2_endSum, wN_WaveRight_Judge, wC_X2_endSum, rfl, ⟨by decide +kernel, by decide +kernel, by decide +kernel⟩, le45 rfl⟩
def X2_endSum (n : Nat) (k : Nat) (σ : SG) : Option (SG) :=
  if 10 ≤ w32 (σ k 6) then
    some (σ)
  else
    rdA 10 (σ k 6) fun j1 => lt (up σ (k + 5) j1 (σ k 2)) fun σ2 =>
    some (σ2)
set_option maxHeartbeats 4000000 in
set_option maxRecDepth 100000 in
theorem A_X2_endSum {Γ : GA} (hΓ : (gl Γ).stackTraces = false) {n : Nat} {k : Nat} {σ : SG} {τ : SG} (hpk : isJudge k = true) (h : X2_endSum n k σ = some τ) : AM Γ mX2_endSum 1 0 0 [vR k] (85, σ) (0, 0) (85, τ) := by
  refine AM.of pl_X2 rfl wC_X2_endSum (le45 rfl) hΓ ?_
  refine AW.to (ls'' := [some (vR k)]) ?_ (lle_s rfl (lle_z))
  unfold X2_endSum at h
  refine AW.aload_n (n := 1) (dat D_X2_endSum 0 rfl) rfl rfl ?_
  refine AW.getI (n := 4) fX2_6 wF_X2_38 (isJudge_ly0 hpk) (by have := isJudge_lt hpk; omega) rfl rfl (dat D_X2_endSum 1 rfl) rfl ?_
  refine AW.bipush (n := 6) (dat D_X2_endSum 2 rfl) rfl (by decide) ?_
  refine AW.icmp_geH (t := 22) (n := 9) h (dat D_X2_endSum 3 rfl) rfl rfl rfl (by decide) (fun h => ?_) (fun h => ?_)
  · cases h
    exact AW.vret rfl rfl rfl (dat D_X2_endSum 11 rfl)
  · refine AW.aload_n (n := 10) (dat D_X2_endSum 4 rfl) rfl rfl ?_
    refine AW.getR (n := 13) (t := k + 5) fX2_5 wF_X2_25 (isJudge_ly0 hpk) (by have := isJudge_lt hpk; omega) rfl (dat D_X2_endSum 5 rfl) rfl ?_
    refine AW.aload_n (n := 14) (dat D_X2_endSum 6 rfl) rfl rfl ?_
    refine AW.getI (n := 17) fX2_6 wF_X2_38 (isJudge_ly0 hpk) (by have := isJudge_lt hpk; omega) rfl rfl (dat D_X2_endSum 7 rfl) rfl ?_
    refine AW.aload_n (n := 18) (dat D_X2_endSum 8 rfl) rfl rfl ?_
    refine AW.getI (n := 21) fX2_2 wF_X2_34 (isJudge_ly0 hpk) (by have := isJudge_lt hpk; omega) rfl rfl (dat D_X2_endSum 9 rfl) rfl ?_
    refine AW.iastH h (n := 22) rfl (isJudge_ly5 hpk) (by have := isJudge_lt hpk; omega) (dat D_X2_endSum 10 rfl) rfl (fun j1 h => ?_)
    refine AW.ltS h (fun σ2 h => ?_)
    cases h
    exact AW.vret rfl rfl rfl (dat D_X2_endSum 11 rfl)
def L_X2_landHere : List (Nat × Instr × Nat) := [(0, .iload_n 1, 1), (1, .ifCond .lt 21, 3), (4, .iload_n 1, 1), (5, .aload_n 0, 1), (6, .getfield 34, 3), (9, .if_icmp .ge 13, 3), (12, .aload_n 0, 1), (13, .getfield 15, 3), (16, .iload_n 1, 1), (17, .aload_n 0, 1), (18, .getfield 34, 3), (21, .iastore, 1), (22, .return_, 1)]
theorem D_X2_landHere : dOK cX2_landHere L_X2_landHere = true := by decide +kernel
theorem cf_X2_landHere : CFV mX2_landHere 1 := ⟨wI_X2_landHere, wS_X2_landHere, wN_WaveRight_Judge, wC_X2_landHere, rfl, ⟨by decide +kernel, by decide +kernel, by decide +kernel⟩, le45 rfl⟩
def X2_landHere (n : Nat) (k : Nat) (a0 : Int) (σ : SG) : Option (SG) :=
  if w32 a0 < 0 then
    some (σ)
  else
    if w32 (σ k 2) ≤ w32 a0 then
      some (σ)
    else
      rdA 400 a0 fun j1 => lt (up σ (k + 2) j1 (σ k 2)) fun σ2 =>
      some (σ2)
set_option maxHeartbeats 4000000 in
set_option maxRecDepth 100000 in
theorem A_X2_landHere {Γ : GA} (hΓ : (gl Γ).stackTraces = false) {n : Nat} {k : Nat} {a0 : Int} {σ : SG} {τ : SG} (hpk : isJudge k = true) (h : X2_landHere n k a0 σ = some τ) : AM Γ mX2_landHere 1 0 0 [vR k, vI a0] (85, σ) (0, 0) (85, τ) := by
  refine AM.of pl_X2 rfl wC_X2_landHere (le45 rfl) hΓ ?_
  refine AW.to (ls'' := [some (vR k), some (vI a0)]) ?_ (lle_s rfl (lle_s rfl (lle_z)))
  unfold X2_landHere at h
  refine AW.iload_n (n := 1) (dat D_X2_landHere 0 rfl) rfl rfl ?_
  refine AW.if_ltH (t := 22) (n := 4) h (dat D_X2_landHere 1 rfl) rfl rfl (fun h => ?_) (fun h => ?_)
  · cases h
    exact AW.vret rfl rfl rfl (dat D_X2_landHere 12 rfl)
  · refine AW.iload_n (n := 5) (dat D_X2_landHere 2 rfl) rfl rfl ?_
    refine AW.aload_n (n := 6) (dat D_X2_landHere 3 rfl) rfl rfl ?_
    refine AW.getI (n := 9) fX2_2 wF_X2_34 (isJudge_ly0 hpk) (by have := isJudge_lt hpk; omega) rfl rfl (dat D_X2_landHere 4 rfl) rfl ?_
    refine AW.icmp_geH (t := 22) (n := 12) h (dat D_X2_landHere 5 rfl) rfl rfl rfl rfl (fun h => ?_) (fun h => ?_)
    · cases h
      exact AW.vret rfl rfl rfl (dat D_X2_landHere 12 rfl)
    · refine AW.aload_n (n := 13) (dat D_X2_landHere 6 rfl) rfl rfl ?_
      refine AW.getR (n := 16) (t := k + 2) fX2_1 wF_X2_15 (isJudge_ly0 hpk) (by have := isJudge_lt hpk; omega) rfl (dat D_X2_landHere 7 rfl) rfl ?_
      refine AW.iload_n (n := 17) (dat D_X2_landHere 8 rfl) rfl rfl ?_
      refine AW.aload_n (n := 18) (dat D_X2_landHere 9 rfl) rfl rfl ?_
      refine AW.getI (n := 21) fX2_2 wF_X2_34 (isJudge_ly0 hpk) (by have := isJudge_lt hpk; omega) rfl rfl (dat D_X2_landHere 10 rfl) rfl ?_
      refine AW.iastH h (n := 22) rfl (isJudge_ly2 hpk) (by have := isJudge_lt hpk; omega) (dat D_X2_landHere 11 rfl) rfl (fun j1 h => ?_)
      refine AW.ltS h (fun σ2 h => ?_)
      cases h
      exact AW.vret rfl rfl rfl (dat D_X2_landHere 12 rfl)
def L_X2_write : List (Nat × Instr × Nat) := [(0, .aload_n 0, 1), (1, .getfield 34, 3), (4, .aload_n 0, 1), (5, .getfield 9, 3), (8, .arraylength, 1), (9, .if_icmp .ge 33, 3), (12, .aload_n 0, 1), (13, .getfield 9, 3), (16, .aload_n 0, 1), (17, .getfield 34, 3), (20, .iload_n 1, 1), (21, .iastore, 1), (22, .aload_n 0, 1), (23, .getfield 15, 3), (26, .aload_n 0, 1), (27, .getfield 34, 3), (30, .iload_n 2, 1), (31, .iastore, 1), (32, .aload_n 0, 1), (33, .dup, 1), (34, .getfield 34, 3), (37, .iconst 1, 1), (38, .iadd, 1), (39, .putfield 34, 3), (42, .aload_n 0, 1), (43, .getfield 34, 3), (46, .iconst 1, 1), (47, .isub, 1), (48, .ireturn, 1)]
theorem D_X2_write : dOK cX2_write L_X2_write = true := by decide +kernel
theorem cf_X2_write : CFV mX2_write 2 := ⟨wI_X2_write, wS_X2_write, wN_WaveRight_Judge, wC_X2_write, rfl, ⟨by decide +kernel, by decide +kernel, by decide +kernel⟩, le45 rfl⟩
def X2_write_j42 (n : Nat) (k : Nat) (σ1 : SG) : Option (Int × SG) :=
  some ((((σ1 k 2) - 1), σ1))
def X2_write (n : Nat) (k : Nat) (a0 : Int) (a1 : Int) (σ : SG) : Option (Int × SG) :=
  ((if 400 ≤ w32 (σ k 2) then
    some (σ)
  else
    rdA 400 (σ k 2) fun j3 => lt (up σ (k + 1) j3 a0) fun σ4 =>
    rdA 400 (σ4 k 2) fun j5 => lt (up σ4 (k + 2) j5 a1) fun σ6 =>
    lt (up σ6 k 2 ((σ6 k 2) + 1)) fun σ7 =>
    some (σ7)) : Option (SG)).bind (fun s => X2_write_j42 n k s)
set_option maxHeartbeats 4000000 in
set_option maxRecDepth 100000 in
theorem A_X2_write {Γ : GA} (hΓ : (gl Γ).stackTraces = false) {n : Nat} {k : Nat} {a0 : Int} {a1 : Int} {σ : SG} {r : Int} {τ : SG} (hpk : isJudge k = true) (h : X2_write n k a0 a1 σ = some (r, τ)) : AM Γ mX2_write 1 0 0 [vR k, vI a0, vI a1] (85, σ) (0, r) (85, τ) := by
  refine AM.of pl_X2 rfl wC_X2_write (le45 rfl) hΓ ?_
  refine AW.to (ls'' := [some (vR k), some (vI a0), some (vI a1)]) ?_ (lle_s rfl (lle_s rfl (lle_s rfl (lle_z))))
  unfold X2_write at h
  refine AW.aload_n (n := 1) (dat D_X2_write 0 rfl) rfl rfl ?_
  refine AW.getI (n := 4) fX2_2 wF_X2_34 (isJudge_ly0 hpk) (by have := isJudge_lt hpk; omega) rfl rfl (dat D_X2_write 1 rfl) rfl ?_
  refine AW.aload_n (n := 5) (dat D_X2_write 2 rfl) rfl rfl ?_
  refine AW.getR (n := 8) (t := k + 1) fX2_0 wF_X2_9 (isJudge_ly0 hpk) (by have := isJudge_lt hpk; omega) rfl (dat D_X2_write 3 rfl) rfl ?_
  refine AW.alen20 (n := 9) (x := 400) (isJudge_ly1 hpk) (by have := isJudge_lt hpk; omega) rfl (dat D_X2_write 4 rfl) rfl ?_
  obtain ⟨s2, h, hq2⟩ := ob_some h
  obtain ⟨σ1, e2⟩ : ∃ z, z = s2 := ⟨_, rfl⟩
  subst e2
  have hJ2 : AW Γ mX2_write 1 (0, r) (85, τ) 0 0 42 [some (vR k), none, none] [] (85, σ1) := by
    have h : X2_write_j42 n k σ1 = some _ := hq2
    unfold X2_write_j42 at h
    refine AW.aload_n (n := 43) (dat D_X2_write 24 rfl) rfl rfl ?_
    refine AW.getI (n := 46) fX2_2 wF_X2_34 (isJudge_ly0 hpk) (by have := isJudge_lt hpk; omega) rfl rfl (dat D_X2_write 25 rfl) rfl ?_
    refine AW.iconst (n := 47) (dat D_X2_write 26 rfl) rfl ?_
    refine AW.isub (n := 48) (dat D_X2_write 27 rfl) rfl ?_
    cases h
    exact AW.iret rfl rfl rfl (dat D_X2_write 28 rfl)
  refine AW.icmp_geH (t := 42) (n := 12) h (dat D_X2_write 5 rfl) rfl rfl rfl (by decide) (fun h => ?_) (fun h => ?_)
  · cases h
    exact AW.to hJ2 (lle_s rfl (lle_n (lle_n (lle_z))))
  · refine AW.aload_n (n := 13) (dat D_X2_write 6 rfl) rfl rfl ?_
    refine AW.getR (n := 16) (t := k + 1) fX2_0 wF_X2_9 (isJudge_ly0 hpk) (by have := isJudge_lt hpk; omega) rfl (dat D_X2_write 7 rfl) rfl ?_
    refine AW.aload_n (n := 17) (dat D_X2_write 8 rfl) rfl rfl ?_
    refine AW.getI (n := 20) fX2_2 wF_X2_34 (isJudge_ly0 hpk) (by have := isJudge_lt hpk; omega) rfl rfl (dat D_X2_write 9 rfl) rfl ?_
    refine AW.iload_n (n := 21) (dat D_X2_write 10 rfl) rfl rfl ?_
    refine AW.iastH h (n := 22) rfl (isJudge_ly1 hpk) (by have := isJudge_lt hpk; omega) (dat D_X2_write 11 rfl) rfl (fun j3 h => ?_)
    refine AW.ltS h (fun σ4 h => ?_)
    refine AW.aload_n (n := 23) (dat D_X2_write 12 rfl) rfl rfl ?_
    refine AW.getR (n := 26) (t := k + 2) fX2_1 wF_X2_15 (isJudge_ly0 hpk) (by have := isJudge_lt hpk; omega) rfl (dat D_X2_write 13 rfl) rfl ?_
    refine AW.aload_n (n := 27) (dat D_X2_write 14 rfl) rfl rfl ?_
    refine AW.getI (n := 30) fX2_2 wF_X2_34 (isJudge_ly0 hpk) (by have := isJudge_lt hpk; omega) rfl rfl (dat D_X2_write 15 rfl) rfl ?_
    refine AW.iload_n (n := 31) (dat D_X2_write 16 rfl) rfl rfl ?_
    refine AW.iastH h (n := 32) rfl (isJudge_ly2 hpk) (by have := isJudge_lt hpk; omega) (dat D_X2_write 17 rfl) rfl (fun j5 h => ?_)
    refine AW.ltS h (fun σ6 h => ?_)
    refine AW.aload_n (n := 33) (dat D_X2_write 18 rfl) rfl rfl ?_
    refine AW.dup (n := 34) (dat D_X2_write 19 rfl) rfl (cR _) ?_
    refine AW.getI (n := 37) fX2_2 wF_X2_34 (isJudge_ly0 hpk) (by have := isJudge_lt hpk; omega) rfl rfl (dat D_X2_write 20 rfl) rfl ?_
    refine AW.iconst (n := 38) (dat D_X2_write 21 rfl) rfl ?_
    refine AW.iadd (n := 39) (dat D_X2_write 22 rfl) rfl ?_
    refine AW.putI (n := 42) fX2_2 wF_X2_34 (isJudge_ly0 hpk) (by have := isJudge_lt hpk; omega) rfl rfl rfl (dat D_X2_write 23 rfl) rfl ?_
    refine AW.ltS h (fun σ7 h => ?_)
    cases h
    exact AW.to hJ2 (lle_s rfl (lle_n (lle_n (lle_z))))
def L_X3_factTold : List (Nat × Instr × Nat) := [(0, .aload_n 0, 1), (1, .getfield 9, 3), (4, .ldc 122, 2), (6, .invokevirtual 46, 3), (9, .ifCond .eq 5, 3), (12, .iconst 0, 1), (13, .ireturn, 1), (14, .aload_n 0, 1), (15, .getfield 9, 3), (18, .ldc 124, 2), (20, .invokevirtual 46, 3), (23, .ifCond .eq 5, 3), (26, .iconst 1, 1), (27, .ireturn, 1), (28, .aload_n 0, 1), (29, .getfield 9, 3), (32, .ldc 126, 2), (34, .invokevirtual 46, 3), (37, .ifCond .eq 5, 3), (40, .iconst 2, 1), (41, .ireturn, 1), (42, .aload_n 0, 1), (43, .getfield 9, 3), (46, .ldc 128, 2), (48, .invokevirtual 46, 3), (51, .ifCond .eq 5, 3), (54, .iconst 3, 1), (55, .ireturn, 1), (56, .aload_n 0, 1), (57, .getfield 9, 3), (60, .ldc 130, 2), (62, .invokevirtual 46, 3), (65, .ifCond .eq 5, 3), (68, .iconst 4, 1), (69, .ireturn, 1), (70, .aload_n 0, 1), (71, .getfield 9, 3), (74, .ldc 132, 2), (76, .invokevirtual 46, 3), (79, .ifCond .eq 5, 3), (82, .iconst 5, 1), (83, .ireturn, 1), (84, .aload_n 0, 1), (85, .getfield 9, 3), (88, .ldc 134, 2), (90, .invokevirtual 46, 3), (93, .ifCond .eq 6, 3), (96, .bipush 6, 2), (98, .ireturn, 1), (99, .aload_n 0, 1), (100, .getfield 9, 3), (103, .ldc 136, 2), (105, .invokevirtual 46, 3), (108, .ifCond .eq 8, 3), (111, .bipush 7, 2), (113, .goto 4, 3), (116, .iconst (-1), 1), (117, .ireturn, 1)]
theorem D_X3_factTold : dOK cX3_factTold L_X3_factTold = true := by decide +kernel
theorem cf_X3_factTold : CFV mX3_factTold 0 := ⟨wI_X3_factTold, wS_X3_factTold, wN_WaveRight_JudgeReader, wC_X3_factTold, rfl, ⟨by decide +kernel, by decide +kernel, by decide +kernel⟩, le45 rfl⟩
def X3_factTold (n : Nat) (σ : SG) : Option (Int) :=
  (X10_isWord n 14 σ).bind fun v2 =>
  if w32 v2 = 0 then
    (X10_isWord n 15 σ).bind fun v4 =>
    if w32 v4 = 0 then
      (X10_isWord n 16 σ).bind fun v6 =>
      if w32 v6 = 0 then
        (X10_isWord n 17 σ).bind fun v8 =>
        if w32 v8 = 0 then
          (X10_isWord n 18 σ).bind fun v10 =>
          if w32 v10 = 0 then
            (X10_isWord n 19 σ).bind fun v12 =>
            if w32 v12 = 0 then
              (X10_isWord n 20 σ).bind fun v14 =>
              if w32 v14 = 0 then
                (X10_isWord n 21 σ).bind fun v16 =>
                if w32 v16 = 0 then
                  some ((-1))
                else
                  some (7)
              else
                some (6)
            else
              some (5)
          else
            some (4)
        else
          some (3)
      else
        some (2)
    else
      some (1)
  else
    some (0)
set_option maxHeartbeats 4000000 in
set_option maxRecDepth 100000 in
theorem A_X3_factTold {Γ : GA} (hΓ : (gl Γ).stackTraces = false) {n : Nat} {σ : SG} {r : Int}  (h : X3_factTold n σ = some r) : AM Γ mX3_factTold 10 0 0 [vR 18] (85, σ) (0, r) (85, σ) := by
  refine AM.of pl_X3 rfl wC_X3_factTold (le45 rfl) hΓ ?_
  refine AW.to (ls'' := [some (vR 18)]) ?_ (lle_s rfl (lle_z))
  unfold X3_factTold at h
  refine AW.aload_n (n := 1) (dat D_X3_factTold 0 rfl) rfl rfl ?_
  refine AW.getR (n := 4) (t := 15) fX3_0 wF_X3_9 ly_18 (le45 rfl) rfl (dat D_X3_factTold 1 rfl) rfl ?_
  refine AW.ldcS (n := 6) (j := 14) rfl (dat D_X3_factTold 2 rfl) rfl ?_
  obtain ⟨v2, hc1, h⟩ := ob_some h
  refine AW.cV (n := 9) (as := [vO 14]) (st := []) (st' := [vI v2]) (uc' := 0) (us' := 0) (A_X10_isWord hΓ (by decide) hc1) cf_X10_isWord ly_15 (le45 rfl) vc_10 (le45 rfl) wM_X3_46 (le45 rfl) (le45 rfl) (dat D_X3_factTold 3 rfl) rfl rfl (le45 rfl) (le45 rfl) rfl (fun _ => ?_) nlt0
  refine AW.if_eqH (t := 14) (n := 12) h (dat D_X3_factTold 4 rfl) rfl rfl (fun h => ?_) (fun h => ?_)
  · refine AW.aload_n (n := 15) (dat D_X3_factTold 7 rfl) rfl rfl ?_
    refine AW.getR (n := 18) (t := 15) fX3_0 wF_X3_9 ly_18 (le45 rfl) rfl (dat D_X3_factTold 8 rfl) rfl ?_
    refine AW.ldcS (n := 20) (j := 15) rfl (dat D_X3_factTold 9 rfl) rfl ?_
    obtain ⟨v4, hc3, h⟩ := ob_some h
    refine AW.cV (n := 23) (as := [vO 15]) (st := []) (st' := [vI v4]) (uc' := 0) (us' := 0) (A_X10_isWord hΓ (by decide) hc3) cf_X10_isWord ly_15 (le45 rfl) vc_10 (le45 rfl) wM_X3_46 (le45 rfl) (le45 rfl) (dat D_X3_factTold 10 rfl) rfl rfl (le45 rfl) (le45 rfl) rfl (fun _ => ?_) nlt0
    refine AW.if_eqH (t := 28) (n := 26) h (dat D_X3_factTold 11 rfl) rfl rfl (fun h => ?_) (fun h => ?_)
    · refine AW.aload_n (n := 29) (dat D_X3_factTold 14 rfl) rfl rfl ?_
      refine AW.getR (n := 32) (t := 15) fX3_0 wF_X3_9 ly_18 (le45 rfl) rfl (dat D_X3_factTold 15 rfl) rfl ?_
      refine AW.ldcS (n := 34) (j := 16) rfl (dat D_X3_factTold 16 rfl) rfl ?_
      obtain ⟨v6, hc5, h⟩ := ob_some h
      refine AW.cV (n := 37) (as := [vO 16]) (st := []) (st' := [vI v6]) (uc' := 0) (us' := 0) (A_X10_isWord hΓ (by decide) hc5) cf_X10_isWord ly_15 (le45 rfl) vc_10 (le45 rfl) wM_X3_46 (le45 rfl) (le45 rfl) (dat D_X3_factTold 17 rfl) rfl rfl (le45 rfl) (le45 rfl) rfl (fun _ => ?_) nlt0
      refine AW.if_eqH (t := 42) (n := 40) h (dat D_X3_factTold 18 rfl) rfl rfl (fun h => ?_) (fun h => ?_)
      · refine AW.aload_n (n := 43) (dat D_X3_factTold 21 rfl) rfl rfl ?_
        refine AW.getR (n := 46) (t := 15) fX3_0 wF_X3_9 ly_18 (le45 rfl) rfl (dat D_X3_factTold 22 rfl) rfl ?_
        refine AW.ldcS (n := 48) (j := 17) rfl (dat D_X3_factTold 23 rfl) rfl ?_
        obtain ⟨v8, hc7, h⟩ := ob_some h
        refine AW.cV (n := 51) (as := [vO 17]) (st := []) (st' := [vI v8]) (uc' := 0) (us' := 0) (A_X10_isWord hΓ (by decide) hc7) cf_X10_isWord ly_15 (le45 rfl) vc_10 (le45 rfl) wM_X3_46 (le45 rfl) (le45 rfl) (dat D_X3_factTold 24 rfl) rfl rfl (le45 rfl) (le45 rfl) rfl (fun _ => ?_) nlt0
        refine AW.if_eqH (t := 56) (n := 54) h (dat D_X3_factTold 25 rfl) rfl rfl (fun h => ?_) (fun h => ?_)
        · refine AW.aload_n (n := 57) (dat D_X3_factTold 28 rfl) rfl rfl ?_
          refine AW.getR (n := 60) (t := 15) fX3_0 wF_X3_9 ly_18 (le45 rfl) rfl (dat D_X3_factTold 29 rfl) rfl ?_
          refine AW.ldcS (n := 62) (j := 18) rfl (dat D_X3_factTold 30 rfl) rfl ?_
          obtain ⟨v10, hc9, h⟩ := ob_some h
          refine AW.cV (n := 65) (as := [vO 18]) (st := []) (st' := [vI v10]) (uc' := 0) (us' := 0) (A_X10_isWord hΓ (by decide) hc9) cf_X10_isWord ly_15 (le45 rfl) vc_10 (le45 rfl) wM_X3_46 (le45 rfl) (le45 rfl) (dat D_X3_factTold 31 rfl) rfl rfl (le45 rfl) (le45 rfl) rfl (fun _ => ?_) nlt0
          refine AW.if_eqH (t := 70) (n := 68) h (dat D_X3_factTold 32 rfl) rfl rfl (fun h => ?_) (fun h => ?_)
          · refine AW.aload_n (n := 71) (dat D_X3_factTold 35 rfl) rfl rfl ?_
            refine AW.getR (n := 74) (t := 15) fX3_0 wF_X3_9 ly_18 (le45 rfl) rfl (dat D_X3_factTold 36 rfl) rfl ?_
            refine AW.ldcS (n := 76) (j := 19) rfl (dat D_X3_factTold 37 rfl) rfl ?_
            obtain ⟨v12, hc11, h⟩ := ob_some h
            refine AW.cV (n := 79) (as := [vO 19]) (st := []) (st' := [vI v12]) (uc' := 0) (us' := 0) (A_X10_isWord hΓ (by decide) hc11) cf_X10_isWord ly_15 (le45 rfl) vc_10 (le45 rfl) wM_X3_46 (le45 rfl) (le45 rfl) (dat D_X3_factTold 38 rfl) rfl rfl (le45 rfl) (le45 rfl) rfl (fun _ => ?_) nlt0
            refine AW.if_eqH (t := 84) (n := 82) h (dat D_X3_factTold 39 rfl) rfl rfl (fun h => ?_) (fun h => ?_)
            · refine AW.aload_n (n := 85) (dat D_X3_factTold 42 rfl) rfl rfl ?_
              refine AW.getR (n := 88) (t := 15) fX3_0 wF_X3_9 ly_18 (le45 rfl) rfl (dat D_X3_factTold 43 rfl) rfl ?_
              refine AW.ldcS (n := 90) (j := 20) rfl (dat D_X3_factTold 44 rfl) rfl ?_
              obtain ⟨v14, hc13, h⟩ := ob_some h
              refine AW.cV (n := 93) (as := [vO 20]) (st := []) (st' := [vI v14]) (uc' := 0) (us' := 0) (A_X10_isWord hΓ (by decide) hc13) cf_X10_isWord ly_15 (le45 rfl) vc_10 (le45 rfl) wM_X3_46 (le45 rfl) (le45 rfl) (dat D_X3_factTold 45 rfl) rfl rfl (le45 rfl) (le45 rfl) rfl (fun _ => ?_) nlt0
              refine AW.if_eqH (t := 99) (n := 96) h (dat D_X3_factTold 46 rfl) rfl rfl (fun h => ?_) (fun h => ?_)
              · refine AW.aload_n (n := 100) (dat D_X3_factTold 49 rfl) rfl rfl ?_
                refine AW.getR (n := 103) (t := 15) fX3_0 wF_X3_9 ly_18 (le45 rfl) rfl (dat D_X3_factTold 50 rfl) rfl ?_
                refine AW.ldcS (n := 105) (j := 21) rfl (dat D_X3_factTold 51 rfl) rfl ?_
                obtain ⟨v16, hc15, h⟩ := ob_some h
                refine AW.cV (n := 108) (as := [vO 21]) (st := []) (st' := [vI v16]) (uc' := 0) (us' := 0) (A_X10_isWord hΓ (by decide) hc15) cf_X10_isWord ly_15 (le45 rfl) vc_10 (le45 rfl) wM_X3_46 (le45 rfl) (le45 rfl) (dat D_X3_factTold 52 rfl) rfl rfl (le45 rfl) (le45 rfl) rfl (fun _ => ?_) nlt0
                refine AW.if_eqH (t := 116) (n := 111) h (dat D_X3_factTold 53 rfl) rfl rfl (fun h => ?_) (fun h => ?_)
                · refine AW.iconst (n := 117) (dat D_X3_factTold 56 rfl) rfl ?_
                  cases h
                  exact AW.iret rfl rfl rfl (dat D_X3_factTold 57 rfl)
                · refine AW.bipush (n := 113) (dat D_X3_factTold 54 rfl) rfl (by decide) ?_
                  refine AW.goto (t := 117) (dat D_X3_factTold 55 rfl) rfl ?_
                  cases h
                  exact AW.iret rfl rfl rfl (dat D_X3_factTold 57 rfl)
              · refine AW.bipush (n := 98) (dat D_X3_factTold 47 rfl) rfl (by decide) ?_
                cases h
                exact AW.iret rfl rfl rfl (dat D_X3_factTold 48 rfl)
            · refine AW.iconst (n := 83) (dat D_X3_factTold 40 rfl) rfl ?_
              cases h
              exact AW.iret rfl rfl rfl (dat D_X3_factTold 41 rfl)
          · refine AW.iconst (n := 69) (dat D_X3_factTold 33 rfl) rfl ?_
            cases h
            exact AW.iret rfl rfl rfl (dat D_X3_factTold 34 rfl)
        · refine AW.iconst (n := 55) (dat D_X3_factTold 26 rfl) rfl ?_
          cases h
          exact AW.iret rfl rfl rfl (dat D_X3_factTold 27 rfl)
      · refine AW.iconst (n := 41) (dat D_X3_factTold 19 rfl) rfl ?_
        cases h
        exact AW.iret rfl rfl rfl (dat D_X3_factTold 20 rfl)
    · refine AW.iconst (n := 27) (dat D_X3_factTold 12 rfl) rfl ?_
      cases h
      exact AW.iret rfl rfl rfl (dat D_X3_factTold 13 rfl)
  · refine AW.iconst (n := 13) (dat D_X3_factTold 5 rfl) rfl ?_
    cases h
    exact AW.iret rfl rfl rfl (dat D_X3_factTold 6 rfl)
