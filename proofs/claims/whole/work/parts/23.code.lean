/-! ===== methods as functions, and their bytecode beside them (printed by wip/whole/gen/emit.py) ===== -/
def L_X9_firstOfPath : List (Nat × Instr × Nat) := [(0, .aload_n 0, 1), (1, .getfield 50, 3), (4, .ifCond .ne 15, 3), (7, .aload_n 0, 1), (8, .getfield 25, 3), (11, .aload_n 0, 1), (12, .getfield 53, 3), (15, .isub, 1), (16, .goto 7, 3), (19, .aload_n 0, 1), (20, .getfield 25, 3), (23, .ireturn, 1)]
theorem D_X9_firstOfPath : dOK cX9_firstOfPath L_X9_firstOfPath = true := by decide +kernel
theorem cf_X9_firstOfPath : CFV mX9_firstOfPath 0 := ⟨wI_X9_firstOfPath, wS_X9_firstOfPath, wN_WaveRight_Swimmer, wC_X9_firstOfPath, rfl, ⟨by decide +kernel, by decide +kernel, by decide +kernel⟩, le45 rfl⟩
def X9_firstOfPath (n : Nat) (k : Nat) (σ : SG) : Option (Int) :=
  if w32 (σ k 12) = 0 then
    some (((σ k 3) - (σ k 13)))
  else
    some ((σ k 3))
set_option maxHeartbeats 4000000 in
set_option maxRecDepth 100000 in
theorem A_X9_firstOfPath {Γ : GA} (hΓ : (gl Γ).stackTraces = false) {n : Nat} {k : Nat} {σ : SG} {r : Int} (hpk : isSw k = true) (h : X9_firstOfPath n k σ = some r) : AM Γ mX9_firstOfPath 1 0 0 [vR k] (85, σ) (0, r) (85, σ) := by
  refine AM.of pl_X9 rfl wC_X9_firstOfPath (le45 rfl) hΓ ?_
  refine AW.to (ls'' := [some (vR k)]) ?_ (lle_s rfl (lle_z))
  unfold X9_firstOfPath at h
  refine AW.aload_n (n := 1) (dat D_X9_firstOfPath 0 rfl) rfl rfl ?_
  refine AW.getI (n := 4) fX9_12 wF_X9_50 (isSw_ly0 hpk) (by have := isSw_lt hpk; omega) rfl rfl (dat D_X9_firstOfPath 1 rfl) rfl ?_
  refine AW.if_neH (t := 19) (n := 7) h (dat D_X9_firstOfPath 2 rfl) rfl rfl (fun h => ?_) (fun h => ?_)
  · refine AW.aload_n (n := 8) (dat D_X9_firstOfPath 3 rfl) rfl rfl ?_
    refine AW.getI (n := 11) fX9_3 wF_X9_25 (isSw_ly0 hpk) (by have := isSw_lt hpk; omega) rfl rfl (dat D_X9_firstOfPath 4 rfl) rfl ?_
    refine AW.aload_n (n := 12) (dat D_X9_firstOfPath 5 rfl) rfl rfl ?_
    refine AW.getI (n := 15) fX9_13 wF_X9_53 (isSw_ly0 hpk) (by have := isSw_lt hpk; omega) rfl rfl (dat D_X9_firstOfPath 6 rfl) rfl ?_
    refine AW.isub (n := 16) (dat D_X9_firstOfPath 7 rfl) rfl ?_
    refine AW.goto (t := 23) (dat D_X9_firstOfPath 8 rfl) rfl ?_
    cases h
    exact AW.iret rfl rfl rfl (dat D_X9_firstOfPath 11 rfl)
  · refine AW.aload_n (n := 20) (dat D_X9_firstOfPath 9 rfl) rfl rfl ?_
    refine AW.getI (n := 23) fX9_3 wF_X9_25 (isSw_ly0 hpk) (by have := isSw_lt hpk; omega) rfl rfl (dat D_X9_firstOfPath 10 rfl) rfl ?_
    cases h
    exact AW.iret rfl rfl rfl (dat D_X9_firstOfPath 11 rfl)
def L_X1_hinderedBy : List (Nat × Instr × Nat) := [(0, .iload_n 2, 1), (1, .ifCond .ne 12, 3), (4, .aload_n 1, 1), (5, .getfield 135, 3), (8, .iload_n 3, 1), (9, .isub, 1), (10, .goto 7, 3), (13, .aload_n 1, 1), (14, .getfield 135, 3), (17, .istore 4, 2), (19, .iconst 0, 1), (20, .istore 5, 2), (22, .iconst 0, 1), (23, .istore 6, 2), (25, .iload 6, 2), (27, .aload_n 0, 1), (28, .getfield 12, 3), (31, .getfield 56, 3), (34, .if_icmp .ge 96, 3), (37, .aload_n 0, 1), (38, .getfield 27, 3), (41, .iload 6, 2), (43, .aaload, 1), (44, .astore 7, 2), (46, .iload 6, 2), (48, .aload_n 1, 1), (49, .getfield 144, 3), (52, .if_icmp .eq 72, 3), (55, .aload 7, 2), (57, .getfield 150, 3), (60, .ifCond .eq 64, 3), (63, .aload 7, 2), (65, .getfield 153, 3), (68, .iload_n 2, 1), (69, .if_icmp .ne 55, 3), (72, .aload 7, 2), (74, .invokevirtual 174, 3), (77, .iload 4, 2), (79, .iload_n 3, 1), (80, .iadd, 1), (81, .if_icmp .gt 43, 3), (84, .iload 4, 2), (86, .aload 7, 2), (88, .invokevirtual 174, 3), (91, .aload 7, 2), (93, .getfield 156, 3), (96, .iadd, 1), (97, .if_icmp .gt 27, 3), (100, .aload_n 0, 1), (101, .aload_n 1, 1), (102, .getfield 144, 3), (105, .iload 6, 2), (107, .invokevirtual 177, 3), (110, .iload 6, 2), (112, .if_icmp .ne 12, 3), (115, .iload 5, 2), (117, .iconst 1, 1), (118, .iload 6, 2), (120, .ishl, 1), (121, .ior, 1), (122, .istore 5, 2), (124, .iinc 6 1, 3), (127, .goto (-102), 3), (130, .iload 5, 2), (132, .ireturn, 1)]
theorem D_X1_hinderedBy : dOK cX1_hinderedBy L_X1_hinderedBy = true := by decide +kernel
theorem cf_X1_hinderedBy : CFV mX1_hinderedBy 3 := ⟨wI_X1_hinderedBy, wS_X1_hinderedBy, wN_WaveRight_Heat, wC_X1_hinderedBy, rfl, ⟨by decide +kernel, by decide +kernel, by decide +kernel⟩, le45 rfl⟩
def X1_hinderedBy_e25 (n : Nat) (e6 : Int) : Option (Int) :=
  some (e6)
def X1_hinderedBy_j124 (n : Nat) (z4 : Int) (y10 : Int) : Option ((Int × Int) ⊕ (Int)) :=
  lt (z4 + 1) fun x12 =>
  some (.inl (y10, x12))
def X1_hinderedBy_l25 (n : Nat) (σ : SG) (a0 : Nat) (a1 : Int) (y1 : Int) (a2 : Int) (z3 : Int) (z4 : Int) : Option ((Int × Int) ⊕ (Int)) :=
  ckR isSea (σ 19 0) fun k7 =>
  if w32 (σ k7 5) ≤ w32 z4 then
    some (.inr z3)
  else
    rdA 5 z4 fun j8 => ckR isSw (σ 34 j8) fun k9 =>
    ((if w32 z4 = w32 (σ a0 0) then
      some (z3)
    else
      if w32 (σ k9 7) = 0 then
        some (z3)
      else
        if w32 (σ k9 12) = w32 a1 then
          (X9_firstOfPath n k9 σ).bind fun v14 =>
          if w32 (y1 + a2) < w32 v14 then
            some (z3)
          else
            (X9_firstOfPath n k9 σ).bind fun v16 =>
            if w32 (v16 + (σ k9 13)) < w32 y1 then
              some (z3)
            else
              (X1_rightOf n (σ a0 0) z4 σ).bind fun v18 =>
              if w32 v18 = w32 z4 then
                lt (bOr z3 (bShl 1 z4)) fun x19 =>
                some (x19)
              else
                some (z3)
        else
          some (z3)) : Option (Int)).bind (fun s => X1_hinderedBy_j124 n z4 s)
def X1_hinderedBy_j17 (n : Nat) (σ : SG) (a0 : Nat) (a1 : Int) (a2 : Int) (y1 : Int) : Option (Int) :=
  ((iter n (fun s : Int × Int => X1_hinderedBy_l25 n σ a0 a1 y1 a2 s.1 s.2) (0, 0)) : Option (Int)).bind (fun s => X1_hinderedBy_e25 n s)
def X1_hinderedBy (n : Nat) (a0 : Nat) (a1 : Int) (a2 : Int) (σ : SG) : Option (Int) :=
  ((if w32 a1 = 0 then
    some (((σ a0 3) - a2))
  else
    some ((σ a0 3))) : Option (Int)).bind (fun s => X1_hinderedBy_j17 n σ a0 a1 a2 s)
set_option maxHeartbeats 4000000 in
set_option maxRecDepth 100000 in
theorem A_X1_hinderedBy {Γ : GA} (hΓ : (gl Γ).stackTraces = false) {n : Nat} {a0 : Nat} {a1 : Int} {a2 : Int} {σ : SG} {r : Int} (hpa0 : isSw a0 = true) (h : X1_hinderedBy n a0 a1 a2 σ = some r) : AM Γ mX1_hinderedBy 3 0 0 [vR 19, vR a0, vI a1, vI a2] (85, σ) (0, r) (85, σ) := by
  refine AM.of pl_X1 rfl wC_X1_hinderedBy (le45 rfl) hΓ ?_
  refine AW.to (ls'' := [some (vR 19), some (vR a0), some (vI a1), some (vI a2), none, none, none, none]) ?_ (lle_s rfl (lle_s rfl (lle_s rfl (lle_s rfl (lle_e (lle_e (lle_e (lle_e (lle_z)))))))))
  unfold X1_hinderedBy at h
  refine AW.iload_n (n := 1) (dat D_X1_hinderedBy 0 rfl) rfl rfl ?_
  obtain ⟨s2, h, hq2⟩ := ob_some h
  obtain ⟨y1, e2⟩ : ∃ z, z = s2 := ⟨_, rfl⟩
  subst e2
  have hJ2 : AW Γ mX1_hinderedBy 3 (0, r) (85, σ) 0 0 17 [some (vR 19), some (vR a0), some (vI a1), some (vI a2), none, none, none, none] [vI y1] (85, σ) := by
    have h : X1_hinderedBy_j17 n σ a0 a1 a2 y1 = some _ := hq2
    unfold X1_hinderedBy_j17 at h
    refine AW.istore (n := 19) (ls' := [some (vR 19), some (vR a0), some (vI a1), some (vI a2), some (vI y1), none, none, none]) (dat D_X1_hinderedBy 9 rfl) rfl (le45 rfl) (le45 rfl) rfl rfl ?_
    refine AW.iconst (n := 20) (dat D_X1_hinderedBy 10 rfl) rfl ?_
    refine AW.istore (n := 22) (ls' := [some (vR 19), some (vR a0), some (vI a1), some (vI a2), some (vI y1), some (vI 0), none, none]) (dat D_X1_hinderedBy 11 rfl) rfl (le45 rfl) (le45 rfl) rfl rfl ?_
    refine AW.iconst (n := 23) (dat D_X1_hinderedBy 12 rfl) rfl ?_
    refine AW.istore (n := 25) (ls' := [some (vR 19), some (vR a0), some (vI a1), some (vI a2), some (vI y1), some (vI 0), some (vI 0), none]) (dat D_X1_hinderedBy 13 rfl) rfl (le45 rfl) (le45 rfl) rfl rfl ?_
    obtain ⟨b5, hi5, hq5⟩ := ob_some h
    obtain ⟨e6, e5⟩ : ∃ z, z = b5 := ⟨_, rfl⟩
    subst e5
    have hR5 : AW Γ mX1_hinderedBy 3 (0, r) (85, σ) 0 0 130 [none, none, none, none, none, some (vI e6), none, none] [] (85, σ) := by
      have h : X1_hinderedBy_e25 n e6 = some _ := hq5
      unfold X1_hinderedBy_e25 at h
      refine AW.iload (n := 132) (dat D_X1_hinderedBy 63 rfl) rfl rfl ?_
      cases h
      exact AW.iret rfl rfl rfl (dat D_X1_hinderedBy 64 rfl)
    refine AW.to (ls'' := [some (vR 19), some (vR a0), some (vI a1), some (vI a2), some (vI y1), some (vI 0), some (vI 0), none]) ?_ (lle_s rfl (lle_s rfl (lle_s rfl (lle_s rfl (lle_s rfl (lle_s rfl (lle_s rfl (lle_n (lle_z)))))))))
    refine aw_iter (fun s : Int × Int => AW Γ mX1_hinderedBy 3 (0, r) (85, σ) 0 0 25 [some (vR 19), some (vR a0), some (vI a1), some (vI a2), some (vI y1), some (vI (s.1)), some (vI (s.2)), none] [] (85, σ)) (fun s y h hk5 hb5 => ?_) _ _ hi5
    obtain ⟨z3, z4⟩ := s
    show AW Γ mX1_hinderedBy 3 (0, r) (85, σ) 0 0 25 [some (vR 19), some (vR a0), some (vI a1), some (vI a2), some (vI y1), some (vI z3), some (vI z4), none] [] (85, σ)
    have h : X1_hinderedBy_l25 n σ a0 a1 y1 a2 z3 z4 = some y := h
    unfold X1_hinderedBy_l25 at h
    refine AW.iload (n := 27) (dat D_X1_hinderedBy 14 rfl) rfl rfl ?_
    refine AW.aload_n (n := 28) (dat D_X1_hinderedBy 15 rfl) rfl rfl ?_
    refine AW.getQH h (n := 31) fX1_0 wF_X1_12 ly_19 (le45 rfl) rfl rfl (dat D_X1_hinderedBy 16 rfl) rfl (fun k7 hpk7 h => ?_)
    refine AW.getI (n := 34) fX6_5 wF_X1_56 (isSea_ly0 hpk7) (by have := isSea_lt hpk7; omega) rfl rfl (dat D_X1_hinderedBy 17 rfl) rfl ?_
    refine AW.icmp_geH (t := 130) (n := 37) h (dat D_X1_hinderedBy 18 rfl) rfl rfl rfl rfl (fun h => ?_) (fun h => ?_)
    · cases h
      have hb := hb5 _ rfl
      cases hb
      exact AW.to hR5 (lle_n (lle_n (lle_n (lle_n (lle_n (lle_s rfl (lle_n (lle_n (lle_z)))))))))
    · refine AW.aload_n (n := 38) (dat D_X1_hinderedBy 19 rfl) rfl rfl ?_
      refine AW.getR (n := 41) (t := 34) fX1_2 wF_X1_27 ly_19 (le45 rfl) rfl (dat D_X1_hinderedBy 20 rfl) rfl ?_
      refine AW.iload (n := 43) (dat D_X1_hinderedBy 21 rfl) rfl rfl ?_
      refine AW.aaldH h (n := 44) rfl ly_34 (le45 rfl) (dat D_X1_hinderedBy 22 rfl) rfl (fun j8 k9 hpk9 h => ?_)
      refine AW.astore (n := 46) (ls' := [some (vR 19), some (vR a0), some (vI a1), some (vI a2), some (vI y1), some (vI z3), some (vI z4), some (vR k9)]) (dat D_X1_hinderedBy 23 rfl) rfl (le45 rfl) (le45 rfl) rfl rfl ?_
      refine AW.iload (n := 48) (dat D_X1_hinderedBy 24 rfl) rfl rfl ?_
      refine AW.aload_n (n := 49) (dat D_X1_hinderedBy 25 rfl) rfl rfl ?_
      refine AW.getI (n := 52) fX9_0 wF_X1_144 (isSw_ly0 hpa0) (by have := isSw_lt hpa0; omega) rfl rfl (dat D_X1_hinderedBy 26 rfl) rfl ?_
      obtain ⟨s11, h, hq11⟩ := ob_some h
      obtain ⟨y10, e11⟩ : ∃ z, z = s11 := ⟨_, rfl⟩
      subst e11
      have hJ11 : AW Γ mX1_hinderedBy 3 (0, r) (85, σ) 0 0 124 [some (vR 19), some (vR a0), some (vI a1), some (vI a2), some (vI y1), some (vI y10), some (vI z4), none] [] (85, σ) := by
        have h : X1_hinderedBy_j124 n z4 y10 = some _ := hq11
        unfold X1_hinderedBy_j124 at h
        refine AW.iincH h (n := 127) (dat D_X1_hinderedBy 61 rfl) rfl rfl (le45 rfl) rfl (fun x12 h => ?_)
        refine AW.lq (ls' := [some (vR 19), some (vR a0), some (vI a1), some (vI a2), some (vI y1), some (vI y10), some (vI x12), none]) rfl ?_
        refine AW.goto (t := 25) (dat D_X1_hinderedBy 62 rfl) rfl ?_
        cases h
        exact AW.to (hk5 _ rfl) (lle_s rfl (lle_s rfl (lle_s rfl (lle_s rfl (lle_s rfl (lle_s rfl (lle_s rfl (lle_n (lle_z)))))))))
      refine AW.icmp_eqH (t := 124) (n := 55) h (dat D_X1_hinderedBy 27 rfl) rfl rfl rfl rfl (fun h => ?_) (fun h => ?_)
      · cases h
        exact AW.to hJ11 (lle_s rfl (lle_s rfl (lle_s rfl (lle_s rfl (lle_s rfl (lle_s rfl (lle_s rfl (lle_n (lle_z)))))))))
      · refine AW.aload (n := 57) (dat D_X1_hinderedBy 28 rfl) rfl rfl ?_
        refine AW.getI (n := 60) fX9_7 wF_X1_150 (isSw_ly0 hpk9) (by have := isSw_lt hpk9; omega) rfl rfl (dat D_X1_hinderedBy 29 rfl) rfl ?_
        refine AW.if_eqH (t := 124) (n := 63) h (dat D_X1_hinderedBy 30 rfl) rfl rfl (fun h => ?_) (fun h => ?_)
        · cases h
          exact AW.to hJ11 (lle_s rfl (lle_s rfl (lle_s rfl (lle_s rfl (lle_s rfl (lle_s rfl (lle_s rfl (lle_n (lle_z)))))))))
        · refine AW.aload (n := 65) (dat D_X1_hinderedBy 31 rfl) rfl rfl ?_
          refine AW.getI (n := 68) fX9_12 wF_X1_153 (isSw_ly0 hpk9) (by have := isSw_lt hpk9; omega) rfl rfl (dat D_X1_hinderedBy 32 rfl) rfl ?_
          refine AW.iload_n (n := 69) (dat D_X1_hinderedBy 33 rfl) rfl rfl ?_
          refine AW.icmp_neH (t := 124) (n := 72) h (dat D_X1_hinderedBy 34 rfl) rfl rfl rfl rfl (fun h => ?_) (fun h => ?_)
          · refine AW.aload (n := 74) (dat D_X1_hinderedBy 35 rfl) rfl rfl ?_
            obtain ⟨v14, hc13, h⟩ := ob_some h
            refine AW.cV (n := 77) (as := []) (st := []) (st' := [vI v14]) (uc' := 0) (us' := 0) (A_X9_firstOfPath hΓ hpk9 hc13) cf_X9_firstOfPath (isSw_ly0 hpk9) (by have := isSw_lt hpk9; omega) vc_9 (le45 rfl) wM_X1_174 (le45 rfl) (le45 rfl) (dat D_X1_hinderedBy 36 rfl) rfl rfl (le45 rfl) (le45 rfl) rfl (fun _ => ?_) nlt0
            refine AW.iload (n := 79) (dat D_X1_hinderedBy 37 rfl) rfl rfl ?_
            refine AW.iload_n (n := 80) (dat D_X1_hinderedBy 38 rfl) rfl rfl ?_
            refine AW.iadd (n := 81) (dat D_X1_hinderedBy 39 rfl) rfl ?_
            refine AW.icmp_gtH (t := 124) (n := 84) h (dat D_X1_hinderedBy 40 rfl) rfl rfl rfl rfl (fun h => ?_) (fun h => ?_)
            · cases h
              exact AW.to hJ11 (lle_s rfl (lle_s rfl (lle_s rfl (lle_s rfl (lle_s rfl (lle_s rfl (lle_s rfl (lle_n (lle_z)))))))))
            · refine AW.iload (n := 86) (dat D_X1_hinderedBy 41 rfl) rfl rfl ?_
              refine AW.aload (n := 88) (dat D_X1_hinderedBy 42 rfl) rfl rfl ?_
              obtain ⟨v16, hc15, h⟩ := ob_some h
              refine AW.cV (n := 91) (as := []) (st := [vI y1]) (st' := [vI v16, vI y1]) (uc' := 0) (us' := 0) (A_X9_firstOfPath hΓ hpk9 hc15) cf_X9_firstOfPath (isSw_ly0 hpk9) (by have := isSw_lt hpk9; omega) vc_9 (le45 rfl) wM_X1_174 (le45 rfl) (le45 rfl) (dat D_X1_hinderedBy 43 rfl) rfl rfl (le45 rfl) (le45 rfl) rfl (fun _ => ?_) nlt0
              refine AW.aload (n := 93) (dat D_X1_hinderedBy 44 rfl) rfl rfl ?_
              refine AW.getI (n := 96) fX9_13 wF_X1_156 (isSw_ly0 hpk9) (by have := isSw_lt hpk9; omega) rfl rfl (dat D_X1_hinderedBy 45 rfl) rfl ?_
              refine AW.iadd (n := 97) (dat D_X1_hinderedBy 46 rfl) rfl ?_
              refine AW.icmp_gtH (t := 124) (n := 100) h (dat D_X1_hinderedBy 47 rfl) rfl rfl rfl rfl (fun h => ?_) (fun h => ?_)
              · cases h
                exact AW.to hJ11 (lle_s rfl (lle_s rfl (lle_s rfl (lle_s rfl (lle_s rfl (lle_s rfl (lle_s rfl (lle_n (lle_z)))))))))
              · refine AW.aload_n (n := 101) (dat D_X1_hinderedBy 48 rfl) rfl rfl ?_
                refine AW.aload_n (n := 102) (dat D_X1_hinderedBy 49 rfl) rfl rfl ?_
                refine AW.getI (n := 105) fX9_0 wF_X1_144 (isSw_ly0 hpa0) (by have := isSw_lt hpa0; omega) rfl rfl (dat D_X1_hinderedBy 50 rfl) rfl ?_
                refine AW.iload (n := 107) (dat D_X1_hinderedBy 51 rfl) rfl rfl ?_
                obtain ⟨v18, hc17, h⟩ := ob_some h
                refine AW.cV (n := 110) (as := [vI (σ a0 0), vI z4]) (st := []) (st' := [vI v18]) (uc' := 0) (us' := 0) (A_X1_rightOf hΓ hc17) cf_X1_rightOf ly_19 (le45 rfl) vc_1 (le45 rfl) wM_X1_177 (le45 rfl) (le45 rfl) (dat D_X1_hinderedBy 52 rfl) rfl rfl (le45 rfl) (le45 rfl) rfl (fun _ => ?_) nlt0
                refine AW.iload (n := 112) (dat D_X1_hinderedBy 53 rfl) rfl rfl ?_
                refine AW.icmp_neH (t := 124) (n := 115) h (dat D_X1_hinderedBy 54 rfl) rfl rfl rfl rfl (fun h => ?_) (fun h => ?_)
                · refine AW.iload (n := 117) (dat D_X1_hinderedBy 55 rfl) rfl rfl ?_
                  refine AW.iconst (n := 118) (dat D_X1_hinderedBy 56 rfl) rfl ?_
                  refine AW.iload (n := 120) (dat D_X1_hinderedBy 57 rfl) rfl rfl ?_
                  refine AW.ishl (n := 121) (dat D_X1_hinderedBy 58 rfl) rfl ?_
                  refine AW.ior (n := 122) (dat D_X1_hinderedBy 59 rfl) rfl ?_
                  refine AW.ltI h (fun x19 h => ?_)
                  refine AW.istore (n := 124) (ls' := [some (vR 19), some (vR a0), some (vI a1), some (vI a2), some (vI y1), some (vI x19), some (vI z4), some (vR k9)]) (dat D_X1_hinderedBy 60 rfl) rfl (le45 rfl) (le45 rfl) rfl rfl ?_
                  cases h
                  exact AW.to hJ11 (lle_s rfl (lle_s rfl (lle_s rfl (lle_s rfl (lle_s rfl (lle_s rfl (lle_s rfl (lle_n (lle_z)))))))))
                · cases h
                  exact AW.to hJ11 (lle_s rfl (lle_s rfl (lle_s rfl (lle_s rfl (lle_s rfl (lle_s rfl (lle_s rfl (lle_n (lle_z)))))))))
          · cases h
            exact AW.to hJ11 (lle_s rfl (lle_s rfl (lle_s rfl (lle_s rfl (lle_s rfl (lle_s rfl (lle_s rfl (lle_n (lle_z)))))))))
  refine AW.if_neH (t := 13) (n := 4) h (dat D_X1_hinderedBy 1 rfl) rfl rfl (fun h => ?_) (fun h => ?_)
  · refine AW.aload_n (n := 5) (dat D_X1_hinderedBy 2 rfl) rfl rfl ?_
    refine AW.getI (n := 8) fX9_3 wF_X1_135 (isSw_ly0 hpa0) (by have := isSw_lt hpa0; omega) rfl rfl (dat D_X1_hinderedBy 3 rfl) rfl ?_
    refine AW.iload_n (n := 9) (dat D_X1_hinderedBy 4 rfl) rfl rfl ?_
    refine AW.isub (n := 10) (dat D_X1_hinderedBy 5 rfl) rfl ?_
    refine AW.goto (t := 17) (dat D_X1_hinderedBy 6 rfl) rfl ?_
    cases h
    exact AW.to hJ2 (lle_s rfl (lle_s rfl (lle_s rfl (lle_s rfl (lle_n (lle_n (lle_n (lle_n (lle_z)))))))))
  · refine AW.aload_n (n := 14) (dat D_X1_hinderedBy 7 rfl) rfl rfl ?_
    refine AW.getI (n := 17) fX9_3 wF_X1_135 (isSw_ly0 hpa0) (by have := isSw_lt hpa0; omega) rfl rfl (dat D_X1_hinderedBy 8 rfl) rfl ?_
    cases h
    exact AW.to hJ2 (lle_s rfl (lle_s rfl (lle_s rfl (lle_s rfl (lle_n (lle_n (lle_n (lle_n (lle_z)))))))))
def L_X1_keepSeen : List (Nat × Instr × Nat) := [(0, .aload_n 0, 1), (1, .bipush 6, 2), (3, .aload_n 0, 1), (4, .getfield 72, 3), (7, .iconst 1, 1), (8, .iadd, 1), (9, .invokestatic 171, 3), (12, .putfield 72, 3), (15, .aload_n 0, 1), (16, .getfield 72, 3), (19, .iconst 1, 1), (20, .isub, 1), (21, .istore_n 2, 1), (22, .iload_n 2, 1), (23, .ifCond .le 23, 3), (26, .aload_n 0, 1), (27, .getfield 42, 3), (30, .iload_n 2, 1), (31, .aload_n 0, 1), (32, .getfield 42, 3), (35, .iload_n 2, 1), (36, .iconst 1, 1), (37, .isub, 1), (38, .iaload, 1), (39, .iastore, 1), (40, .iinc 2 (-1), 3), (43, .goto (-21), 3), (46, .aload_n 0, 1), (47, .getfield 42, 3), (50, .iconst 0, 1), (51, .iload_n 1, 1), (52, .iastore, 1), (53, .return_, 1)]
theorem D_X1_keepSeen : dOK cX1_keepSeen L_X1_keepSeen = true := by decide +kernel
theorem cf_X1_keepSeen : CFV mX1_keepSeen 1 := ⟨wI_X1_keepSeen, wS_X1_keepSeen, wN_WaveRight_Heat, wC_X1_keepSeen, rfl, ⟨by decide +kernel, by decide +kernel, by decide +kernel⟩, le45 rfl⟩
def X1_keepSeen_e22 (n : Nat) (a0 : Int) (σ6 : SG) : Option (SG) :=
  rdA 6 0 fun j7 => lt (up σ6 38 j7 a0) fun σ8 =>
  some (σ8)
def X1_keepSeen_l22 (n : Nat) (z3 : Int) (σ4 : SG) : Option ((Int × SG) ⊕ (SG)) :=
  if w32 z3 ≤ 0 then
    some (.inr σ4)
  else
    rdA 6 (z3 - 1) fun j9 =>
    rdA 6 z3 fun j10 => lt (up σ4 38 j10 (σ4 38 j9)) fun σ11 =>
    lt (z3 + (-1)) fun x12 =>
    some (.inl (x12, σ11))
def X1_keepSeen (n : Nat) (a0 : Int) (σ : SG) : Option (SG) :=
  lt (up σ 19 6 (mn32 6 ((σ 19 6) + 1))) fun σ1 =>
  lt ((σ1 19 6) - 1) fun x2 =>
  ((iter n (fun s : Int × SG => X1_keepSeen_l22 n s.1 s.2) (x2, σ1)) : Option (SG)).bind (fun s => X1_keepSeen_e22 n a0 s)
set_option maxHeartbeats 4000000 in
set_option maxRecDepth 100000 in
theorem A_X1_keepSeen {Γ : GA} (hΓ : (gl Γ).stackTraces = false) {n : Nat} {a0 : Int} {σ : SG} {τ : SG}  (h : X1_keepSeen n a0 σ = some τ) : AM Γ mX1_keepSeen 2 0 0 [vR 19, vI a0] (85, σ) (0, 0) (85, τ) := by
  refine AM.of pl_X1 rfl wC_X1_keepSeen (le45 rfl) hΓ ?_
  refine AW.to (ls'' := [some (vR 19), some (vI a0), none]) ?_ (lle_s rfl (lle_s rfl (lle_e (lle_z))))
  unfold X1_keepSeen at h
  refine AW.aload_n (n := 1) (dat D_X1_keepSeen 0 rfl) rfl rfl ?_
  refine AW.bipush (n := 3) (dat D_X1_keepSeen 1 rfl) rfl (by decide) ?_
  refine AW.aload_n (n := 4) (dat D_X1_keepSeen 2 rfl) rfl rfl ?_
  refine AW.getI (n := 7) fX1_6 wF_X1_72 ly_19 (le45 rfl) rfl rfl (dat D_X1_keepSeen 3 rfl) rfl ?_
  refine AW.iconst (n := 8) (dat D_X1_keepSeen 4 rfl) rfl ?_
  refine AW.iadd (n := 9) (dat D_X1_keepSeen 5 rfl) rfl ?_
  refine AW.mmin (n := 12) wM_X1_171 (le45 rfl) (le45 rfl) (dat D_X1_keepSeen 6 rfl) rfl ?_
  refine AW.putI (n := 15) fX1_6 wF_X1_72 ly_19 (le45 rfl) rfl rfl rfl (dat D_X1_keepSeen 7 rfl) rfl ?_
  refine AW.ltS h (fun σ1 h => ?_)
  refine AW.aload_n (n := 16) (dat D_X1_keepSeen 8 rfl) rfl rfl ?_
  refine AW.getI (n := 19) fX1_6 wF_X1_72 ly_19 (le45 rfl) rfl rfl (dat D_X1_keepSeen 9 rfl) rfl ?_
  refine AW.iconst (n := 20) (dat D_X1_keepSeen 10 rfl) rfl ?_
  refine AW.isub (n := 21) (dat D_X1_keepSeen 11 rfl) rfl ?_
  refine AW.ltI h (fun x2 h => ?_)
  refine AW.istore_n (n := 22) (ls' := [some (vR 19), some (vI a0), some (vI x2)]) (dat D_X1_keepSeen 12 rfl) rfl (le45 rfl) (le45 rfl) rfl rfl ?_
  obtain ⟨b5, hi5, hq5⟩ := ob_some h
  obtain ⟨σ6, e5⟩ : ∃ z, z = b5 := ⟨_, rfl⟩
  subst e5
  have hR5 : AW Γ mX1_keepSeen 2 (0, 0) (85, τ) 0 0 46 [some (vR 19), some (vI a0), none] [] (85, σ6) := by
    have h : X1_keepSeen_e22 n a0 σ6 = some _ := hq5
    unfold X1_keepSeen_e22 at h
    refine AW.aload_n (n := 47) (dat D_X1_keepSeen 27 rfl) rfl rfl ?_
    refine AW.getR (n := 50) (t := 38) fX1_5 wF_X1_42 ly_19 (le45 rfl) rfl (dat D_X1_keepSeen 28 rfl) rfl ?_
    refine AW.iconst (n := 51) (dat D_X1_keepSeen 29 rfl) rfl ?_
    refine AW.iload_n (n := 52) (dat D_X1_keepSeen 30 rfl) rfl rfl ?_
    refine AW.iastH h (n := 53) rfl ly_38 (le45 rfl) (dat D_X1_keepSeen 31 rfl) rfl (fun j7 h => ?_)
    refine AW.ltS h (fun σ8 h => ?_)
    cases h
    exact AW.vret rfl rfl rfl (dat D_X1_keepSeen 32 rfl)
  refine AW.to (ls'' := [some (vR 19), some (vI a0), some (vI x2)]) ?_ (lle_s rfl (lle_s rfl (lle_s rfl (lle_z))))
  refine aw_iter (fun s : Int × SG => AW Γ mX1_keepSeen 2 (0, 0) (85, τ) 0 0 22 [some (vR 19), some (vI a0), some (vI (s.1))] [] (85, s.2)) (fun s y h hk5 hb5 => ?_) _ _ hi5
  obtain ⟨z3, σ4⟩ := s
  show AW Γ mX1_keepSeen 2 (0, 0) (85, τ) 0 0 22 [some (vR 19), some (vI a0), some (vI z3)] [] (85, σ4)
  have h : X1_keepSeen_l22 n z3 σ4 = some y := h
  unfold X1_keepSeen_l22 at h
  refine AW.iload_n (n := 23) (dat D_X1_keepSeen 13 rfl) rfl rfl ?_
  refine AW.if_leH (t := 46) (n := 26) h (dat D_X1_keepSeen 14 rfl) rfl rfl (fun h => ?_) (fun h => ?_)
  · cases h
    have hb := hb5 _ rfl
    cases hb
    exact AW.to hR5 (lle_s rfl (lle_s rfl (lle_n (lle_z))))
  · refine AW.aload_n (n := 27) (dat D_X1_keepSeen 15 rfl) rfl rfl ?_
    refine AW.getR (n := 30) (t := 38) fX1_5 wF_X1_42 ly_19 (le45 rfl) rfl (dat D_X1_keepSeen 16 rfl) rfl ?_
    refine AW.iload_n (n := 31) (dat D_X1_keepSeen 17 rfl) rfl rfl ?_
    refine AW.aload_n (n := 32) (dat D_X1_keepSeen 18 rfl) rfl rfl ?_
    refine AW.getR (n := 35) (t := 38) fX1_5 wF_X1_42 ly_19 (le45 rfl) rfl (dat D_X1_keepSeen 19 rfl) rfl ?_
    refine AW.iload_n (n := 36) (dat D_X1_keepSeen 20 rfl) rfl rfl ?_
    refine AW.iconst (n := 37) (dat D_X1_keepSeen 21 rfl) rfl ?_
    refine AW.isub (n := 38) (dat D_X1_keepSeen 22 rfl) rfl ?_
    refine AW.ialdH h (n := 39) rfl ly_38 (le45 rfl) (dat D_X1_keepSeen 23 rfl) rfl (fun j9 h => ?_)
    refine AW.iastH h (n := 40) rfl ly_38 (le45 rfl) (dat D_X1_keepSeen 24 rfl) rfl (fun j10 h => ?_)
    refine AW.ltS h (fun σ11 h => ?_)
    refine AW.iincH h (n := 43) (dat D_X1_keepSeen 25 rfl) rfl rfl (le45 rfl) rfl (fun x12 h => ?_)
    refine AW.lq (ls' := [some (vR 19), some (vI a0), some (vI x12)]) rfl ?_
    refine AW.goto (t := 22) (dat D_X1_keepSeen 26 rfl) rfl ?_
    cases h
    exact AW.to (hk5 _ rfl) (lle_s rfl (lle_s rfl (lle_s rfl (lle_z))))
def L_X2_pop : List (Nat × Instr × Nat) := [(0, .aload_n 0, 1), (1, .getfield 44, 3), (4, .ifCond .le 15, 3), (7, .aload_n 0, 1), (8, .getfield 44, 3), (11, .aload_n 0, 1), (12, .getfield 31, 3), (15, .arraylength, 1), (16, .if_icmp .le 5, 3), (19, .iconst 0, 1), (20, .ireturn, 1), (21, .aload_n 0, 1), (22, .dup, 1), (23, .getfield 44, 3), (26, .iconst 1, 1), (27, .isub, 1), (28, .putfield 44, 3), (31, .aload_n 0, 1), (32, .getfield 31, 3), (35, .aload_n 0, 1), (36, .getfield 44, 3), (39, .iaload, 1), (40, .ireturn, 1)]
theorem D_X2_pop : dOK cX2_pop L_X2_pop = true := by decide +kernel
theorem cf_X2_pop : CFV mX2_pop 0 := ⟨wI_X2_pop, wS_X2_pop, wN_WaveRight_Judge, wC_X2_pop, rfl, ⟨by decide +kernel, by decide +kernel, by decide +kernel⟩, le45 rfl⟩
def X2_pop (n : Nat) (k : Nat) (σ : SG) : Option (Int × SG) :=
  if w32 (σ k 9) ≤ 0 then
    some ((0, σ))
  else
    if w32 (σ k 9) ≤ 24 then
      lt (up σ k 9 ((σ k 9) - 1)) fun σ1 =>
      rdA 24 (σ1 k 9) fun j2 =>
      some (((σ1 (k + 7) j2), σ1))
    else
      some ((0, σ))
set_option maxHeartbeats 4000000 in
set_option maxRecDepth 100000 in
theorem A_X2_pop {Γ : GA} (hΓ : (gl Γ).stackTraces = false) {n : Nat} {k : Nat} {σ : SG} {r : Int} {τ : SG} (hpk : isJudge k = true) (h : X2_pop n k σ = some (r, τ)) : AM Γ mX2_pop 1 0 0 [vR k] (85, σ) (0, r) (85, τ) := by
  refine AM.of pl_X2 rfl wC_X2_pop (le45 rfl) hΓ ?_
  refine AW.to (ls'' := [some (vR k)]) ?_ (lle_s rfl (lle_z))
  unfold X2_pop at h
  refine AW.aload_n (n := 1) (dat D_X2_pop 0 rfl) rfl rfl ?_
  refine AW.getI (n := 4) fX2_9 wF_X2_44 (isJudge_ly0 hpk) (by have := isJudge_lt hpk; omega) rfl rfl (dat D_X2_pop 1 rfl) rfl ?_
  refine AW.if_leH (t := 19) (n := 7) h (dat D_X2_pop 2 rfl) rfl rfl (fun h => ?_) (fun h => ?_)
  · refine AW.iconst (n := 20) (dat D_X2_pop 9 rfl) rfl ?_
    cases h
    exact AW.iret rfl rfl rfl (dat D_X2_pop 10 rfl)
  · refine AW.aload_n (n := 8) (dat D_X2_pop 3 rfl) rfl rfl ?_
    refine AW.getI (n := 11) fX2_9 wF_X2_44 (isJudge_ly0 hpk) (by have := isJudge_lt hpk; omega) rfl rfl (dat D_X2_pop 4 rfl) rfl ?_
    refine AW.aload_n (n := 12) (dat D_X2_pop 5 rfl) rfl rfl ?_
    refine AW.getR (n := 15) (t := k + 7) fX2_8 wF_X2_31 (isJudge_ly0 hpk) (by have := isJudge_lt hpk; omega) rfl (dat D_X2_pop 6 rfl) rfl ?_
    refine AW.alen20 (n := 16) (x := 24) (isJudge_ly7 hpk) (by have := isJudge_lt hpk; omega) rfl (dat D_X2_pop 7 rfl) rfl ?_
    refine AW.icmp_leH (t := 21) (n := 19) h (dat D_X2_pop 8 rfl) rfl rfl rfl (by decide) (fun h => ?_) (fun h => ?_)
    · refine AW.aload_n (n := 22) (dat D_X2_pop 11 rfl) rfl rfl ?_
      refine AW.dup (n := 23) (dat D_X2_pop 12 rfl) rfl (cR _) ?_
      refine AW.getI (n := 26) fX2_9 wF_X2_44 (isJudge_ly0 hpk) (by have := isJudge_lt hpk; omega) rfl rfl (dat D_X2_pop 13 rfl) rfl ?_
      refine AW.iconst (n := 27) (dat D_X2_pop 14 rfl) rfl ?_
      refine AW.isub (n := 28) (dat D_X2_pop 15 rfl) rfl ?_
      refine AW.putI (n := 31) fX2_9 wF_X2_44 (isJudge_ly0 hpk) (by have := isJudge_lt hpk; omega) rfl rfl rfl (dat D_X2_pop 16 rfl) rfl ?_
      refine AW.ltS h (fun σ1 h => ?_)
      refine AW.aload_n (n := 32) (dat D_X2_pop 17 rfl) rfl rfl ?_
      refine AW.getR (n := 35) (t := k + 7) fX2_8 wF_X2_31 (isJudge_ly0 hpk) (by have := isJudge_lt hpk; omega) rfl (dat D_X2_pop 18 rfl) rfl ?_
      refine AW.aload_n (n := 36) (dat D_X2_pop 19 rfl) rfl rfl ?_
      refine AW.getI (n := 39) fX2_9 wF_X2_44 (isJudge_ly0 hpk) (by have := isJudge_lt hpk; omega) rfl rfl (dat D_X2_pop 20 rfl) rfl ?_
      refine AW.ialdH h (n := 40) rfl (isJudge_ly7 hpk) (by have := isJudge_lt hpk; omega) (dat D_X2_pop 21 rfl) rfl (fun j2 h => ?_)
      cases h
      exact AW.iret rfl rfl rfl (dat D_X2_pop 22 rfl)
    · refine AW.iconst (n := 20) (dat D_X2_pop 9 rfl) rfl ?_
      cases h
      exact AW.iret rfl rfl rfl (dat D_X2_pop 10 rfl)
def L_X2_reckon : List (Nat × Instr × Nat) := [(0, .iload_n 1, 1), (1, .iconst 5, 1), (2, .if_icmp .ne 14, 3), (5, .iload_n 3, 1), (6, .ifCond .ne 10, 3), (9, .aload_n 0, 1), (10, .iconst 2, 1), (11, .putfield 41, 3), (14, .iconst 0, 1), (15, .ireturn, 1), (16, .iload_n 1, 1), (17, .iconst 2, 1), (18, .if_icmp .ne 11, 3), (21, .iload_n 2, 1), (22, .i2l, 1), (23, .iload_n 3, 1), (24, .i2l, 1), (25, .ladd, 1), (26, .goto 42, 3), (29, .iload_n 1, 1), (30, .iconst 3, 1), (31, .if_icmp .ne 11, 3), (34, .iload_n 2, 1), (35, .i2l, 1), (36, .iload_n 3, 1), (37, .i2l, 1), (38, .lsub, 1), (39, .goto 29, 3), (42, .iload_n 1, 1), (43, .iconst 4, 1), (44, .if_icmp .ne 11, 3), (47, .iload_n 2, 1), (48, .i2l, 1), (49, .iload_n 3, 1), (50, .i2l, 1), (51, .lmul, 1), (52, .goto 16, 3), (55, .iload_n 3, 1), (56, .ifCond .ne 7, 3), (59, .lconst 0, 1), (60, .goto 8, 3), (63, .iload_n 2, 1), (64, .i2l, 1), (65, .iload_n 3, 1), (66, .i2l, 1), (67, .ldiv, 1), (68, .lstore 4, 2), (70, .lload 4, 2), (72, .ldc2_w 78, 3), (75, .lcmp, 1), (76, .ifCond .lt 12, 3), (79, .lload 4, 2), (81, .ldc2_w 80, 3), (84, .lcmp, 1), (85, .ifCond .le 10, 3), (88, .aload_n 0, 1), (89, .iconst 1, 1), (90, .putfield 41, 3), (93, .iconst 0, 1), (94, .ireturn, 1), (95, .lload 4, 2), (97, .l2i, 1), (98, .ireturn, 1)]
theorem D_X2_reckon : dOK cX2_reckon L_X2_reckon = true := by decide +kernel
theorem cf_X2_reckon : CFV mX2_reckon 3 := ⟨wI_X2_reckon, wS_X2_reckon, wN_WaveRight_Judge, wC_X2_reckon, rfl, ⟨by decide +kernel, by decide +kernel, by decide +kernel⟩, le45 rfl⟩
def X2_reckon_j68 (n : Nat) (σ : SG) (k : Nat) (y1 : Int) : Option (Int × SG) :=
  if w32 (cmpL y1 (-2147483648)) < 0 then
    lt (up σ k 11 1) fun σ3 =>
    some ((0, σ3))
  else
    if w32 (cmpL y1 2147483647) ≤ 0 then
      some ((y1, σ))
    else
      lt (up σ k 11 1) fun σ4 =>
      some ((0, σ4))
def X2_reckon_j68x (n : Nat) (σ : SG) (k : Nat) (y6 : Int) : Option (Int × SG) :=
  if w32 (cmpL y6 (-2147483648)) < 0 then
    lt (up σ k 11 1) fun σ8 =>
    some ((0, σ8))
  else
    if w32 (cmpL y6 2147483647) ≤ 0 then
      some ((y6, σ))
    else
      lt (up σ k 11 1) fun σ9 =>
      some ((0, σ9))
def X2_reckon (n : Nat) (k : Nat) (a0 : Int) (a1 : Int) (a2 : Int) (σ : SG) : Option (Int × SG) :=
  if w32 a0 = 5 then
    if w32 a2 = 0 then
      lt (up σ k 11 2) fun σ11 =>
      some ((0, σ11))
    else
      ((if w32 a0 = 2 then
        some (((w32 a1) + (w32 a2)))
      else
        if w32 a0 = 3 then
          some (((w32 a1) - (w32 a2)))
        else
          if w32 a0 = 4 then
            some (((w32 a1) * (w32 a2)))
          else
            if w32 a2 = 0 then
              some (0)
            else
              if w64 (w32 a2) = 0 then none else
              some ((dv64 (w32 a1) (w32 a2)))) : Option (Int)).bind (fun s => X2_reckon_j68x n σ k s)
  else
    ((if w32 a0 = 2 then
      some (((w32 a1) + (w32 a2)))
    else
      if w32 a0 = 3 then
        some (((w32 a1) - (w32 a2)))
      else
        if w32 a0 = 4 then
          some (((w32 a1) * (w32 a2)))
        else
          if w32 a2 = 0 then
            some (0)
          else
            if w64 (w32 a2) = 0 then none else
            some ((dv64 (w32 a1) (w32 a2)))) : Option (Int)).bind (fun s => X2_reckon_j68 n σ k s)
set_option maxHeartbeats 4000000 in
set_option maxRecDepth 100000 in
theorem A_X2_reckon {Γ : GA} (hΓ : (gl Γ).stackTraces = false) {n : Nat} {k : Nat} {a0 : Int} {a1 : Int} {a2 : Int} {σ : SG} {r : Int} {τ : SG} (hpk : isJudge k = true) (h : X2_reckon n k a0 a1 a2 σ = some (r, τ)) : AM Γ mX2_reckon 1 0 0 [vR k, vI a0, vI a1, vI a2] (85, σ) (0, r) (85, τ) := by
  refine AM.of pl_X2 rfl wC_X2_reckon (le45 rfl) hΓ ?_
  refine AW.to (ls'' := [some (vR k), some (vI a0), some (vI a1), some (vI a2), none, none]) ?_ (lle_s rfl (lle_s rfl (lle_s rfl (lle_s rfl (lle_e (lle_e (lle_z)))))))
  unfold X2_reckon at h
  refine AW.iload_n (n := 1) (dat D_X2_reckon 0 rfl) rfl rfl ?_
  refine AW.iconst (n := 2) (dat D_X2_reckon 1 rfl) rfl ?_
  refine AW.icmp_neH (t := 16) (n := 5) h (dat D_X2_reckon 2 rfl) rfl rfl rfl (by decide) (fun h => ?_) (fun h => ?_)
  · refine AW.iload_n (n := 6) (dat D_X2_reckon 3 rfl) rfl rfl ?_
    refine AW.if_neH (t := 16) (n := 9) h (dat D_X2_reckon 4 rfl) rfl rfl (fun h => ?_) (fun h => ?_)
    · refine AW.aload_n (n := 10) (dat D_X2_reckon 5 rfl) rfl rfl ?_
      refine AW.iconst (n := 11) (dat D_X2_reckon 6 rfl) rfl ?_
      refine AW.putI (n := 14) fX2_11 wF_X2_41 (isJudge_ly0 hpk) (by have := isJudge_lt hpk; omega) rfl rfl rfl (dat D_X2_reckon 7 rfl) rfl ?_
      refine AW.ltS h (fun σ11 h => ?_)
      refine AW.iconst (n := 15) (dat D_X2_reckon 8 rfl) rfl ?_
      cases h
      exact AW.iret rfl rfl rfl (dat D_X2_reckon 9 rfl)
    · refine AW.iload_n (n := 17) (dat D_X2_reckon 10 rfl) rfl rfl ?_
      refine AW.iconst (n := 18) (dat D_X2_reckon 11 rfl) rfl ?_
      obtain ⟨s7, h, hq7⟩ := ob_some h
      obtain ⟨y6, e7⟩ : ∃ z, z = s7 := ⟨_, rfl⟩
      subst e7
      have hJ7 : AW Γ mX2_reckon 1 (0, r) (85, τ) 0 0 68 [some (vR k), none, none, none, none, none] [vL y6] (85, σ) := by
        have h : X2_reckon_j68x n σ k y6 = some _ := hq7
        unfold X2_reckon_j68x at h
        refine AW.lstore (n := 70) (ls' := [some (vR k), none, none, none, some (vL y6), none]) (dat D_X2_reckon 46 rfl) rfl (le45 rfl) (le45 rfl) rfl rfl ?_
        refine AW.lload (n := 72) (dat D_X2_reckon 47 rfl) rfl rfl ?_
        refine AW.ldc2 (n := 75) (x := (-2147483648)) (dat D_X2_reckon 48 rfl) rfl wK_X2_78 (by decide) ?_
        refine AW.lcmp (n := 76) (dat D_X2_reckon 49 rfl) rfl ?_
        refine AW.if_ltH (t := 88) (n := 79) h (dat D_X2_reckon 50 rfl) rfl rfl (fun h => ?_) (fun h => ?_)
        · refine AW.aload_n (n := 89) (dat D_X2_reckon 55 rfl) rfl rfl ?_
          refine AW.iconst (n := 90) (dat D_X2_reckon 56 rfl) rfl ?_
          refine AW.putI (n := 93) fX2_11 wF_X2_41 (isJudge_ly0 hpk) (by have := isJudge_lt hpk; omega) rfl rfl rfl (dat D_X2_reckon 57 rfl) rfl ?_
          refine AW.ltS h (fun σ8 h => ?_)
          refine AW.iconst (n := 94) (dat D_X2_reckon 58 rfl) rfl ?_
          cases h
          exact AW.iret rfl rfl rfl (dat D_X2_reckon 59 rfl)
        · refine AW.lload (n := 81) (dat D_X2_reckon 51 rfl) rfl rfl ?_
          refine AW.ldc2 (n := 84) (x := 2147483647) (dat D_X2_reckon 52 rfl) rfl wK_X2_80 (by decide) ?_
          refine AW.lcmp (n := 85) (dat D_X2_reckon 53 rfl) rfl ?_
          refine AW.if_leH (t := 95) (n := 88) h (dat D_X2_reckon 54 rfl) rfl rfl (fun h => ?_) (fun h => ?_)
          · refine AW.lload (n := 97) (dat D_X2_reckon 60 rfl) rfl rfl ?_
            refine AW.l2i (n := 98) (dat D_X2_reckon 61 rfl) rfl ?_
            cases h
            exact AW.iret rfl rfl rfl (dat D_X2_reckon 62 rfl)
          · refine AW.aload_n (n := 89) (dat D_X2_reckon 55 rfl) rfl rfl ?_
            refine AW.iconst (n := 90) (dat D_X2_reckon 56 rfl) rfl ?_
            refine AW.putI (n := 93) fX2_11 wF_X2_41 (isJudge_ly0 hpk) (by have := isJudge_lt hpk; omega) rfl rfl rfl (dat D_X2_reckon 57 rfl) rfl ?_
            refine AW.ltS h (fun σ9 h => ?_)
            refine AW.iconst (n := 94) (dat D_X2_reckon 58 rfl) rfl ?_
            cases h
            exact AW.iret rfl rfl rfl (dat D_X2_reckon 59 rfl)
      refine AW.icmp_neH (t := 29) (n := 21) h (dat D_X2_reckon 12 rfl) rfl rfl rfl (by decide) (fun h => ?_) (fun h => ?_)
      · refine AW.iload_n (n := 22) (dat D_X2_reckon 13 rfl) rfl rfl ?_
        refine AW.i2l (n := 23) (dat D_X2_reckon 14 rfl) rfl ?_
        refine AW.iload_n (n := 24) (dat D_X2_reckon 15 rfl) rfl rfl ?_
        refine AW.i2l (n := 25) (dat D_X2_reckon 16 rfl) rfl ?_
        refine AW.ladd (n := 26) (dat D_X2_reckon 17 rfl) rfl ?_
        refine AW.goto (t := 68) (dat D_X2_reckon 18 rfl) rfl ?_
        cases h
        exact AW.to hJ7 (lle_s rfl (lle_n (lle_n (lle_n (lle_n (lle_n (lle_z)))))))
      · refine AW.iload_n (n := 30) (dat D_X2_reckon 19 rfl) rfl rfl ?_
        refine AW.iconst (n := 31) (dat D_X2_reckon 20 rfl) rfl ?_
        refine AW.icmp_neH (t := 42) (n := 34) h (dat D_X2_reckon 21 rfl) rfl rfl rfl (by decide) (fun h => ?_) (fun h => ?_)
        · refine AW.iload_n (n := 35) (dat D_X2_reckon 22 rfl) rfl rfl ?_
          refine AW.i2l (n := 36) (dat D_X2_reckon 23 rfl) rfl ?_
          refine AW.iload_n (n := 37) (dat D_X2_reckon 24 rfl) rfl rfl ?_
          refine AW.i2l (n := 38) (dat D_X2_reckon 25 rfl) rfl ?_
          refine AW.lsub (n := 39) (dat D_X2_reckon 26 rfl) rfl ?_
          refine AW.goto (t := 68) (dat D_X2_reckon 27 rfl) rfl ?_
          cases h
          exact AW.to hJ7 (lle_s rfl (lle_n (lle_n (lle_n (lle_n (lle_n (lle_z)))))))
        · refine AW.iload_n (n := 43) (dat D_X2_reckon 28 rfl) rfl rfl ?_
          refine AW.iconst (n := 44) (dat D_X2_reckon 29 rfl) rfl ?_
          refine AW.icmp_neH (t := 55) (n := 47) h (dat D_X2_reckon 30 rfl) rfl rfl rfl (by decide) (fun h => ?_) (fun h => ?_)
          · refine AW.iload_n (n := 48) (dat D_X2_reckon 31 rfl) rfl rfl ?_
            refine AW.i2l (n := 49) (dat D_X2_reckon 32 rfl) rfl ?_
            refine AW.iload_n (n := 50) (dat D_X2_reckon 33 rfl) rfl rfl ?_
            refine AW.i2l (n := 51) (dat D_X2_reckon 34 rfl) rfl ?_
            refine AW.lmul (n := 52) (dat D_X2_reckon 35 rfl) rfl ?_
            refine AW.goto (t := 68) (dat D_X2_reckon 36 rfl) rfl ?_
            cases h
            exact AW.to hJ7 (lle_s rfl (lle_n (lle_n (lle_n (lle_n (lle_n (lle_z)))))))
          · refine AW.iload_n (n := 56) (dat D_X2_reckon 37 rfl) rfl rfl ?_
            refine AW.if_neH (t := 63) (n := 59) h (dat D_X2_reckon 38 rfl) rfl rfl (fun h => ?_) (fun h => ?_)
            · refine AW.lconst (n := 60) (x := 0) (dat D_X2_reckon 39 rfl) rfl (by decide) ?_
              refine AW.goto (t := 68) (dat D_X2_reckon 40 rfl) rfl ?_
              cases h
              exact AW.to hJ7 (lle_s rfl (lle_n (lle_n (lle_n (lle_n (lle_n (lle_z)))))))
            · refine AW.iload_n (n := 64) (dat D_X2_reckon 41 rfl) rfl rfl ?_
              refine AW.i2l (n := 65) (dat D_X2_reckon 42 rfl) rfl ?_
              refine AW.iload_n (n := 66) (dat D_X2_reckon 43 rfl) rfl rfl ?_
              refine AW.i2l (n := 67) (dat D_X2_reckon 44 rfl) rfl ?_
              obtain ⟨q10, h⟩ := ite_n h
              refine AW.ldiv (n := 68) (dat D_X2_reckon 45 rfl) rfl q10 ?_
              cases h
              exact AW.to hJ7 (lle_s rfl (lle_n (lle_n (lle_n (lle_n (lle_n (lle_z)))))))
  · refine AW.iload_n (n := 17) (dat D_X2_reckon 10 rfl) rfl rfl ?_
    refine AW.iconst (n := 18) (dat D_X2_reckon 11 rfl) rfl ?_
    obtain ⟨s2, h, hq2⟩ := ob_some h
    obtain ⟨y1, e2⟩ : ∃ z, z = s2 := ⟨_, rfl⟩
    subst e2
    have hJ2 : AW Γ mX2_reckon 1 (0, r) (85, τ) 0 0 68 [some (vR k), none, none, none, none, none] [vL y1] (85, σ) := by
      have h : X2_reckon_j68 n σ k y1 = some _ := hq2
      unfold X2_reckon_j68 at h
      refine AW.lstore (n := 70) (ls' := [some (vR k), none, none, none, some (vL y1), none]) (dat D_X2_reckon 46 rfl) rfl (le45 rfl) (le45 rfl) rfl rfl ?_
      refine AW.lload (n := 72) (dat D_X2_reckon 47 rfl) rfl rfl ?_
      refine AW.ldc2 (n := 75) (x := (-2147483648)) (dat D_X2_reckon 48 rfl) rfl wK_X2_78 (by decide) ?_
      refine AW.lcmp (n := 76) (dat D_X2_reckon 49 rfl) rfl ?_
      refine AW.if_ltH (t := 88) (n := 79) h (dat D_X2_reckon 50 rfl) rfl rfl (fun h => ?_) (fun h => ?_)
      · refine AW.aload_n (n := 89) (dat D_X2_reckon 55 rfl) rfl rfl ?_
        refine AW.iconst (n := 90) (dat D_X2_reckon 56 rfl) rfl ?_
        refine AW.putI (n := 93) fX2_11 wF_X2_41 (isJudge_ly0 hpk) (by have := isJudge_lt hpk; omega) rfl rfl rfl (dat D_X2_reckon 57 rfl) rfl ?_
        refine AW.ltS h (fun σ3 h => ?_)
        refine AW.iconst (n := 94) (dat D_X2_reckon 58 rfl) rfl ?_
        cases h
        exact AW.iret rfl rfl rfl (dat D_X2_reckon 59 rfl)
      · refine AW.lload (n := 81) (dat D_X2_reckon 51 rfl) rfl rfl ?_
        refine AW.ldc2 (n := 84) (x := 2147483647) (dat D_X2_reckon 52 rfl) rfl wK_X2_80 (by decide) ?_
        refine AW.lcmp (n := 85) (dat D_X2_reckon 53 rfl) rfl ?_
        refine AW.if_leH (t := 95) (n := 88) h (dat D_X2_reckon 54 rfl) rfl rfl (fun h => ?_) (fun h => ?_)
        · refine AW.lload (n := 97) (dat D_X2_reckon 60 rfl) rfl rfl ?_
          refine AW.l2i (n := 98) (dat D_X2_reckon 61 rfl) rfl ?_
          cases h
          exact AW.iret rfl rfl rfl (dat D_X2_reckon 62 rfl)
        · refine AW.aload_n (n := 89) (dat D_X2_reckon 55 rfl) rfl rfl ?_
          refine AW.iconst (n := 90) (dat D_X2_reckon 56 rfl) rfl ?_
          refine AW.putI (n := 93) fX2_11 wF_X2_41 (isJudge_ly0 hpk) (by have := isJudge_lt hpk; omega) rfl rfl rfl (dat D_X2_reckon 57 rfl) rfl ?_
          refine AW.ltS h (fun σ4 h => ?_)
          refine AW.iconst (n := 94) (dat D_X2_reckon 58 rfl) rfl ?_
          cases h
          exact AW.iret rfl rfl rfl (dat D_X2_reckon 59 rfl)
    refine AW.icmp_neH (t := 29) (n := 21) h (dat D_X2_reckon 12 rfl) rfl rfl rfl (by decide) (fun h => ?_) (fun h => ?_)
    · refine AW.iload_n (n := 22) (dat D_X2_reckon 13 rfl) rfl rfl ?_
      refine AW.i2l (n := 23) (dat D_X2_reckon 14 rfl) rfl ?_
      refine AW.iload_n (n := 24) (dat D_X2_reckon 15 rfl) rfl rfl ?_
      refine AW.i2l (n := 25) (dat D_X2_reckon 16 rfl) rfl ?_
      refine AW.ladd (n := 26) (dat D_X2_reckon 17 rfl) rfl ?_
      refine AW.goto (t := 68) (dat D_X2_reckon 18 rfl) rfl ?_
      cases h
      exact AW.to hJ2 (lle_s rfl (lle_n (lle_n (lle_n (lle_n (lle_n (lle_z)))))))
    · refine AW.iload_n (n := 30) (dat D_X2_reckon 19 rfl) rfl rfl ?_
      refine AW.iconst (n := 31) (dat D_X2_reckon 20 rfl) rfl ?_
      refine AW.icmp_neH (t := 42) (n := 34) h (dat D_X2_reckon 21 rfl) rfl rfl rfl (by decide) (fun h => ?_) (fun h => ?_)
      · refine AW.iload_n (n := 35) (dat D_X2_reckon 22 rfl) rfl rfl ?_
        refine AW.i2l (n := 36) (dat D_X2_reckon 23 rfl) rfl ?_
        refine AW.iload_n (n := 37) (dat D_X2_reckon 24 rfl) rfl rfl ?_
        refine AW.i2l (n := 38) (dat D_X2_reckon 25 rfl) rfl ?_
        refine AW.lsub (n := 39) (dat D_X2_reckon 26 rfl) rfl ?_
        refine AW.goto (t := 68) (dat D_X2_reckon 27 rfl) rfl ?_
        cases h
        exact AW.to hJ2 (lle_s rfl (lle_n (lle_n (lle_n (lle_n (lle_n (lle_z)))))))
      · refine AW.iload_n (n := 43) (dat D_X2_reckon 28 rfl) rfl rfl ?_
        refine AW.iconst (n := 44) (dat D_X2_reckon 29 rfl) rfl ?_
        refine AW.icmp_neH (t := 55) (n := 47) h (dat D_X2_reckon 30 rfl) rfl rfl rfl (by decide) (fun h => ?_) (fun h => ?_)
        · refine AW.iload_n (n := 48) (dat D_X2_reckon 31 rfl) rfl rfl ?_
          refine AW.i2l (n := 49) (dat D_X2_reckon 32 rfl) rfl ?_
          refine AW.iload_n (n := 50) (dat D_X2_reckon 33 rfl) rfl rfl ?_
          refine AW.i2l (n := 51) (dat D_X2_reckon 34 rfl) rfl ?_
          refine AW.lmul (n := 52) (dat D_X2_reckon 35 rfl) rfl ?_
          refine AW.goto (t := 68) (dat D_X2_reckon 36 rfl) rfl ?_
          cases h
          exact AW.to hJ2 (lle_s rfl (lle_n (lle_n (lle_n (lle_n (lle_n (lle_z)))))))
        · refine AW.iload_n (n := 56) (dat D_X2_reckon 37 rfl) rfl rfl ?_
          refine AW.if_neH (t := 63) (n := 59) h (dat D_X2_reckon 38 rfl) rfl rfl (fun h => ?_) (fun h => ?_)
          · refine AW.lconst (n := 60) (x := 0) (dat D_X2_reckon 39 rfl) rfl (by decide) ?_
            refine AW.goto (t := 68) (dat D_X2_reckon 40 rfl) rfl ?_
            cases h
            exact AW.to hJ2 (lle_s rfl (lle_n (lle_n (lle_n (lle_n (lle_n (lle_z)))))))
          · refine AW.iload_n (n := 64) (dat D_X2_reckon 41 rfl) rfl rfl ?_
            refine AW.i2l (n := 65) (dat D_X2_reckon 42 rfl) rfl ?_
            refine AW.iload_n (n := 66) (dat D_X2_reckon 43 rfl) rfl rfl ?_
            refine AW.i2l (n := 67) (dat D_X2_reckon 44 rfl) rfl ?_
            obtain ⟨q5, h⟩ := ite_n h
            refine AW.ldiv (n := 68) (dat D_X2_reckon 45 rfl) rfl q5 ?_
            cases h
            exact AW.to hJ2 (lle_s rfl (lle_n (lle_n (lle_n (lle_n (lle_n (lle_z)))))))
def L_X2_push : List (Nat × Instr × Nat) := [(0, .aload_n 0, 1), (1, .getfield 44, 3), (4, .ifCond .lt 32, 3), (7, .aload_n 0, 1), (8, .getfield 44, 3), (11, .aload_n 0, 1), (12, .getfield 31, 3), (15, .arraylength, 1), (16, .if_icmp .ge 20, 3), (19, .aload_n 0, 1), (20, .getfield 31, 3), (23, .aload_n 0, 1), (24, .dup, 1), (25, .getfield 44, 3), (28, .dup_x1, 1), (29, .iconst 1, 1), (30, .iadd, 1), (31, .putfield 44, 3), (34, .iload_n 1, 1), (35, .iastore, 1), (36, .return_, 1)]
theorem D_X2_push : dOK cX2_push L_X2_push = true := by decide +kernel
theorem cf_X2_push : CFV mX2_push 1 := ⟨wI_X2_push, wS_X2_push, wN_WaveRight_Judge, wC_X2_push, rfl, ⟨by decide +kernel, by decide +kernel, by decide +kernel⟩, le45 rfl⟩
def X2_push (n : Nat) (k : Nat) (a0 : Int) (σ : SG) : Option (SG) :=
  if w32 (σ k 9) < 0 then
    some (σ)
  else
    if 24 ≤ w32 (σ k 9) then
      some (σ)
    else
      lt (up σ k 9 ((σ k 9) + 1)) fun σ1 =>
      rdA 24 (σ k 9) fun j2 => lt (up σ1 (k + 7) j2 a0) fun σ3 =>
      some (σ3)
set_option maxHeartbeats 4000000 in
set_option maxRecDepth 100000 in
theorem A_X2_push {Γ : GA} (hΓ : (gl Γ).stackTraces = false) {n : Nat} {k : Nat} {a0 : Int} {σ : SG} {τ : SG} (hpk : isJudge k = true) (h : X2_push n k a0 σ = some τ) : AM Γ mX2_push 1 0 0 [vR k, vI a0] (85, σ) (0, 0) (85, τ) := by
  refine AM.of pl_X2 rfl wC_X2_push (le45 rfl) hΓ ?_
  refine AW.to (ls'' := [some (vR k), some (vI a0)]) ?_ (lle_s rfl (lle_s rfl (lle_z)))
  unfold X2_push at h
  refine AW.aload_n (n := 1) (dat D_X2_push 0 rfl) rfl rfl ?_
  refine AW.getI (n := 4) fX2_9 wF_X2_44 (isJudge_ly0 hpk) (by have := isJudge_lt hpk; omega) rfl rfl (dat D_X2_push 1 rfl) rfl ?_
  refine AW.if_ltH (t := 36) (n := 7) h (dat D_X2_push 2 rfl) rfl rfl (fun h => ?_) (fun h => ?_)
  · cases h
    exact AW.vret rfl rfl rfl (dat D_X2_push 20 rfl)
  · refine AW.aload_n (n := 8) (dat D_X2_push 3 rfl) rfl rfl ?_
    refine AW.getI (n := 11) fX2_9 wF_X2_44 (isJudge_ly0 hpk) (by have := isJudge_lt hpk; omega) rfl rfl (dat D_X2_push 4 rfl) rfl ?_
    refine AW.aload_n (n := 12) (dat D_X2_push 5 rfl) rfl rfl ?_
    refine AW.getR (n := 15) (t := k + 7) fX2_8 wF_X2_31 (isJudge_ly0 hpk) (by have := isJudge_lt hpk; omega) rfl (dat D_X2_push 6 rfl) rfl ?_
    refine AW.alen20 (n := 16) (x := 24) (isJudge_ly7 hpk) (by have := isJudge_lt hpk; omega) rfl (dat D_X2_push 7 rfl) rfl ?_
    refine AW.icmp_geH (t := 36) (n := 19) h (dat D_X2_push 8 rfl) rfl rfl rfl (by decide) (fun h => ?_) (fun h => ?_)
    · cases h
      exact AW.vret rfl rfl rfl (dat D_X2_push 20 rfl)
    · refine AW.aload_n (n := 20) (dat D_X2_push 9 rfl) rfl rfl ?_
      refine AW.getR (n := 23) (t := k + 7) fX2_8 wF_X2_31 (isJudge_ly0 hpk) (by have := isJudge_lt hpk; omega) rfl (dat D_X2_push 10 rfl) rfl ?_
      refine AW.aload_n (n := 24) (dat D_X2_push 11 rfl) rfl rfl ?_
      refine AW.dup (n := 25) (dat D_X2_push 12 rfl) rfl (cR _) ?_
      refine AW.getI (n := 28) fX2_9 wF_X2_44 (isJudge_ly0 hpk) (by have := isJudge_lt hpk; omega) rfl rfl (dat D_X2_push 13 rfl) rfl ?_
      refine AW.dup_x1 (n := 29) (dat D_X2_push 14 rfl) rfl (cI _) (cR _) ?_
      refine AW.iconst (n := 30) (dat D_X2_push 15 rfl) rfl ?_
      refine AW.iadd (n := 31) (dat D_X2_push 16 rfl) rfl ?_
      refine AW.putI (n := 34) fX2_9 wF_X2_44 (isJudge_ly0 hpk) (by have := isJudge_lt hpk; omega) rfl rfl rfl (dat D_X2_push 17 rfl) rfl ?_
      refine AW.ltS h (fun σ1 h => ?_)
      refine AW.iload_n (n := 35) (dat D_X2_push 18 rfl) rfl rfl ?_
      refine AW.iastH h (n := 36) rfl (isJudge_ly7 hpk) (by have := isJudge_lt hpk; omega) (dat D_X2_push 19 rfl) rfl (fun j2 h => ?_)
      refine AW.ltS h (fun σ3 h => ?_)
      cases h
      exact AW.vret rfl rfl rfl (dat D_X2_push 20 rfl)
def L_X2_run : List (Nat × Instr × Nat) := [(0, .iload_n 1, 1), (1, .istore_n 3, 1), (2, .iload_n 3, 1), (3, .ifCond .lt 280, 3), (6, .iload_n 3, 1), (7, .iload_n 2, 1), (8, .if_icmp .ge 275, 3), (11, .iload_n 3, 1), (12, .aload_n 0, 1), (13, .getfield 34, 3), (16, .if_icmp .ge 267, 3), (19, .aload_n 0, 1), (20, .getfield 41, 3), (23, .ifCond .ne 260, 3), (26, .aload_n 0, 1), (27, .getfield 9, 3), (30, .iload_n 3, 1), (31, .iaload, 1), (32, .istore 4, 2), (34, .aload_n 0, 1), (35, .getfield 15, 3), (38, .iload_n 3, 1), (39, .iaload, 1), (40, .istore 5, 2), (42, .iload 4, 2), (44, .ifCond .ne 12, 3), (47, .aload_n 0, 1), (48, .iload 5, 2), (50, .invokevirtual 72, 3), (53, .goto 224, 3), (56, .iload 4, 2), (58, .iconst 1, 1), (59, .if_icmp .ne 33, 3), (62, .aload_n 0, 1), (63, .iload 5, 2), (65, .ifCond .lt 20, 3), (68, .iload 5, 2), (70, .bipush 8, 2), (72, .if_icmp .ge 13, 3), (75, .aload_n 0, 1), (76, .getfield 28, 3), (79, .iload 5, 2), (81, .iaload, 1), (82, .goto 4, 3), (85, .iconst 0, 1), (86, .invokevirtual 72, 3), (89, .goto 188, 3), (92, .iload 4, 2), (94, .bipush 9, 2), (96, .if_icmp .ne 22, 3), (99, .aload_n 0, 1), (100, .aload_n 0, 1), (101, .getfield 47, 3), (104, .ifCond .ne 7, 3), (107, .iconst 1, 1), (108, .goto 4, 3), (111, .iconst 0, 1), (112, .putfield 47, 3), (115, .goto 162, 3), (118, .iload 4, 2), (120, .bipush 10, 2), (122, .if_icmp .eq 10, 3), (125, .iload 4, 2), (127, .bipush 11, 2), (129, .if_icmp .ne 38, 3), (132, .aload_n 0, 1), (133, .getfield 47, 3), (136, .iload 4, 2), (138, .bipush 10, 2), (140, .if_icmp .ne 7, 3), (143, .iconst 1, 1), (144, .goto 4, 3), (147, .iconst 0, 1), (148, .if_icmp .ne 14, 3), (151, .iload_n 3, 1), (152, .iload 5, 2), (154, .iconst 1, 1), (155, .isub, 1), (156, .invokestatic 69, 3), (159, .goto 4, 3), (162, .iload_n 3, 1), (163, .istore_n 3, 1), (164, .goto 113, 3), (167, .aload_n 0, 1), (168, .invokevirtual 55, 3), (171, .istore 6, 2), (173, .aload_n 0, 1), (174, .invokevirtual 55, 3), (177, .istore 7, 2), (179, .iload 4, 2), (181, .bipush 6, 2), (183, .if_icmp .eq 17, 3), (186, .iload 4, 2), (188, .bipush 7, 2), (190, .if_icmp .eq 10, 3), (193, .iload 4, 2), (195, .bipush 8, 2), (197, .if_icmp .ne 66, 3), (200, .aload_n 0, 1), (201, .iload 4, 2), (203, .bipush 6, 2), (205, .if_icmp .ne 18, 3), (208, .iload 7, 2), (210, .iload 6, 2), (212, .if_icmp .ge 7, 3), (215, .iconst 1, 1), (216, .goto 41, 3), (219, .iconst 0, 1), (220, .goto 37, 3), (223, .iload 4, 2), (225, .bipush 7, 2), (227, .if_icmp .ne 18, 3), (230, .iload 7, 2), (232, .iload 6, 2), (234, .if_icmp .ne 7, 3), (237, .iconst 1, 1), (238, .goto 19, 3), (241, .iconst 0, 1), (242, .goto 15, 3), (245, .iload 7, 2), (247, .iload 6, 2), (249, .if_icmp .le 7, 3), (252, .iconst 1, 1), (253, .goto 4, 3), (256, .iconst 0, 1), (257, .putfield 47, 3), (260, .goto 17, 3), (263, .aload_n 0, 1), (264, .aload_n 0, 1), (265, .iload 4, 2), (267, .iload 7, 2), (269, .iload 6, 2), (271, .invokevirtual 59, 3), (274, .invokevirtual 72, 3), (277, .iinc 3 1, 3), (280, .goto (-278), 3), (283, .return_, 1)]
theorem D_X2_run : dOK cX2_run L_X2_run = true := by decide +kernel
theorem cf_X2_run : CFV mX2_run 2 := ⟨wI_X2_run, wS_X2_run, wN_WaveRight_Judge, wC_X2_run, rfl, ⟨by decide +kernel, by decide +kernel, by decide +kernel⟩, le45 rfl⟩
def X2_run_e2 (n : Nat) (σ4 : SG) : Option (SG) :=
  some (σ4)
def X2_run_j277 (n : Nat) (y9 : Int) (σ10 : SG) : Option ((Int × SG) ⊕ (SG)) :=
  lt (y9 + 1) fun x12 =>
  some (.inl (x12, σ10))
def X2_run_j163 (n : Nat) (σ2 : SG) (y15 : Int) : Option (Int × SG) :=
  some ((y15, σ2))
def X2_run_j148 (n : Nat) (σ2 : SG) (k : Nat) (z1 : Int) (x8 : Int) (y13 : Int) : Option (Int × SG) :=
  ((if w32 (σ2 k 10) = w32 y13 then
    some ((mx32 z1 (x8 - 1)))
  else
    some (z1)) : Option (Int)).bind (fun s => X2_run_j163 n σ2 s)
def X2_run_j257 (n : Nat) (σ22 : SG) (k : Nat) (z1 : Int) (y23 : Int) : Option (Int × SG) :=
  if y23 = 0 ∨ y23 = 1 then
  lt (up σ22 k 10 y23) fun σ25 =>
  some ((z1, σ25))
  else none
def X2_run_j257x (n : Nat) (σ22 : SG) (k : Nat) (z1 : Int) (y27 : Int) : Option (Int × SG) :=
  if y27 = 0 ∨ y27 = 1 then
  lt (up σ22 k 10 y27) fun σ29 =>
  some ((z1, σ29))
  else none
def X2_run_j257xx (n : Nat) (σ22 : SG) (k : Nat) (z1 : Int) (y36 : Int) : Option (Int × SG) :=
  if y36 = 0 ∨ y36 = 1 then
  lt (up σ22 k 10 y36) fun σ38 =>
  some ((z1, σ38))
  else none
def X2_run_j163x (n : Nat) (σ2 : SG) (y42 : Int) : Option (Int × SG) :=
  some ((y42, σ2))
def X2_run_j148x (n : Nat) (σ2 : SG) (k : Nat) (z1 : Int) (x8 : Int) (y40 : Int) : Option (Int × SG) :=
  ((if w32 (σ2 k 10) = w32 y40 then
    some ((mx32 z1 (x8 - 1)))
  else
    some (z1)) : Option (Int)).bind (fun s => X2_run_j163x n σ2 s)
def X2_run_j112 (n : Nat) (σ2 : SG) (k : Nat) (z1 : Int) (y44 : Int) : Option (Int × SG) :=
  if y44 = 0 ∨ y44 = 1 then
  lt (up σ2 k 10 y44) fun σ46 =>
  some ((z1, σ46))
  else none
def X2_run_j86 (n : Nat) (k : Nat) (σ2 : SG) (z1 : Int) (y48 : Int) : Option (Int × SG) :=
  (X2_push n k y48 σ2).bind fun σ51 =>
  some ((z1, σ51))
def X2_run_l2 (n : Nat) (a1 : Int) (k : Nat) (z1 : Int) (σ2 : SG) : Option ((Int × SG) ⊕ (SG)) :=
  if w32 z1 < 0 then
    some (.inr σ2)
  else
    if w32 a1 ≤ w32 z1 then
      some (.inr σ2)
    else
      if w32 (σ2 k 2) ≤ w32 z1 then
        some (.inr σ2)
      else
        if w32 (σ2 k 11) = 0 then
          rdA 400 z1 fun j5 =>
          lt (σ2 (k + 1) j5) fun x6 =>
          rdA 400 z1 fun j7 =>
          lt (σ2 (k + 2) j7) fun x8 =>
          ((if w32 x6 = 0 then
            (X2_push n k x8 σ2).bind fun σ54 =>
            some ((z1, σ54))
          else
            if w32 x6 = 1 then
              ((if w32 x8 < 0 then
                some (0)
              else
                if 8 ≤ w32 x8 then
                  some (0)
                else
                  rdA 8 x8 fun j52 =>
                  some ((σ2 (k + 6) j52))) : Option (Int)).bind (fun s => X2_run_j86 n k σ2 z1 s)
            else
              if w32 x6 = 9 then
                ((if w32 (σ2 k 10) = 0 then
                  some (1)
                else
                  some (0)) : Option (Int)).bind (fun s => X2_run_j112 n σ2 k z1 s)
              else
                if w32 x6 = 10 then
                  ((if w32 x6 = 10 then
                    some (1)
                  else
                    some (0)) : Option (Int)).bind (fun s => X2_run_j148 n σ2 k z1 x8 s)
                else
                  if w32 x6 = 11 then
                    ((if w32 x6 = 10 then
                      some (1)
                    else
                      some (0)) : Option (Int)).bind (fun s => X2_run_j148x n σ2 k z1 x8 s)
                  else
                    bnd2 (X2_pop n k σ2) fun v18 σ19 =>
                    bnd2 (X2_pop n k σ19) fun v21 σ22 =>
                    if w32 x6 = 6 then
                      ((if w32 x6 = 6 then
                        if w32 v18 ≤ w32 v21 then
                          some (0)
                        else
                          some (1)
                      else
                        if w32 x6 = 7 then
                          if w32 v21 = w32 v18 then
                            some (1)
                          else
                            some (0)
                        else
                          if w32 v21 ≤ w32 v18 then
                            some (0)
                          else
                            some (1)) : Option (Int)).bind (fun s => X2_run_j257 n σ22 k z1 s)
                    else
                      if w32 x6 = 7 then
                        ((if w32 x6 = 6 then
                          if w32 v18 ≤ w32 v21 then
                            some (0)
                          else
                            some (1)
                        else
                          if w32 x6 = 7 then
                            if w32 v21 = w32 v18 then
                              some (1)
                            else
                              some (0)
                          else
                            if w32 v21 ≤ w32 v18 then
                              some (0)
                            else
                              some (1)) : Option (Int)).bind (fun s => X2_run_j257x n σ22 k z1 s)
                      else
                        if w32 x6 = 8 then
                          ((if w32 x6 = 6 then
                            if w32 v18 ≤ w32 v21 then
                              some (0)
                            else
                              some (1)
                          else
                            if w32 x6 = 7 then
                              if w32 v21 = w32 v18 then
                                some (1)
                              else
                                some (0)
                            else
                              if w32 v21 ≤ w32 v18 then
                                some (0)
                              else
                                some (1)) : Option (Int)).bind (fun s => X2_run_j257xx n σ22 k z1 s)
                        else
                          bnd2 (X2_reckon n k x6 v21 v18 σ22) fun v32 σ33 =>
                          (X2_push n k v32 σ33).bind fun σ35 =>
                          some ((z1, σ35))) : Option (Int × SG)).bind (fun s => X2_run_j277 n s.1 s.2)
        else
          some (.inr σ2)
def X2_run (n : Nat) (k : Nat) (a0 : Int) (a1 : Int) (σ : SG) : Option (SG) :=
  ((iter n (fun s : Int × SG => X2_run_l2 n a1 k s.1 s.2) (a0, σ)) : Option (SG)).bind (fun s => X2_run_e2 n s)
set_option maxHeartbeats 4000000 in
set_option maxRecDepth 100000 in
theorem A_X2_run {Γ : GA} (hΓ : (gl Γ).stackTraces = false) {n : Nat} {k : Nat} {a0 : Int} {a1 : Int} {σ : SG} {τ : SG} (hpk : isJudge k = true) (h : X2_run n k a0 a1 σ = some τ) : AM Γ mX2_run 2 0 0 [vR k, vI a0, vI a1] (85, σ) (0, 0) (85, τ) := by
  refine AM.of pl_X2 rfl wC_X2_run (le45 rfl) hΓ ?_
  refine AW.to (ls'' := [some (vR k), some (vI a0), some (vI a1), none, none, none, none, none]) ?_ (lle_s rfl (lle_s rfl (lle_s rfl (lle_e (lle_e (lle_e (lle_e (lle_e (lle_z)))))))))
  unfold X2_run at h
  refine AW.iload_n (n := 1) (dat D_X2_run 0 rfl) rfl rfl ?_
  refine AW.istore_n (n := 2) (ls' := [some (vR k), some (vI a0), some (vI a1), some (vI a0), none, none, none, none]) (dat D_X2_run 1 rfl) rfl (le45 rfl) (le45 rfl) rfl rfl ?_
  obtain ⟨b3, hi3, hq3⟩ := ob_some h
  obtain ⟨σ4, e3⟩ : ∃ z, z = b3 := ⟨_, rfl⟩
  subst e3
  have hR3 : AW Γ mX2_run 2 (0, 0) (85, τ) 0 0 283 [none, none, none, none, none, none, none, none] [] (85, σ4) := by
    have h : X2_run_e2 n σ4 = some _ := hq3
    unfold X2_run_e2 at h
    cases h
    exact AW.vret rfl rfl rfl (dat D_X2_run 136 rfl)
  refine AW.to (ls'' := [some (vR k), none, some (vI a1), some (vI a0), none, none, none, none]) ?_ (lle_s rfl (lle_n (lle_s rfl (lle_s rfl (lle_n (lle_n (lle_n (lle_n (lle_z)))))))))
  refine aw_iter (fun s : Int × SG => AW Γ mX2_run 2 (0, 0) (85, τ) 0 0 2 [some (vR k), none, some (vI a1), some (vI (s.1)), none, none, none, none] [] (85, s.2)) (fun s y h hk3 hb3 => ?_) _ _ hi3
  obtain ⟨z1, σ2⟩ := s
  show AW Γ mX2_run 2 (0, 0) (85, τ) 0 0 2 [some (vR k), none, some (vI a1), some (vI z1), none, none, none, none] [] (85, σ2)
  have h : X2_run_l2 n a1 k z1 σ2 = some y := h
  unfold X2_run_l2 at h
  refine AW.iload_n (n := 3) (dat D_X2_run 2 rfl) rfl rfl ?_
  refine AW.if_ltH (t := 283) (n := 6) h (dat D_X2_run 3 rfl) rfl rfl (fun h => ?_) (fun h => ?_)
  · cases h
    have hb := hb3 _ rfl
    cases hb
    exact AW.to hR3 (lle_n (lle_n (lle_n (lle_n (lle_n (lle_n (lle_n (lle_n (lle_z)))))))))
  · refine AW.iload_n (n := 7) (dat D_X2_run 4 rfl) rfl rfl ?_
    refine AW.iload_n (n := 8) (dat D_X2_run 5 rfl) rfl rfl ?_
    refine AW.icmp_geH (t := 283) (n := 11) h (dat D_X2_run 6 rfl) rfl rfl rfl rfl (fun h => ?_) (fun h => ?_)
    · cases h
      have hb := hb3 _ rfl
      cases hb
      exact AW.to hR3 (lle_n (lle_n (lle_n (lle_n (lle_n (lle_n (lle_n (lle_n (lle_z)))))))))
    · refine AW.iload_n (n := 12) (dat D_X2_run 7 rfl) rfl rfl ?_
      refine AW.aload_n (n := 13) (dat D_X2_run 8 rfl) rfl rfl ?_
      refine AW.getI (n := 16) fX2_2 wF_X2_34 (isJudge_ly0 hpk) (by have := isJudge_lt hpk; omega) rfl rfl (dat D_X2_run 9 rfl) rfl ?_
      refine AW.icmp_geH (t := 283) (n := 19) h (dat D_X2_run 10 rfl) rfl rfl rfl rfl (fun h => ?_) (fun h => ?_)
      · cases h
        have hb := hb3 _ rfl
        cases hb
        exact AW.to hR3 (lle_n (lle_n (lle_n (lle_n (lle_n (lle_n (lle_n (lle_n (lle_z)))))))))
      · refine AW.aload_n (n := 20) (dat D_X2_run 11 rfl) rfl rfl ?_
        refine AW.getI (n := 23) fX2_11 wF_X2_41 (isJudge_ly0 hpk) (by have := isJudge_lt hpk; omega) rfl rfl (dat D_X2_run 12 rfl) rfl ?_
        refine AW.if_neH (t := 283) (n := 26) h (dat D_X2_run 13 rfl) rfl rfl (fun h => ?_) (fun h => ?_)
        · refine AW.aload_n (n := 27) (dat D_X2_run 14 rfl) rfl rfl ?_
          refine AW.getR (n := 30) (t := k + 1) fX2_0 wF_X2_9 (isJudge_ly0 hpk) (by have := isJudge_lt hpk; omega) rfl (dat D_X2_run 15 rfl) rfl ?_
          refine AW.iload_n (n := 31) (dat D_X2_run 16 rfl) rfl rfl ?_
          refine AW.ialdH h (n := 32) rfl (isJudge_ly1 hpk) (by have := isJudge_lt hpk; omega) (dat D_X2_run 17 rfl) rfl (fun j5 h => ?_)
          refine AW.ltI h (fun x6 h => ?_)
          refine AW.istore (n := 34) (ls' := [some (vR k), none, some (vI a1), some (vI z1), some (vI x6), none, none, none]) (dat D_X2_run 18 rfl) rfl (le45 rfl) (le45 rfl) rfl rfl ?_
          refine AW.aload_n (n := 35) (dat D_X2_run 19 rfl) rfl rfl ?_
          refine AW.getR (n := 38) (t := k + 2) fX2_1 wF_X2_15 (isJudge_ly0 hpk) (by have := isJudge_lt hpk; omega) rfl (dat D_X2_run 20 rfl) rfl ?_
          refine AW.iload_n (n := 39) (dat D_X2_run 21 rfl) rfl rfl ?_
          refine AW.ialdH h (n := 40) rfl (isJudge_ly2 hpk) (by have := isJudge_lt hpk; omega) (dat D_X2_run 22 rfl) rfl (fun j7 h => ?_)
          refine AW.ltI h (fun x8 h => ?_)
          refine AW.istore (n := 42) (ls' := [some (vR k), none, some (vI a1), some (vI z1), some (vI x6), some (vI x8), none, none]) (dat D_X2_run 23 rfl) rfl (le45 rfl) (le45 rfl) rfl rfl ?_
          refine AW.iload (n := 44) (dat D_X2_run 24 rfl) rfl rfl ?_
          obtain ⟨s11, h, hq11⟩ := ob_some h
          obtain ⟨y9, σ10⟩ := s11
          have hJ11 : AW Γ mX2_run 2 (0, 0) (85, τ) 0 0 277 [some (vR k), none, some (vI a1), some (vI y9), none, none, none, none] [] (85, σ10) := by
            have h : X2_run_j277 n y9 σ10 = some _ := hq11
            unfold X2_run_j277 at h
            refine AW.iincH h (n := 280) (dat D_X2_run 134 rfl) rfl rfl (le45 rfl) rfl (fun x12 h => ?_)
            refine AW.lq (ls' := [some (vR k), none, some (vI a1), some (vI x12), none, none, none, none]) rfl ?_
            refine AW.goto (t := 2) (dat D_X2_run 135 rfl) rfl ?_
            cases h
            exact AW.to (hk3 _ rfl) (lle_s rfl (lle_n (lle_s rfl (lle_s rfl (lle_n (lle_n (lle_n (lle_n (lle_z)))))))))
          refine AW.if_neH (t := 56) (n := 47) h (dat D_X2_run 25 rfl) rfl rfl (fun h => ?_) (fun h => ?_)
          · refine AW.aload_n (n := 48) (dat D_X2_run 26 rfl) rfl rfl ?_
            refine AW.iload (n := 50) (dat D_X2_run 27 rfl) rfl rfl ?_
            obtain ⟨σ54, hc53, h⟩ := ob_some h
            refine AW.cV (n := 53) (as := [vI x8]) (st := []) (st' := []) (uc' := 0) (us' := 0) (A_X2_push hΓ hpk hc53) cf_X2_push (isJudge_ly0 hpk) (by have := isJudge_lt hpk; omega) vc_2 (le45 rfl) wM_X2_72 (le45 rfl) (le45 rfl) (dat D_X2_run 28 rfl) rfl rfl (le45 rfl) (le45 rfl) rfl (fun _ => ?_) nlt0
            refine AW.goto (t := 277) (dat D_X2_run 29 rfl) rfl ?_
            cases h
            exact AW.to hJ11 (lle_s rfl (lle_n (lle_s rfl (lle_s rfl (lle_n (lle_n (lle_n (lle_n (lle_z)))))))))
          · refine AW.iload (n := 58) (dat D_X2_run 30 rfl) rfl rfl ?_
            refine AW.iconst (n := 59) (dat D_X2_run 31 rfl) rfl ?_
            refine AW.icmp_neH (t := 92) (n := 62) h (dat D_X2_run 32 rfl) rfl rfl rfl (by decide) (fun h => ?_) (fun h => ?_)
            · refine AW.aload_n (n := 63) (dat D_X2_run 33 rfl) rfl rfl ?_
              refine AW.iload (n := 65) (dat D_X2_run 34 rfl) rfl rfl ?_
              obtain ⟨s49, h, hq49⟩ := ob_some h
              obtain ⟨y48, e49⟩ : ∃ z, z = s49 := ⟨_, rfl⟩
              subst e49
              have hJ49 : AW Γ mX2_run 2 (0, 0) (85, τ) 0 0 86 [some (vR k), none, some (vI a1), some (vI z1), none, none, none, none] [vI y48, vR k] (85, σ2) := by
                have h : X2_run_j86 n k σ2 z1 y48 = some _ := hq49
                unfold X2_run_j86 at h
                obtain ⟨σ51, hc50, h⟩ := ob_some h
                refine AW.cV (n := 89) (as := [vI y48]) (st := []) (st' := []) (uc' := 0) (us' := 0) (A_X2_push hΓ hpk hc50) cf_X2_push (isJudge_ly0 hpk) (by have := isJudge_lt hpk; omega) vc_2 (le45 rfl) wM_X2_72 (le45 rfl) (le45 rfl) (dat D_X2_run 45 rfl) rfl rfl (le45 rfl) (le45 rfl) rfl (fun _ => ?_) nlt0
                refine AW.goto (t := 277) (dat D_X2_run 46 rfl) rfl ?_
                cases h
                exact AW.to hJ11 (lle_s rfl (lle_n (lle_s rfl (lle_s rfl (lle_n (lle_n (lle_n (lle_n (lle_z)))))))))
              refine AW.if_ltH (t := 85) (n := 68) h (dat D_X2_run 35 rfl) rfl rfl (fun h => ?_) (fun h => ?_)
              · refine AW.iconst (n := 86) (dat D_X2_run 44 rfl) rfl ?_
                cases h
                exact AW.to hJ49 (lle_s rfl (lle_n (lle_s rfl (lle_s rfl (lle_n (lle_n (lle_n (lle_n (lle_z)))))))))
              · refine AW.iload (n := 70) (dat D_X2_run 36 rfl) rfl rfl ?_
                refine AW.bipush (n := 72) (dat D_X2_run 37 rfl) rfl (by decide) ?_
                refine AW.icmp_geH (t := 85) (n := 75) h (dat D_X2_run 38 rfl) rfl rfl rfl (by decide) (fun h => ?_) (fun h => ?_)
                · refine AW.iconst (n := 86) (dat D_X2_run 44 rfl) rfl ?_
                  cases h
                  exact AW.to hJ49 (lle_s rfl (lle_n (lle_s rfl (lle_s rfl (lle_n (lle_n (lle_n (lle_n (lle_z)))))))))
                · refine AW.aload_n (n := 76) (dat D_X2_run 39 rfl) rfl rfl ?_
                  refine AW.getR (n := 79) (t := k + 6) fX2_7 wF_X2_28 (isJudge_ly0 hpk) (by have := isJudge_lt hpk; omega) rfl (dat D_X2_run 40 rfl) rfl ?_
                  refine AW.iload (n := 81) (dat D_X2_run 41 rfl) rfl rfl ?_
                  refine AW.ialdH h (n := 82) rfl (isJudge_ly6 hpk) (by have := isJudge_lt hpk; omega) (dat D_X2_run 42 rfl) rfl (fun j52 h => ?_)
                  refine AW.goto (t := 86) (dat D_X2_run 43 rfl) rfl ?_
                  cases h
                  exact AW.to hJ49 (lle_s rfl (lle_n (lle_s rfl (lle_s rfl (lle_n (lle_n (lle_n (lle_n (lle_z)))))))))
            · refine AW.iload (n := 94) (dat D_X2_run 47 rfl) rfl rfl ?_
              refine AW.bipush (n := 96) (dat D_X2_run 48 rfl) rfl (by decide) ?_
              refine AW.icmp_neH (t := 118) (n := 99) h (dat D_X2_run 49 rfl) rfl rfl rfl (by decide) (fun h => ?_) (fun h => ?_)
              · refine AW.aload_n (n := 100) (dat D_X2_run 50 rfl) rfl rfl ?_
                refine AW.aload_n (n := 101) (dat D_X2_run 51 rfl) rfl rfl ?_
                refine AW.getI (n := 104) fX2_10 wF_X2_47 (isJudge_ly0 hpk) (by have := isJudge_lt hpk; omega) rfl rfl (dat D_X2_run 52 rfl) rfl ?_
                obtain ⟨s45, h, hq45⟩ := ob_some h
                obtain ⟨y44, e45⟩ : ∃ z, z = s45 := ⟨_, rfl⟩
                subst e45
                have hJ45 : AW Γ mX2_run 2 (0, 0) (85, τ) 0 0 112 [some (vR k), none, some (vI a1), some (vI z1), none, none, none, none] [vI y44, vR k] (85, σ2) := by
                  have h : X2_run_j112 n σ2 k z1 y44 = some _ := hq45
                  unfold X2_run_j112 at h
                  obtain ⟨q47, h⟩ := ite_y h
                  refine AW.putZ (n := 115) q47 fX2_10 wF_X2_47 (isJudge_ly0 hpk) (by have := isJudge_lt hpk; omega) rfl rfl rfl (dat D_X2_run 57 rfl) rfl ?_
                  refine AW.ltS h (fun σ46 h => ?_)
                  refine AW.goto (t := 277) (dat D_X2_run 58 rfl) rfl ?_
                  cases h
                  exact AW.to hJ11 (lle_s rfl (lle_n (lle_s rfl (lle_s rfl (lle_n (lle_n (lle_n (lle_n (lle_z)))))))))
                refine AW.if_neH (t := 111) (n := 107) h (dat D_X2_run 53 rfl) rfl rfl (fun h => ?_) (fun h => ?_)
                · refine AW.iconst (n := 108) (dat D_X2_run 54 rfl) rfl ?_
                  refine AW.goto (t := 112) (dat D_X2_run 55 rfl) rfl ?_
                  cases h
                  exact AW.to hJ45 (lle_s rfl (lle_n (lle_s rfl (lle_s rfl (lle_n (lle_n (lle_n (lle_n (lle_z)))))))))
                · refine AW.iconst (n := 112) (dat D_X2_run 56 rfl) rfl ?_
                  cases h
                  exact AW.to hJ45 (lle_s rfl (lle_n (lle_s rfl (lle_s rfl (lle_n (lle_n (lle_n (lle_n (lle_z)))))))))
              · refine AW.iload (n := 120) (dat D_X2_run 59 rfl) rfl rfl ?_
                refine AW.bipush (n := 122) (dat D_X2_run 60 rfl) rfl (by decide) ?_
                refine AW.icmp_eqH (t := 132) (n := 125) h (dat D_X2_run 61 rfl) rfl rfl rfl (by decide) (fun h => ?_) (fun h => ?_)
                · refine AW.aload_n (n := 133) (dat D_X2_run 65 rfl) rfl rfl ?_
                  refine AW.getI (n := 136) fX2_10 wF_X2_47 (isJudge_ly0 hpk) (by have := isJudge_lt hpk; omega) rfl rfl (dat D_X2_run 66 rfl) rfl ?_
                  refine AW.iload (n := 138) (dat D_X2_run 67 rfl) rfl rfl ?_
                  refine AW.bipush (n := 140) (dat D_X2_run 68 rfl) rfl (by decide) ?_
                  obtain ⟨s14, h, hq14⟩ := ob_some h
                  obtain ⟨y13, e14⟩ : ∃ z, z = s14 := ⟨_, rfl⟩
                  subst e14
                  have hJ14 : AW Γ mX2_run 2 (0, 0) (85, τ) 0 0 148 [some (vR k), none, some (vI a1), some (vI z1), none, some (vI x8), none, none] [vI y13, vI (σ2 k 10)] (85, σ2) := by
                    have h : X2_run_j148 n σ2 k z1 x8 y13 = some _ := hq14
                    unfold X2_run_j148 at h
                    obtain ⟨s16, h, hq16⟩ := ob_some h
                    obtain ⟨y15, e16⟩ : ∃ z, z = s16 := ⟨_, rfl⟩
                    subst e16
                    have hJ16 : AW Γ mX2_run 2 (0, 0) (85, τ) 0 0 163 [some (vR k), none, some (vI a1), none, none, none, none, none] [vI y15] (85, σ2) := by
                      have h : X2_run_j163 n σ2 y15 = some _ := hq16
                      unfold X2_run_j163 at h
                      refine AW.istore_n (n := 164) (ls' := [some (vR k), none, some (vI a1), some (vI y15), none, none, none, none]) (dat D_X2_run 81 rfl) rfl (le45 rfl) (le45 rfl) rfl rfl ?_
                      refine AW.goto (t := 277) (dat D_X2_run 82 rfl) rfl ?_
                      cases h
                      exact AW.to hJ11 (lle_s rfl (lle_n (lle_s rfl (lle_s rfl (lle_n (lle_n (lle_n (lle_n (lle_z)))))))))
                    refine AW.icmp_neH (t := 162) (n := 151) h (dat D_X2_run 73 rfl) rfl rfl rfl rfl (fun h => ?_) (fun h => ?_)
                    · refine AW.iload_n (n := 152) (dat D_X2_run 74 rfl) rfl rfl ?_
                      refine AW.iload (n := 154) (dat D_X2_run 75 rfl) rfl rfl ?_
                      refine AW.iconst (n := 155) (dat D_X2_run 76 rfl) rfl ?_
                      refine AW.isub (n := 156) (dat D_X2_run 77 rfl) rfl ?_
                      refine AW.mmax (n := 159) wM_X2_69 (le45 rfl) (le45 rfl) (dat D_X2_run 78 rfl) rfl ?_
                      refine AW.goto (t := 163) (dat D_X2_run 79 rfl) rfl ?_
                      cases h
                      exact AW.to hJ16 (lle_s rfl (lle_n (lle_s rfl (lle_n (lle_n (lle_n (lle_n (lle_n (lle_z)))))))))
                    · refine AW.iload_n (n := 163) (dat D_X2_run 80 rfl) rfl rfl ?_
                      cases h
                      exact AW.to hJ16 (lle_s rfl (lle_n (lle_s rfl (lle_n (lle_n (lle_n (lle_n (lle_n (lle_z)))))))))
                  refine AW.icmp_neH (t := 147) (n := 143) h (dat D_X2_run 69 rfl) rfl rfl rfl (by decide) (fun h => ?_) (fun h => ?_)
                  · refine AW.iconst (n := 144) (dat D_X2_run 70 rfl) rfl ?_
                    refine AW.goto (t := 148) (dat D_X2_run 71 rfl) rfl ?_
                    cases h
                    exact AW.to hJ14 (lle_s rfl (lle_n (lle_s rfl (lle_s rfl (lle_n (lle_s rfl (lle_n (lle_n (lle_z)))))))))
                  · refine AW.iconst (n := 148) (dat D_X2_run 72 rfl) rfl ?_
                    cases h
                    exact AW.to hJ14 (lle_s rfl (lle_n (lle_s rfl (lle_s rfl (lle_n (lle_s rfl (lle_n (lle_n (lle_z)))))))))
                · refine AW.iload (n := 127) (dat D_X2_run 62 rfl) rfl rfl ?_
                  refine AW.bipush (n := 129) (dat D_X2_run 63 rfl) rfl (by decide) ?_
                  refine AW.icmp_neH (t := 167) (n := 132) h (dat D_X2_run 64 rfl) rfl rfl rfl (by decide) (fun h => ?_) (fun h => ?_)
                  · refine AW.aload_n (n := 133) (dat D_X2_run 65 rfl) rfl rfl ?_
                    refine AW.getI (n := 136) fX2_10 wF_X2_47 (isJudge_ly0 hpk) (by have := isJudge_lt hpk; omega) rfl rfl (dat D_X2_run 66 rfl) rfl ?_
                    refine AW.iload (n := 138) (dat D_X2_run 67 rfl) rfl rfl ?_
                    refine AW.bipush (n := 140) (dat D_X2_run 68 rfl) rfl (by decide) ?_
                    obtain ⟨s41, h, hq41⟩ := ob_some h
                    obtain ⟨y40, e41⟩ : ∃ z, z = s41 := ⟨_, rfl⟩
                    subst e41
                    have hJ41 : AW Γ mX2_run 2 (0, 0) (85, τ) 0 0 148 [some (vR k), none, some (vI a1), some (vI z1), none, some (vI x8), none, none] [vI y40, vI (σ2 k 10)] (85, σ2) := by
                      have h : X2_run_j148x n σ2 k z1 x8 y40 = some _ := hq41
                      unfold X2_run_j148x at h
                      obtain ⟨s43, h, hq43⟩ := ob_some h
                      obtain ⟨y42, e43⟩ : ∃ z, z = s43 := ⟨_, rfl⟩
                      subst e43
                      have hJ43 : AW Γ mX2_run 2 (0, 0) (85, τ) 0 0 163 [some (vR k), none, some (vI a1), none, none, none, none, none] [vI y42] (85, σ2) := by
                        have h : X2_run_j163x n σ2 y42 = some _ := hq43
                        unfold X2_run_j163x at h
                        refine AW.istore_n (n := 164) (ls' := [some (vR k), none, some (vI a1), some (vI y42), none, none, none, none]) (dat D_X2_run 81 rfl) rfl (le45 rfl) (le45 rfl) rfl rfl ?_
                        refine AW.goto (t := 277) (dat D_X2_run 82 rfl) rfl ?_
                        cases h
                        exact AW.to hJ11 (lle_s rfl (lle_n (lle_s rfl (lle_s rfl (lle_n (lle_n (lle_n (lle_n (lle_z)))))))))
                      refine AW.icmp_neH (t := 162) (n := 151) h (dat D_X2_run 73 rfl) rfl rfl rfl rfl (fun h => ?_) (fun h => ?_)
                      · refine AW.iload_n (n := 152) (dat D_X2_run 74 rfl) rfl rfl ?_
                        refine AW.iload (n := 154) (dat D_X2_run 75 rfl) rfl rfl ?_
                        refine AW.iconst (n := 155) (dat D_X2_run 76 rfl) rfl ?_
                        refine AW.isub (n := 156) (dat D_X2_run 77 rfl) rfl ?_
                        refine AW.mmax (n := 159) wM_X2_69 (le45 rfl) (le45 rfl) (dat D_X2_run 78 rfl) rfl ?_
                        refine AW.goto (t := 163) (dat D_X2_run 79 rfl) rfl ?_
                        cases h
                        exact AW.to hJ43 (lle_s rfl (lle_n (lle_s rfl (lle_n (lle_n (lle_n (lle_n (lle_n (lle_z)))))))))
                      · refine AW.iload_n (n := 163) (dat D_X2_run 80 rfl) rfl rfl ?_
                        cases h
                        exact AW.to hJ43 (lle_s rfl (lle_n (lle_s rfl (lle_n (lle_n (lle_n (lle_n (lle_n (lle_z)))))))))
                    refine AW.icmp_neH (t := 147) (n := 143) h (dat D_X2_run 69 rfl) rfl rfl rfl (by decide) (fun h => ?_) (fun h => ?_)
                    · refine AW.iconst (n := 144) (dat D_X2_run 70 rfl) rfl ?_
                      refine AW.goto (t := 148) (dat D_X2_run 71 rfl) rfl ?_
                      cases h
                      exact AW.to hJ41 (lle_s rfl (lle_n (lle_s rfl (lle_s rfl (lle_n (lle_s rfl (lle_n (lle_n (lle_z)))))))))
                    · refine AW.iconst (n := 148) (dat D_X2_run 72 rfl) rfl ?_
                      cases h
                      exact AW.to hJ41 (lle_s rfl (lle_n (lle_s rfl (lle_s rfl (lle_n (lle_s rfl (lle_n (lle_n (lle_z)))))))))
                  · refine AW.aload_n (n := 168) (dat D_X2_run 83 rfl) rfl rfl ?_
                    obtain ⟨v18, σ19, hc17, h⟩ := bnd2_some h
                    refine AW.cV (n := 171) (as := []) (st := []) (st' := [vI v18]) (uc' := 0) (us' := 0) (A_X2_pop hΓ hpk hc17) cf_X2_pop (isJudge_ly0 hpk) (by have := isJudge_lt hpk; omega) vc_2 (le45 rfl) wM_X2_55 (le45 rfl) (le45 rfl) (dat D_X2_run 84 rfl) rfl rfl (le45 rfl) (le45 rfl) rfl (fun _ => ?_) nlt0
                    refine AW.istore (n := 173) (ls' := [some (vR k), none, some (vI a1), some (vI z1), some (vI x6), some (vI x8), some (vI v18), none]) (dat D_X2_run 85 rfl) rfl (le45 rfl) (le45 rfl) rfl rfl ?_
                    refine AW.aload_n (n := 174) (dat D_X2_run 86 rfl) rfl rfl ?_
                    obtain ⟨v21, σ22, hc20, h⟩ := bnd2_some h
                    refine AW.cV (n := 177) (as := []) (st := []) (st' := [vI v21]) (uc' := 0) (us' := 0) (A_X2_pop hΓ hpk hc20) cf_X2_pop (isJudge_ly0 hpk) (by have := isJudge_lt hpk; omega) vc_2 (le45 rfl) wM_X2_55 (le45 rfl) (le45 rfl) (dat D_X2_run 87 rfl) rfl rfl (le45 rfl) (le45 rfl) rfl (fun _ => ?_) nlt0
                    refine AW.istore (n := 179) (ls' := [some (vR k), none, some (vI a1), some (vI z1), some (vI x6), some (vI x8), some (vI v18), some (vI v21)]) (dat D_X2_run 88 rfl) rfl (le45 rfl) (le45 rfl) rfl rfl ?_
                    refine AW.iload (n := 181) (dat D_X2_run 89 rfl) rfl rfl ?_
                    refine AW.bipush (n := 183) (dat D_X2_run 90 rfl) rfl (by decide) ?_
                    refine AW.icmp_eqH (t := 200) (n := 186) h (dat D_X2_run 91 rfl) rfl rfl rfl (by decide) (fun h => ?_) (fun h => ?_)
                    · refine AW.aload_n (n := 201) (dat D_X2_run 98 rfl) rfl rfl ?_
                      refine AW.iload (n := 203) (dat D_X2_run 99 rfl) rfl rfl ?_
                      refine AW.bipush (n := 205) (dat D_X2_run 100 rfl) rfl (by decide) ?_
                      obtain ⟨s24, h, hq24⟩ := ob_some h
                      obtain ⟨y23, e24⟩ : ∃ z, z = s24 := ⟨_, rfl⟩
                      subst e24
                      have hJ24 : AW Γ mX2_run 2 (0, 0) (85, τ) 0 0 257 [some (vR k), none, some (vI a1), some (vI z1), none, none, none, none] [vI y23, vR k] (85, σ22) := by
                        have h : X2_run_j257 n σ22 k z1 y23 = some _ := hq24
                        unfold X2_run_j257 at h
                        obtain ⟨q26, h⟩ := ite_y h
                        refine AW.putZ (n := 260) q26 fX2_10 wF_X2_47 (isJudge_ly0 hpk) (by have := isJudge_lt hpk; omega) rfl rfl rfl (dat D_X2_run 125 rfl) rfl ?_
                        refine AW.ltS h (fun σ25 h => ?_)
                        refine AW.goto (t := 277) (dat D_X2_run 126 rfl) rfl ?_
                        cases h
                        exact AW.to hJ11 (lle_s rfl (lle_n (lle_s rfl (lle_s rfl (lle_n (lle_n (lle_n (lle_n (lle_z)))))))))
                      refine AW.icmp_neH (t := 223) (n := 208) h (dat D_X2_run 101 rfl) rfl rfl rfl (by decide) (fun h => ?_) (fun h => ?_)
                      · refine AW.iload (n := 210) (dat D_X2_run 102 rfl) rfl rfl ?_
                        refine AW.iload (n := 212) (dat D_X2_run 103 rfl) rfl rfl ?_
                        refine AW.icmp_geH (t := 219) (n := 215) h (dat D_X2_run 104 rfl) rfl rfl rfl rfl (fun h => ?_) (fun h => ?_)
                        · refine AW.iconst (n := 220) (dat D_X2_run 107 rfl) rfl ?_
                          refine AW.goto (t := 257) (dat D_X2_run 108 rfl) rfl ?_
                          cases h
                          exact AW.to hJ24 (lle_s rfl (lle_n (lle_s rfl (lle_s rfl (lle_n (lle_n (lle_n (lle_n (lle_z)))))))))
                        · refine AW.iconst (n := 216) (dat D_X2_run 105 rfl) rfl ?_
                          refine AW.goto (t := 257) (dat D_X2_run 106 rfl) rfl ?_
                          cases h
                          exact AW.to hJ24 (lle_s rfl (lle_n (lle_s rfl (lle_s rfl (lle_n (lle_n (lle_n (lle_n (lle_z)))))))))
                      · refine AW.iload (n := 225) (dat D_X2_run 109 rfl) rfl rfl ?_
                        refine AW.bipush (n := 227) (dat D_X2_run 110 rfl) rfl (by decide) ?_
                        refine AW.icmp_neH (t := 245) (n := 230) h (dat D_X2_run 111 rfl) rfl rfl rfl (by decide) (fun h => ?_) (fun h => ?_)
                        · refine AW.iload (n := 232) (dat D_X2_run 112 rfl) rfl rfl ?_
                          refine AW.iload (n := 234) (dat D_X2_run 113 rfl) rfl rfl ?_
                          refine AW.icmp_neH (t := 241) (n := 237) h (dat D_X2_run 114 rfl) rfl rfl rfl rfl (fun h => ?_) (fun h => ?_)
                          · refine AW.iconst (n := 238) (dat D_X2_run 115 rfl) rfl ?_
                            refine AW.goto (t := 257) (dat D_X2_run 116 rfl) rfl ?_
                            cases h
                            exact AW.to hJ24 (lle_s rfl (lle_n (lle_s rfl (lle_s rfl (lle_n (lle_n (lle_n (lle_n (lle_z)))))))))
                          · refine AW.iconst (n := 242) (dat D_X2_run 117 rfl) rfl ?_
                            refine AW.goto (t := 257) (dat D_X2_run 118 rfl) rfl ?_
                            cases h
                            exact AW.to hJ24 (lle_s rfl (lle_n (lle_s rfl (lle_s rfl (lle_n (lle_n (lle_n (lle_n (lle_z)))))))))
                        · refine AW.iload (n := 247) (dat D_X2_run 119 rfl) rfl rfl ?_
                          refine AW.iload (n := 249) (dat D_X2_run 120 rfl) rfl rfl ?_
                          refine AW.icmp_leH (t := 256) (n := 252) h (dat D_X2_run 121 rfl) rfl rfl rfl rfl (fun h => ?_) (fun h => ?_)
                          · refine AW.iconst (n := 257) (dat D_X2_run 124 rfl) rfl ?_
                            cases h
                            exact AW.to hJ24 (lle_s rfl (lle_n (lle_s rfl (lle_s rfl (lle_n (lle_n (lle_n (lle_n (lle_z)))))))))
                          · refine AW.iconst (n := 253) (dat D_X2_run 122 rfl) rfl ?_
                            refine AW.goto (t := 257) (dat D_X2_run 123 rfl) rfl ?_
                            cases h
                            exact AW.to hJ24 (lle_s rfl (lle_n (lle_s rfl (lle_s rfl (lle_n (lle_n (lle_n (lle_n (lle_z)))))))))
                    · refine AW.iload (n := 188) (dat D_X2_run 92 rfl) rfl rfl ?_
                      refine AW.bipush (n := 190) (dat D_X2_run 93 rfl) rfl (by decide) ?_
                      refine AW.icmp_eqH (t := 200) (n := 193) h (dat D_X2_run 94 rfl) rfl rfl rfl (by decide) (fun h => ?_) (fun h => ?_)
                      · refine AW.aload_n (n := 201) (dat D_X2_run 98 rfl) rfl rfl ?_
                        refine AW.iload (n := 203) (dat D_X2_run 99 rfl) rfl rfl ?_
                        refine AW.bipush (n := 205) (dat D_X2_run 100 rfl) rfl (by decide) ?_
                        obtain ⟨s28, h, hq28⟩ := ob_some h
                        obtain ⟨y27, e28⟩ : ∃ z, z = s28 := ⟨_, rfl⟩
                        subst e28
                        have hJ28 : AW Γ mX2_run 2 (0, 0) (85, τ) 0 0 257 [some (vR k), none, some (vI a1), some (vI z1), none, none, none, none] [vI y27, vR k] (85, σ22) := by
                          have h : X2_run_j257x n σ22 k z1 y27 = some _ := hq28
                          unfold X2_run_j257x at h
                          obtain ⟨q30, h⟩ := ite_y h
                          refine AW.putZ (n := 260) q30 fX2_10 wF_X2_47 (isJudge_ly0 hpk) (by have := isJudge_lt hpk; omega) rfl rfl rfl (dat D_X2_run 125 rfl) rfl ?_
                          refine AW.ltS h (fun σ29 h => ?_)
                          refine AW.goto (t := 277) (dat D_X2_run 126 rfl) rfl ?_
                          cases h
                          exact AW.to hJ11 (lle_s rfl (lle_n (lle_s rfl (lle_s rfl (lle_n (lle_n (lle_n (lle_n (lle_z)))))))))
                        refine AW.icmp_neH (t := 223) (n := 208) h (dat D_X2_run 101 rfl) rfl rfl rfl (by decide) (fun h => ?_) (fun h => ?_)
                        · refine AW.iload (n := 210) (dat D_X2_run 102 rfl) rfl rfl ?_
                          refine AW.iload (n := 212) (dat D_X2_run 103 rfl) rfl rfl ?_
                          refine AW.icmp_geH (t := 219) (n := 215) h (dat D_X2_run 104 rfl) rfl rfl rfl rfl (fun h => ?_) (fun h => ?_)
                          · refine AW.iconst (n := 220) (dat D_X2_run 107 rfl) rfl ?_
                            refine AW.goto (t := 257) (dat D_X2_run 108 rfl) rfl ?_
                            cases h
                            exact AW.to hJ28 (lle_s rfl (lle_n (lle_s rfl (lle_s rfl (lle_n (lle_n (lle_n (lle_n (lle_z)))))))))
                          · refine AW.iconst (n := 216) (dat D_X2_run 105 rfl) rfl ?_
                            refine AW.goto (t := 257) (dat D_X2_run 106 rfl) rfl ?_
                            cases h
                            exact AW.to hJ28 (lle_s rfl (lle_n (lle_s rfl (lle_s rfl (lle_n (lle_n (lle_n (lle_n (lle_z)))))))))
                        · refine AW.iload (n := 225) (dat D_X2_run 109 rfl) rfl rfl ?_
                          refine AW.bipush (n := 227) (dat D_X2_run 110 rfl) rfl (by decide) ?_
                          refine AW.icmp_neH (t := 245) (n := 230) h (dat D_X2_run 111 rfl) rfl rfl rfl (by decide) (fun h => ?_) (fun h => ?_)
                          · refine AW.iload (n := 232) (dat D_X2_run 112 rfl) rfl rfl ?_
                            refine AW.iload (n := 234) (dat D_X2_run 113 rfl) rfl rfl ?_
                            refine AW.icmp_neH (t := 241) (n := 237) h (dat D_X2_run 114 rfl) rfl rfl rfl rfl (fun h => ?_) (fun h => ?_)
                            · refine AW.iconst (n := 238) (dat D_X2_run 115 rfl) rfl ?_
                              refine AW.goto (t := 257) (dat D_X2_run 116 rfl) rfl ?_
                              cases h
                              exact AW.to hJ28 (lle_s rfl (lle_n (lle_s rfl (lle_s rfl (lle_n (lle_n (lle_n (lle_n (lle_z)))))))))
                            · refine AW.iconst (n := 242) (dat D_X2_run 117 rfl) rfl ?_
                              refine AW.goto (t := 257) (dat D_X2_run 118 rfl) rfl ?_
                              cases h
                              exact AW.to hJ28 (lle_s rfl (lle_n (lle_s rfl (lle_s rfl (lle_n (lle_n (lle_n (lle_n (lle_z)))))))))
                          · refine AW.iload (n := 247) (dat D_X2_run 119 rfl) rfl rfl ?_
                            refine AW.iload (n := 249) (dat D_X2_run 120 rfl) rfl rfl ?_
                            refine AW.icmp_leH (t := 256) (n := 252) h (dat D_X2_run 121 rfl) rfl rfl rfl rfl (fun h => ?_) (fun h => ?_)
                            · refine AW.iconst (n := 257) (dat D_X2_run 124 rfl) rfl ?_
                              cases h
                              exact AW.to hJ28 (lle_s rfl (lle_n (lle_s rfl (lle_s rfl (lle_n (lle_n (lle_n (lle_n (lle_z)))))))))
                            · refine AW.iconst (n := 253) (dat D_X2_run 122 rfl) rfl ?_
                              refine AW.goto (t := 257) (dat D_X2_run 123 rfl) rfl ?_
                              cases h
                              exact AW.to hJ28 (lle_s rfl (lle_n (lle_s rfl (lle_s rfl (lle_n (lle_n (lle_n (lle_n (lle_z)))))))))
                      · refine AW.iload (n := 195) (dat D_X2_run 95 rfl) rfl rfl ?_
                        refine AW.bipush (n := 197) (dat D_X2_run 96 rfl) rfl (by decide) ?_
                        refine AW.icmp_neH (t := 263) (n := 200) h (dat D_X2_run 97 rfl) rfl rfl rfl (by decide) (fun h => ?_) (fun h => ?_)
                        · refine AW.aload_n (n := 201) (dat D_X2_run 98 rfl) rfl rfl ?_
                          refine AW.iload (n := 203) (dat D_X2_run 99 rfl) rfl rfl ?_
                          refine AW.bipush (n := 205) (dat D_X2_run 100 rfl) rfl (by decide) ?_
                          obtain ⟨s37, h, hq37⟩ := ob_some h
                          obtain ⟨y36, e37⟩ : ∃ z, z = s37 := ⟨_, rfl⟩
                          subst e37
                          have hJ37 : AW Γ mX2_run 2 (0, 0) (85, τ) 0 0 257 [some (vR k), none, some (vI a1), some (vI z1), none, none, none, none] [vI y36, vR k] (85, σ22) := by
                            have h : X2_run_j257xx n σ22 k z1 y36 = some _ := hq37
                            unfold X2_run_j257xx at h
                            obtain ⟨q39, h⟩ := ite_y h
                            refine AW.putZ (n := 260) q39 fX2_10 wF_X2_47 (isJudge_ly0 hpk) (by have := isJudge_lt hpk; omega) rfl rfl rfl (dat D_X2_run 125 rfl) rfl ?_
                            refine AW.ltS h (fun σ38 h => ?_)
                            refine AW.goto (t := 277) (dat D_X2_run 126 rfl) rfl ?_
                            cases h
                            exact AW.to hJ11 (lle_s rfl (lle_n (lle_s rfl (lle_s rfl (lle_n (lle_n (lle_n (lle_n (lle_z)))))))))
                          refine AW.icmp_neH (t := 223) (n := 208) h (dat D_X2_run 101 rfl) rfl rfl rfl (by decide) (fun h => ?_) (fun h => ?_)
                          · refine AW.iload (n := 210) (dat D_X2_run 102 rfl) rfl rfl ?_
                            refine AW.iload (n := 212) (dat D_X2_run 103 rfl) rfl rfl ?_
                            refine AW.icmp_geH (t := 219) (n := 215) h (dat D_X2_run 104 rfl) rfl rfl rfl rfl (fun h => ?_) (fun h => ?_)
                            · refine AW.iconst (n := 220) (dat D_X2_run 107 rfl) rfl ?_
                              refine AW.goto (t := 257) (dat D_X2_run 108 rfl) rfl ?_
                              cases h
                              exact AW.to hJ37 (lle_s rfl (lle_n (lle_s rfl (lle_s rfl (lle_n (lle_n (lle_n (lle_n (lle_z)))))))))
                            · refine AW.iconst (n := 216) (dat D_X2_run 105 rfl) rfl ?_
                              refine AW.goto (t := 257) (dat D_X2_run 106 rfl) rfl ?_
                              cases h
                              exact AW.to hJ37 (lle_s rfl (lle_n (lle_s rfl (lle_s rfl (lle_n (lle_n (lle_n (lle_n (lle_z)))))))))
                          · refine AW.iload (n := 225) (dat D_X2_run 109 rfl) rfl rfl ?_
                            refine AW.bipush (n := 227) (dat D_X2_run 110 rfl) rfl (by decide) ?_
                            refine AW.icmp_neH (t := 245) (n := 230) h (dat D_X2_run 111 rfl) rfl rfl rfl (by decide) (fun h => ?_) (fun h => ?_)
                            · refine AW.iload (n := 232) (dat D_X2_run 112 rfl) rfl rfl ?_
                              refine AW.iload (n := 234) (dat D_X2_run 113 rfl) rfl rfl ?_
                              refine AW.icmp_neH (t := 241) (n := 237) h (dat D_X2_run 114 rfl) rfl rfl rfl rfl (fun h => ?_) (fun h => ?_)
                              · refine AW.iconst (n := 238) (dat D_X2_run 115 rfl) rfl ?_
                                refine AW.goto (t := 257) (dat D_X2_run 116 rfl) rfl ?_
                                cases h
                                exact AW.to hJ37 (lle_s rfl (lle_n (lle_s rfl (lle_s rfl (lle_n (lle_n (lle_n (lle_n (lle_z)))))))))
                              · refine AW.iconst (n := 242) (dat D_X2_run 117 rfl) rfl ?_
                                refine AW.goto (t := 257) (dat D_X2_run 118 rfl) rfl ?_
                                cases h
                                exact AW.to hJ37 (lle_s rfl (lle_n (lle_s rfl (lle_s rfl (lle_n (lle_n (lle_n (lle_n (lle_z)))))))))
                            · refine AW.iload (n := 247) (dat D_X2_run 119 rfl) rfl rfl ?_
                              refine AW.iload (n := 249) (dat D_X2_run 120 rfl) rfl rfl ?_
                              refine AW.icmp_leH (t := 256) (n := 252) h (dat D_X2_run 121 rfl) rfl rfl rfl rfl (fun h => ?_) (fun h => ?_)
                              · refine AW.iconst (n := 257) (dat D_X2_run 124 rfl) rfl ?_
                                cases h
                                exact AW.to hJ37 (lle_s rfl (lle_n (lle_s rfl (lle_s rfl (lle_n (lle_n (lle_n (lle_n (lle_z)))))))))
                              · refine AW.iconst (n := 253) (dat D_X2_run 122 rfl) rfl ?_
                                refine AW.goto (t := 257) (dat D_X2_run 123 rfl) rfl ?_
                                cases h
                                exact AW.to hJ37 (lle_s rfl (lle_n (lle_s rfl (lle_s rfl (lle_n (lle_n (lle_n (lle_n (lle_z)))))))))
                        · refine AW.aload_n (n := 264) (dat D_X2_run 127 rfl) rfl rfl ?_
                          refine AW.aload_n (n := 265) (dat D_X2_run 128 rfl) rfl rfl ?_
                          refine AW.iload (n := 267) (dat D_X2_run 129 rfl) rfl rfl ?_
                          refine AW.iload (n := 269) (dat D_X2_run 130 rfl) rfl rfl ?_
                          refine AW.iload (n := 271) (dat D_X2_run 131 rfl) rfl rfl ?_
                          obtain ⟨v32, σ33, hc31, h⟩ := bnd2_some h
                          refine AW.cV (n := 274) (as := [vI x6, vI v21, vI v18]) (st := [vR k]) (st' := [vI v32, vR k]) (uc' := 0) (us' := 0) (A_X2_reckon hΓ hpk hc31) cf_X2_reckon (isJudge_ly0 hpk) (by have := isJudge_lt hpk; omega) vc_2 (le45 rfl) wM_X2_59 (le45 rfl) (le45 rfl) (dat D_X2_run 132 rfl) rfl rfl (le45 rfl) (le45 rfl) rfl (fun _ => ?_) nlt0
                          obtain ⟨σ35, hc34, h⟩ := ob_some h
                          refine AW.cV (n := 277) (as := [vI v32]) (st := []) (st' := []) (uc' := 0) (us' := 0) (A_X2_push hΓ hpk hc34) cf_X2_push (isJudge_ly0 hpk) (by have := isJudge_lt hpk; omega) vc_2 (le45 rfl) wM_X2_72 (le45 rfl) (le45 rfl) (dat D_X2_run 133 rfl) rfl rfl (le45 rfl) (le45 rfl) rfl (fun _ => ?_) nlt0
                          cases h
                          exact AW.to hJ11 (lle_s rfl (lle_n (lle_s rfl (lle_s rfl (lle_n (lle_n (lle_n (lle_n (lle_z)))))))))
        · cases h
          have hb := hb3 _ rfl
          cases hb
          exact AW.to hR3 (lle_n (lle_n (lle_n (lle_n (lle_n (lle_n (lle_n (lle_n (lle_z)))))))))
def L_X2_scoreByFacts : List (Nat × Instr × Nat) := [(0, .aload_n 0, 1), (1, .iconst 0, 1), (2, .putfield 41, 3), (5, .iconst 0, 1), (6, .istore_n 1, 1), (7, .iconst 0, 1), (8, .istore_n 2, 1), (9, .iload_n 2, 1), (10, .aload_n 0, 1), (11, .getfield 38, 3), (14, .if_icmp .ge 104, 3), (17, .aload_n 0, 1), (18, .getfield 41, 3), (21, .ifCond .ne 97, 3), (24, .aload_n 0, 1), (25, .iconst 0, 1), (26, .putfield 44, 3), (29, .aload_n 0, 1), (30, .iconst 1, 1), (31, .putfield 47, 3), (34, .aload_n 0, 1), (35, .aload_n 0, 1), (36, .getfield 25, 3), (39, .iload_n 2, 1), (40, .iaload, 1), (41, .aload_n 0, 1), (42, .getfield 22, 3), (45, .iload_n 2, 1), (46, .iconst 1, 1), (47, .iadd, 1), (48, .iaload, 1), (49, .invokevirtual 51, 3), (52, .aload_n 0, 1), (53, .getfield 47, 3), (56, .ifCond .eq 56, 3), (59, .aload_n 0, 1), (60, .aload_n 0, 1), (61, .getfield 22, 3), (64, .iload_n 2, 1), (65, .iaload, 1), (66, .aload_n 0, 1), (67, .getfield 25, 3), (70, .iload_n 2, 1), (71, .iaload, 1), (72, .invokevirtual 51, 3), (75, .aload_n 0, 1), (76, .invokevirtual 55, 3), (79, .istore_n 3, 1), (80, .aload_n 0, 1), (81, .getfield 41, 3), (84, .ifCond .ne 26, 3), (87, .aload_n 0, 1), (88, .aload_n 0, 1), (89, .getfield 18, 3), (92, .iload_n 2, 1), (93, .baload, 1), (94, .ifCond .eq 7, 3), (97, .iconst 2, 1), (98, .goto 4, 3), (101, .iconst 3, 1), (102, .iload_n 1, 1), (103, .iload_n 3, 1), (104, .invokevirtual 59, 3), (107, .goto 4, 3), (110, .iload_n 1, 1), (111, .istore_n 1, 1), (112, .iinc 2 1, 3), (115, .goto (-106), 3), (118, .aload_n 0, 1), (119, .getfield 41, 3), (122, .ifCond .eq 11, 3), (125, .aload_n 0, 1), (126, .getfield 41, 3), (129, .ineg, 1), (130, .goto 13, 3), (133, .iconst 0, 1), (134, .bipush 100, 2), (136, .iload_n 1, 1), (137, .invokestatic 63, 3), (140, .invokestatic 69, 3), (143, .ireturn, 1)]
theorem D_X2_scoreByFacts : dOK cX2_scoreByFacts L_X2_scoreByFacts = true := by decide +kernel
theorem cf_X2_scoreByFacts : CFV mX2_scoreByFacts 0 := ⟨wI_X2_scoreByFacts, wS_X2_scoreByFacts, wN_WaveRight_Judge, wC_X2_scoreByFacts, rfl, ⟨by decide +kernel, by decide +kernel, by decide +kernel⟩, le45 rfl⟩
def X2_scoreByFacts_e9 (n : Nat) (k : Nat) (e6 : Int) (σ7 : SG) : Option (Int × SG) :=
  if w32 (σ7 k 11) = 0 then
    some (((mx32 0 (mn32 100 e6)), σ7))
  else
    some (((-(σ7 k 11)), σ7))
def X2_scoreByFacts_j112 (n : Nat) (z3 : Int) (y14 : Int) (σ15 : SG) : Option ((Int × Int × SG) ⊕ (Int × SG)) :=
  lt (z3 + 1) fun x17 =>
  some (.inl (y14, x17, σ15))
def X2_scoreByFacts_j111 (n : Nat) (y25 : Int) (σ26 : SG) : Option (Int × SG) :=
  some ((y25, σ26))
def X2_scoreByFacts_j102 (n : Nat) (k : Nat) (z2 : Int) (v23 : Int) (σ24 : SG) (y29 : Int) : Option (Int × SG) :=
  bnd2 (X2_reckon n k y29 z2 v23 σ24) fun v32 σ33 =>
  some ((v32, σ33))
def X2_scoreByFacts_l9 (n : Nat) (k : Nat) (z2 : Int) (z3 : Int) (σ4 : SG) : Option ((Int × Int × SG) ⊕ (Int × SG)) :=
  if w32 (σ4 k 6) ≤ w32 z3 then
    some (.inr (z2, σ4))
  else
    if w32 (σ4 k 11) = 0 then
      lt (up σ4 k 9 0) fun σ8 =>
      lt (up σ8 k 10 1) fun σ9 =>
      rdA 10 z3 fun j10 =>
      rdA 11 (z3 + 1) fun j11 =>
      (X2_run n k (σ9 (k + 5) j10) (σ9 (k + 4) j11) σ9).bind fun σ13 =>
      ((if w32 (σ13 k 10) = 0 then
        some ((z2, σ13))
      else
        rdA 11 z3 fun j18 =>
        rdA 10 z3 fun j19 =>
        (X2_run n k (σ13 (k + 4) j18) (σ13 (k + 5) j19) σ13).bind fun σ21 =>
        bnd2 (X2_pop n k σ21) fun v23 σ24 =>
        ((if w32 (σ24 k 11) = 0 then
          rdA 10 z3 fun j28 =>
          ((if w32 (σ24 (k + 3) j28) = 0 then
            some (3)
          else
            some (2)) : Option (Int)).bind (fun s => X2_scoreByFacts_j102 n k z2 v23 σ24 s)
        else
          some ((z2, σ24))) : Option (Int × SG)).bind (fun s => X2_scoreByFacts_j111 n s.1 s.2)) : Option (Int × SG)).bind (fun s => X2_scoreByFacts_j112 n z3 s.1 s.2)
    else
      some (.inr (z2, σ4))
def X2_scoreByFacts (n : Nat) (k : Nat) (σ : SG) : Option (Int × SG) :=
  lt (up σ k 11 0) fun σ1 =>
  ((iter n (fun s : Int × Int × SG => X2_scoreByFacts_l9 n k s.1 s.2.1 s.2.2) (0, 0, σ1)) : Option (Int × SG)).bind (fun s => X2_scoreByFacts_e9 n k s.1 s.2)
set_option maxHeartbeats 4000000 in
set_option maxRecDepth 100000 in
theorem A_X2_scoreByFacts {Γ : GA} (hΓ : (gl Γ).stackTraces = false) {n : Nat} {k : Nat} {σ : SG} {r : Int} {τ : SG} (hpk : isJudge k = true) (h : X2_scoreByFacts n k σ = some (r, τ)) : AM Γ mX2_scoreByFacts 3 0 0 [vR k] (85, σ) (0, r) (85, τ) := by
  refine AM.of pl_X2 rfl wC_X2_scoreByFacts (le45 rfl) hΓ ?_
  refine AW.to (ls'' := [some (vR k), none, none, none]) ?_ (lle_s rfl (lle_e (lle_e (lle_e (lle_z)))))
  unfold X2_scoreByFacts at h
  refine AW.aload_n (n := 1) (dat D_X2_scoreByFacts 0 rfl) rfl rfl ?_
  refine AW.iconst (n := 2) (dat D_X2_scoreByFacts 1 rfl) rfl ?_
  refine AW.putI (n := 5) fX2_11 wF_X2_41 (isJudge_ly0 hpk) (by have := isJudge_lt hpk; omega) rfl rfl rfl (dat D_X2_scoreByFacts 2 rfl) rfl ?_
  refine AW.ltS h (fun σ1 h => ?_)
  refine AW.iconst (n := 6) (dat D_X2_scoreByFacts 3 rfl) rfl ?_
  refine AW.istore_n (n := 7) (ls' := [some (vR k), some (vI 0), none, none]) (dat D_X2_scoreByFacts 4 rfl) rfl (le45 rfl) (le45 rfl) rfl rfl ?_
  refine AW.iconst (n := 8) (dat D_X2_scoreByFacts 5 rfl) rfl ?_
  refine AW.istore_n (n := 9) (ls' := [some (vR k), some (vI 0), some (vI 0), none]) (dat D_X2_scoreByFacts 6 rfl) rfl (le45 rfl) (le45 rfl) rfl rfl ?_
  obtain ⟨b5, hi5, hq5⟩ := ob_some h
  obtain ⟨e6, σ7⟩ := b5
  have hR5 : AW Γ mX2_scoreByFacts 3 (0, r) (85, τ) 0 0 118 [some (vR k), some (vI e6), none, none] [] (85, σ7) := by
    have h : X2_scoreByFacts_e9 n k e6 σ7 = some _ := hq5
    unfold X2_scoreByFacts_e9 at h
    refine AW.aload_n (n := 119) (dat D_X2_scoreByFacts 68 rfl) rfl rfl ?_
    refine AW.getI (n := 122) fX2_11 wF_X2_41 (isJudge_ly0 hpk) (by have := isJudge_lt hpk; omega) rfl rfl (dat D_X2_scoreByFacts 69 rfl) rfl ?_
    refine AW.if_eqH (t := 133) (n := 125) h (dat D_X2_scoreByFacts 70 rfl) rfl rfl (fun h => ?_) (fun h => ?_)
    · refine AW.iconst (n := 134) (dat D_X2_scoreByFacts 75 rfl) rfl ?_
      refine AW.bipush (n := 136) (dat D_X2_scoreByFacts 76 rfl) rfl (by decide) ?_
      refine AW.iload_n (n := 137) (dat D_X2_scoreByFacts 77 rfl) rfl rfl ?_
      refine AW.mmin (n := 140) wM_X2_63 (le45 rfl) (le45 rfl) (dat D_X2_scoreByFacts 78 rfl) rfl ?_
      refine AW.mmax (n := 143) wM_X2_69 (le45 rfl) (le45 rfl) (dat D_X2_scoreByFacts 79 rfl) rfl ?_
      cases h
      exact AW.iret rfl rfl rfl (dat D_X2_scoreByFacts 80 rfl)
    · refine AW.aload_n (n := 126) (dat D_X2_scoreByFacts 71 rfl) rfl rfl ?_
      refine AW.getI (n := 129) fX2_11 wF_X2_41 (isJudge_ly0 hpk) (by have := isJudge_lt hpk; omega) rfl rfl (dat D_X2_scoreByFacts 72 rfl) rfl ?_
      refine AW.ineg (n := 130) (dat D_X2_scoreByFacts 73 rfl) rfl ?_
      refine AW.goto (t := 143) (dat D_X2_scoreByFacts 74 rfl) rfl ?_
      cases h
      exact AW.iret rfl rfl rfl (dat D_X2_scoreByFacts 80 rfl)
  refine AW.to (ls'' := [some (vR k), some (vI 0), some (vI 0), none]) ?_ (lle_s rfl (lle_s rfl (lle_s rfl (lle_n (lle_z)))))
  refine aw_iter (fun s : Int × Int × SG => AW Γ mX2_scoreByFacts 3 (0, r) (85, τ) 0 0 9 [some (vR k), some (vI (s.1)), some (vI (s.2.1)), none] [] (85, s.2.2)) (fun s y h hk5 hb5 => ?_) _ _ hi5
  obtain ⟨z2, z3, σ4⟩ := s
  show AW Γ mX2_scoreByFacts 3 (0, r) (85, τ) 0 0 9 [some (vR k), some (vI z2), some (vI z3), none] [] (85, σ4)
  have h : X2_scoreByFacts_l9 n k z2 z3 σ4 = some y := h
  unfold X2_scoreByFacts_l9 at h
  refine AW.iload_n (n := 10) (dat D_X2_scoreByFacts 7 rfl) rfl rfl ?_
  refine AW.aload_n (n := 11) (dat D_X2_scoreByFacts 8 rfl) rfl rfl ?_
  refine AW.getI (n := 14) fX2_6 wF_X2_38 (isJudge_ly0 hpk) (by have := isJudge_lt hpk; omega) rfl rfl (dat D_X2_scoreByFacts 9 rfl) rfl ?_
  refine AW.icmp_geH (t := 118) (n := 17) h (dat D_X2_scoreByFacts 10 rfl) rfl rfl rfl rfl (fun h => ?_) (fun h => ?_)
  · cases h
    have hb := hb5 _ rfl
    cases hb
    exact AW.to hR5 (lle_s rfl (lle_s rfl (lle_n (lle_n (lle_z)))))
  · refine AW.aload_n (n := 18) (dat D_X2_scoreByFacts 11 rfl) rfl rfl ?_
    refine AW.getI (n := 21) fX2_11 wF_X2_41 (isJudge_ly0 hpk) (by have := isJudge_lt hpk; omega) rfl rfl (dat D_X2_scoreByFacts 12 rfl) rfl ?_
    refine AW.if_neH (t := 118) (n := 24) h (dat D_X2_scoreByFacts 13 rfl) rfl rfl (fun h => ?_) (fun h => ?_)
    · refine AW.aload_n (n := 25) (dat D_X2_scoreByFacts 14 rfl) rfl rfl ?_
      refine AW.iconst (n := 26) (dat D_X2_scoreByFacts 15 rfl) rfl ?_
      refine AW.putI (n := 29) fX2_9 wF_X2_44 (isJudge_ly0 hpk) (by have := isJudge_lt hpk; omega) rfl rfl rfl (dat D_X2_scoreByFacts 16 rfl) rfl ?_
      refine AW.ltS h (fun σ8 h => ?_)
      refine AW.aload_n (n := 30) (dat D_X2_scoreByFacts 17 rfl) rfl rfl ?_
      refine AW.iconst (n := 31) (dat D_X2_scoreByFacts 18 rfl) rfl ?_
      refine AW.putZ (n := 34) (Or.inr rfl) fX2_10 wF_X2_47 (isJudge_ly0 hpk) (by have := isJudge_lt hpk; omega) rfl rfl rfl (dat D_X2_scoreByFacts 19 rfl) rfl ?_
      refine AW.ltS h (fun σ9 h => ?_)
      refine AW.aload_n (n := 35) (dat D_X2_scoreByFacts 20 rfl) rfl rfl ?_
      refine AW.aload_n (n := 36) (dat D_X2_scoreByFacts 21 rfl) rfl rfl ?_
      refine AW.getR (n := 39) (t := k + 5) fX2_5 wF_X2_25 (isJudge_ly0 hpk) (by have := isJudge_lt hpk; omega) rfl (dat D_X2_scoreByFacts 22 rfl) rfl ?_
      refine AW.iload_n (n := 40) (dat D_X2_scoreByFacts 23 rfl) rfl rfl ?_
      refine AW.ialdH h (n := 41) rfl (isJudge_ly5 hpk) (by have := isJudge_lt hpk; omega) (dat D_X2_scoreByFacts 24 rfl) rfl (fun j10 h => ?_)
      refine AW.aload_n (n := 42) (dat D_X2_scoreByFacts 25 rfl) rfl rfl ?_
      refine AW.getR (n := 45) (t := k + 4) fX2_4 wF_X2_22 (isJudge_ly0 hpk) (by have := isJudge_lt hpk; omega) rfl (dat D_X2_scoreByFacts 26 rfl) rfl ?_
      refine AW.iload_n (n := 46) (dat D_X2_scoreByFacts 27 rfl) rfl rfl ?_
      refine AW.iconst (n := 47) (dat D_X2_scoreByFacts 28 rfl) rfl ?_
      refine AW.iadd (n := 48) (dat D_X2_scoreByFacts 29 rfl) rfl ?_
      refine AW.ialdH h (n := 49) rfl (isJudge_ly4 hpk) (by have := isJudge_lt hpk; omega) (dat D_X2_scoreByFacts 30 rfl) rfl (fun j11 h => ?_)
      obtain ⟨σ13, hc12, h⟩ := ob_some h
      refine AW.cV (n := 52) (as := [vI (σ9 (k + 5) j10), vI (σ9 (k + 4) j11)]) (st := []) (st' := []) (uc' := 0) (us' := 0) (A_X2_run hΓ hpk hc12) cf_X2_run (isJudge_ly0 hpk) (by have := isJudge_lt hpk; omega) vc_2 (le45 rfl) wM_X2_51 (le45 rfl) (le45 rfl) (dat D_X2_scoreByFacts 31 rfl) rfl rfl (le45 rfl) (le45 rfl) rfl (fun _ => ?_) nlt0
      refine AW.aload_n (n := 53) (dat D_X2_scoreByFacts 32 rfl) rfl rfl ?_
      refine AW.getI (n := 56) fX2_10 wF_X2_47 (isJudge_ly0 hpk) (by have := isJudge_lt hpk; omega) rfl rfl (dat D_X2_scoreByFacts 33 rfl) rfl ?_
      obtain ⟨s16, h, hq16⟩ := ob_some h
      obtain ⟨y14, σ15⟩ := s16
      have hJ16 : AW Γ mX2_scoreByFacts 3 (0, r) (85, τ) 0 0 112 [some (vR k), some (vI y14), some (vI z3), none] [] (85, σ15) := by
        have h : X2_scoreByFacts_j112 n z3 y14 σ15 = some _ := hq16
        unfold X2_scoreByFacts_j112 at h
        refine AW.iincH h (n := 115) (dat D_X2_scoreByFacts 66 rfl) rfl rfl (le45 rfl) rfl (fun x17 h => ?_)
        refine AW.lq (ls' := [some (vR k), some (vI y14), some (vI x17), none]) rfl ?_
        refine AW.goto (t := 9) (dat D_X2_scoreByFacts 67 rfl) rfl ?_
        cases h
        exact AW.to (hk5 _ rfl) (lle_s rfl (lle_s rfl (lle_s rfl (lle_n (lle_z)))))
      refine AW.if_eqH (t := 112) (n := 59) h (dat D_X2_scoreByFacts 34 rfl) rfl rfl (fun h => ?_) (fun h => ?_)
      · cases h
        exact AW.to hJ16 (lle_s rfl (lle_s rfl (lle_s rfl (lle_n (lle_z)))))
      · refine AW.aload_n (n := 60) (dat D_X2_scoreByFacts 35 rfl) rfl rfl ?_
        refine AW.aload_n (n := 61) (dat D_X2_scoreByFacts 36 rfl) rfl rfl ?_
        refine AW.getR (n := 64) (t := k + 4) fX2_4 wF_X2_22 (isJudge_ly0 hpk) (by have := isJudge_lt hpk; omega) rfl (dat D_X2_scoreByFacts 37 rfl) rfl ?_
        refine AW.iload_n (n := 65) (dat D_X2_scoreByFacts 38 rfl) rfl rfl ?_
        refine AW.ialdH h (n := 66) rfl (isJudge_ly4 hpk) (by have := isJudge_lt hpk; omega) (dat D_X2_scoreByFacts 39 rfl) rfl (fun j18 h => ?_)
        refine AW.aload_n (n := 67) (dat D_X2_scoreByFacts 40 rfl) rfl rfl ?_
        refine AW.getR (n := 70) (t := k + 5) fX2_5 wF_X2_25 (isJudge_ly0 hpk) (by have := isJudge_lt hpk; omega) rfl (dat D_X2_scoreByFacts 41 rfl) rfl ?_
        refine AW.iload_n (n := 71) (dat D_X2_scoreByFacts 42 rfl) rfl rfl ?_
        refine AW.ialdH h (n := 72) rfl (isJudge_ly5 hpk) (by have := isJudge_lt hpk; omega) (dat D_X2_scoreByFacts 43 rfl) rfl (fun j19 h => ?_)
        obtain ⟨σ21, hc20, h⟩ := ob_some h
        refine AW.cV (n := 75) (as := [vI (σ13 (k + 4) j18), vI (σ13 (k + 5) j19)]) (st := []) (st' := []) (uc' := 0) (us' := 0) (A_X2_run hΓ hpk hc20) cf_X2_run (isJudge_ly0 hpk) (by have := isJudge_lt hpk; omega) vc_2 (le45 rfl) wM_X2_51 (le45 rfl) (le45 rfl) (dat D_X2_scoreByFacts 44 rfl) rfl rfl (le45 rfl) (le45 rfl) rfl (fun _ => ?_) nlt0
        refine AW.aload_n (n := 76) (dat D_X2_scoreByFacts 45 rfl) rfl rfl ?_
        obtain ⟨v23, σ24, hc22, h⟩ := bnd2_some h
        refine AW.cV (n := 79) (as := []) (st := []) (st' := [vI v23]) (uc' := 0) (us' := 0) (A_X2_pop hΓ hpk hc22) cf_X2_pop (isJudge_ly0 hpk) (by have := isJudge_lt hpk; omega) vc_2 (le45 rfl) wM_X2_55 (le45 rfl) (le45 rfl) (dat D_X2_scoreByFacts 46 rfl) rfl rfl (le45 rfl) (le45 rfl) rfl (fun _ => ?_) nlt0
        refine AW.istore_n (n := 80) (ls' := [some (vR k), some (vI z2), some (vI z3), some (vI v23)]) (dat D_X2_scoreByFacts 47 rfl) rfl (le45 rfl) (le45 rfl) rfl rfl ?_
        refine AW.aload_n (n := 81) (dat D_X2_scoreByFacts 48 rfl) rfl rfl ?_
        refine AW.getI (n := 84) fX2_11 wF_X2_41 (isJudge_ly0 hpk) (by have := isJudge_lt hpk; omega) rfl rfl (dat D_X2_scoreByFacts 49 rfl) rfl ?_
        obtain ⟨s27, h, hq27⟩ := ob_some h
        obtain ⟨y25, σ26⟩ := s27
        have hJ27 : AW Γ mX2_scoreByFacts 3 (0, r) (85, τ) 0 0 111 [some (vR k), none, some (vI z3), none] [vI y25] (85, σ26) := by
          have h : X2_scoreByFacts_j111 n y25 σ26 = some _ := hq27
          unfold X2_scoreByFacts_j111 at h
          refine AW.istore_n (n := 112) (ls' := [some (vR k), some (vI y25), some (vI z3), none]) (dat D_X2_scoreByFacts 65 rfl) rfl (le45 rfl) (le45 rfl) rfl rfl ?_
          cases h
          exact AW.to hJ16 (lle_s rfl (lle_s rfl (lle_s rfl (lle_n (lle_z)))))
        refine AW.if_neH (t := 110) (n := 87) h (dat D_X2_scoreByFacts 50 rfl) rfl rfl (fun h => ?_) (fun h => ?_)
        · refine AW.aload_n (n := 88) (dat D_X2_scoreByFacts 51 rfl) rfl rfl ?_
          refine AW.aload_n (n := 89) (dat D_X2_scoreByFacts 52 rfl) rfl rfl ?_
          refine AW.getR (n := 92) (t := k + 3) fX2_3 wF_X2_18 (isJudge_ly0 hpk) (by have := isJudge_lt hpk; omega) rfl (dat D_X2_scoreByFacts 53 rfl) rfl ?_
          refine AW.iload_n (n := 93) (dat D_X2_scoreByFacts 54 rfl) rfl rfl ?_
          refine AW.zaldH h (n := 94) rfl (isJudge_ly3 hpk) (by have := isJudge_lt hpk; omega) (dat D_X2_scoreByFacts 55 rfl) rfl (fun j28 h => ?_)
          obtain ⟨s30, h, hq30⟩ := ob_some h
          obtain ⟨y29, e30⟩ : ∃ z, z = s30 := ⟨_, rfl⟩
          subst e30
          have hJ30 : AW Γ mX2_scoreByFacts 3 (0, r) (85, τ) 0 0 102 [some (vR k), some (vI z2), some (vI z3), some (vI v23)] [vI y29, vR k] (85, σ24) := by
            have h : X2_scoreByFacts_j102 n k z2 v23 σ24 y29 = some _ := hq30
            unfold X2_scoreByFacts_j102 at h
            refine AW.iload_n (n := 103) (dat D_X2_scoreByFacts 60 rfl) rfl rfl ?_
            refine AW.iload_n (n := 104) (dat D_X2_scoreByFacts 61 rfl) rfl rfl ?_
            obtain ⟨v32, σ33, hc31, h⟩ := bnd2_some h
            refine AW.cV (n := 107) (as := [vI y29, vI z2, vI v23]) (st := []) (st' := [vI v32]) (uc' := 0) (us' := 0) (A_X2_reckon hΓ hpk hc31) cf_X2_reckon (isJudge_ly0 hpk) (by have := isJudge_lt hpk; omega) vc_2 (le45 rfl) wM_X2_59 (le45 rfl) (le45 rfl) (dat D_X2_scoreByFacts 62 rfl) rfl rfl (le45 rfl) (le45 rfl) rfl (fun _ => ?_) nlt0
            refine AW.goto (t := 111) (dat D_X2_scoreByFacts 63 rfl) rfl ?_
            cases h
            exact AW.to hJ27 (lle_s rfl (lle_n (lle_s rfl (lle_n (lle_z)))))
          refine AW.if_eqH (t := 101) (n := 97) h (dat D_X2_scoreByFacts 56 rfl) rfl rfl (fun h => ?_) (fun h => ?_)
          · refine AW.iconst (n := 102) (dat D_X2_scoreByFacts 59 rfl) rfl ?_
            cases h
            exact AW.to hJ30 (lle_s rfl (lle_s rfl (lle_s rfl (lle_s rfl (lle_z)))))
          · refine AW.iconst (n := 98) (dat D_X2_scoreByFacts 57 rfl) rfl ?_
            refine AW.goto (t := 102) (dat D_X2_scoreByFacts 58 rfl) rfl ?_
            cases h
            exact AW.to hJ30 (lle_s rfl (lle_s rfl (lle_s rfl (lle_s rfl (lle_z)))))
        · refine AW.iload_n (n := 111) (dat D_X2_scoreByFacts 64 rfl) rfl rfl ?_
          cases h
          exact AW.to hJ27 (lle_s rfl (lle_n (lle_s rfl (lle_n (lle_z)))))
    · cases h
      have hb := hb5 _ rfl
      cases hb
      exact AW.to hR5 (lle_s rfl (lle_s rfl (lle_n (lle_n (lle_z)))))
def L_X1_scoreOf : List (Nat × Instr × Nat) := [(0, .aload_n 0, 1), (1, .getfield 12, 3), (4, .iload_n 2, 1), (5, .iconst 3, 1), (6, .invokevirtual 102, 3), (9, .istore 6, 2), (11, .aload_n 0, 1), (12, .getfield 21, 3), (15, .getfield 180, 3), (18, .ifCond .ne 14, 3), (21, .bipush 100, 2), (23, .iload 6, 2), (25, .iload 4, 2), (27, .imul, 1), (28, .invokestatic 171, 3), (31, .ireturn, 1), (32, .aload_n 0, 1), (33, .getfield 21, 3), (36, .getfield 183, 3), (39, .astore 7, 2), (41, .aload 7, 2), (43, .iconst 0, 1), (44, .iload 6, 2), (46, .iastore, 1), (47, .aload 7, 2), (49, .iconst 1, 1), (50, .aload_n 0, 1), (51, .getfield 12, 3), (54, .iload_n 2, 1), (55, .iconst 4, 1), (56, .invokevirtual 102, 3), (59, .iastore, 1), (60, .aload 7, 2), (62, .iconst 2, 1), (63, .iload 4, 2), (65, .iastore, 1), (66, .aload 7, 2), (68, .iconst 3, 1), (69, .iload_n 3, 1), (70, .aload_n 0, 1), (71, .getfield 12, 3), (74, .iload_n 2, 1), (75, .iconst 1, 1), (76, .invokevirtual 102, 3), (79, .isub, 1), (80, .invokestatic 165, 3), (83, .iastore, 1), (84, .aload 7, 2), (86, .iconst 4, 1), (87, .iload 5, 2), (89, .iastore, 1), (90, .aload 7, 2), (92, .iconst 5, 1), (93, .aload_n 0, 1), (94, .getfield 12, 3), (97, .iload_n 2, 1), (98, .iconst 0, 1), (99, .invokevirtual 102, 3), (102, .aload_n 0, 1), (103, .getfield 84, 3), (106, .isub, 1), (107, .iastore, 1), (108, .aload 7, 2), (110, .bipush 6, 2), (112, .aload_n 1, 1), (113, .getfield 186, 3), (116, .iastore, 1), (117, .aload 7, 2), (119, .bipush 7, 2), (121, .aload_n 1, 1), (122, .getfield 189, 3), (125, .iastore, 1), (126, .aload_n 0, 1), (127, .getfield 21, 3), (130, .invokevirtual 192, 3), (133, .ireturn, 1)]
theorem D_X1_scoreOf : dOK cX1_scoreOf L_X1_scoreOf = true := by decide +kernel
theorem cf_X1_scoreOf : CFV mX1_scoreOf 5 := ⟨wI_X1_scoreOf, wS_X1_scoreOf, wN_WaveRight_Heat, wC_X1_scoreOf, rfl, ⟨by decide +kernel, by decide +kernel, by decide +kernel⟩, le45 rfl⟩
def X1_scoreOf (n : Nat) (a0 : Nat) (a1 : Int) (a2 : Int) (a3 : Int) (a4 : Int) (σ : SG) : Option (Int × SG) :=
  ckR isSea (σ 19 0) fun k1 =>
  (X6_factOf n k1 a1 3 σ).bind fun v3 =>
  ckR isJudge (σ 19 1) fun k4 =>
  if w32 (σ k4 6) = 0 then
    some (((mn32 100 (v3 * a3)), σ))
  else
    ckR isJudge (σ 19 1) fun k5 =>
    rdA 8 0 fun j6 => lt (up σ (k5 + 6) j6 v3) fun σ7 =>
    ckR isSea (σ7 19 0) fun k8 =>
    (X6_factOf n k8 a1 4 σ7).bind fun v10 =>
    rdA 8 1 fun j11 => lt (up σ7 (k5 + 6) j11 v10) fun σ12 =>
    rdA 8 2 fun j13 => lt (up σ12 (k5 + 6) j13 a3) fun σ14 =>
    ckR isSea (σ14 19 0) fun k15 =>
    (X6_factOf n k15 a1 1 σ14).bind fun v17 =>
    rdA 8 3 fun j18 => lt (up σ14 (k5 + 6) j18 (ab32 (a2 - v17))) fun σ19 =>
    rdA 8 4 fun j20 => lt (up σ19 (k5 + 6) j20 a4) fun σ21 =>
    ckR isSea (σ21 19 0) fun k22 =>
    (X6_factOf n k22 a1 0 σ21).bind fun v24 =>
    rdA 8 5 fun j25 => lt (up σ21 (k5 + 6) j25 (v24 - (σ21 19 10))) fun σ26 =>
    rdA 8 6 fun j27 => lt (up σ26 (k5 + 6) j27 (σ26 a0 2)) fun σ28 =>
    rdA 8 7 fun j29 => lt (up σ28 (k5 + 6) j29 (σ28 a0 10)) fun σ30 =>
    ckR isJudge (σ30 19 1) fun k31 =>
    bnd2 (X2_scoreByFacts n k31 σ30) fun v33 σ34 =>
    some ((v33, σ34))
set_option maxHeartbeats 4000000 in
set_option maxRecDepth 100000 in
theorem A_X1_scoreOf {Γ : GA} (hΓ : (gl Γ).stackTraces = false) {n : Nat} {a0 : Nat} {a1 : Int} {a2 : Int} {a3 : Int} {a4 : Int} {σ : SG} {r : Int} {τ : SG} (hpa0 : isSw a0 = true) (h : X1_scoreOf n a0 a1 a2 a3 a4 σ = some (r, τ)) : AM Γ mX1_scoreOf 4 0 0 [vR 19, vR a0, vI a1, vI a2, vI a3, vI a4] (85, σ) (0, r) (85, τ) := by
  refine AM.of pl_X1 rfl wC_X1_scoreOf (le45 rfl) hΓ ?_
  refine AW.to (ls'' := [some (vR 19), some (vR a0), some (vI a1), some (vI a2), some (vI a3), some (vI a4), none, none]) ?_ (lle_s rfl (lle_s rfl (lle_s rfl (lle_s rfl (lle_s rfl (lle_s rfl (lle_e (lle_e (lle_z)))))))))
  unfold X1_scoreOf at h
  refine AW.aload_n (n := 1) (dat D_X1_scoreOf 0 rfl) rfl rfl ?_
  refine AW.getQH h (n := 4) fX1_0 wF_X1_12 ly_19 (le45 rfl) rfl rfl (dat D_X1_scoreOf 1 rfl) rfl (fun k1 hpk1 h => ?_)
  refine AW.iload_n (n := 5) (dat D_X1_scoreOf 2 rfl) rfl rfl ?_
  refine AW.iconst (n := 6) (dat D_X1_scoreOf 3 rfl) rfl ?_
  obtain ⟨v3, hc2, h⟩ := ob_some h
  refine AW.cV (n := 9) (as := [vI a1, vI 3]) (st := []) (st' := [vI v3]) (uc' := 0) (us' := 0) (A_X6_factOf hΓ hpk1 hc2) cf_X6_factOf (isSea_ly0 hpk1) (by have := isSea_lt hpk1; omega) vc_6 (le45 rfl) wM_X1_102 (le45 rfl) (le45 rfl) (dat D_X1_scoreOf 4 rfl) rfl rfl (le45 rfl) (le45 rfl) rfl (fun _ => ?_) nlt0
  refine AW.istore (n := 11) (ls' := [some (vR 19), some (vR a0), some (vI a1), some (vI a2), some (vI a3), some (vI a4), some (vI v3), none]) (dat D_X1_scoreOf 5 rfl) rfl (le45 rfl) (le45 rfl) rfl rfl ?_
  refine AW.aload_n (n := 12) (dat D_X1_scoreOf 6 rfl) rfl rfl ?_
  refine AW.getQH h (n := 15) fX1_1 wF_X1_21 ly_19 (le45 rfl) rfl rfl (dat D_X1_scoreOf 7 rfl) rfl (fun k4 hpk4 h => ?_)
  refine AW.getI (n := 18) fX2_6 wF_X1_180 (isJudge_ly0 hpk4) (by have := isJudge_lt hpk4; omega) rfl rfl (dat D_X1_scoreOf 8 rfl) rfl ?_
  refine AW.if_neH (t := 32) (n := 21) h (dat D_X1_scoreOf 9 rfl) rfl rfl (fun h => ?_) (fun h => ?_)
  · refine AW.bipush (n := 23) (dat D_X1_scoreOf 10 rfl) rfl (by decide) ?_
    refine AW.iload (n := 25) (dat D_X1_scoreOf 11 rfl) rfl rfl ?_
    refine AW.iload (n := 27) (dat D_X1_scoreOf 12 rfl) rfl rfl ?_
    refine AW.imul (n := 28) (dat D_X1_scoreOf 13 rfl) rfl ?_
    refine AW.mmin (n := 31) wM_X1_171 (le45 rfl) (le45 rfl) (dat D_X1_scoreOf 14 rfl) rfl ?_
    cases h
    exact AW.iret rfl rfl rfl (dat D_X1_scoreOf 15 rfl)
  · refine AW.aload_n (n := 33) (dat D_X1_scoreOf 16 rfl) rfl rfl ?_
    refine AW.getQH h (n := 36) fX1_1 wF_X1_21 ly_19 (le45 rfl) rfl rfl (dat D_X1_scoreOf 17 rfl) rfl (fun k5 hpk5 h => ?_)
    refine AW.getR (n := 39) (t := k5 + 6) fX2_7 wF_X1_183 (isJudge_ly0 hpk5) (by have := isJudge_lt hpk5; omega) rfl (dat D_X1_scoreOf 18 rfl) rfl ?_
    refine AW.astore (n := 41) (ls' := [some (vR 19), some (vR a0), some (vI a1), some (vI a2), some (vI a3), some (vI a4), some (vI v3), some (vR (k5 + 6))]) (dat D_X1_scoreOf 19 rfl) rfl (le45 rfl) (le45 rfl) rfl rfl ?_
    refine AW.aload (n := 43) (dat D_X1_scoreOf 20 rfl) rfl rfl ?_
    refine AW.iconst (n := 44) (dat D_X1_scoreOf 21 rfl) rfl ?_
    refine AW.iload (n := 46) (dat D_X1_scoreOf 22 rfl) rfl rfl ?_
    refine AW.iastH h (n := 47) rfl (isJudge_ly6 hpk5) (by have := isJudge_lt hpk5; omega) (dat D_X1_scoreOf 23 rfl) rfl (fun j6 h => ?_)
    refine AW.ltS h (fun σ7 h => ?_)
    refine AW.aload (n := 49) (dat D_X1_scoreOf 24 rfl) rfl rfl ?_
    refine AW.iconst (n := 50) (dat D_X1_scoreOf 25 rfl) rfl ?_
    refine AW.aload_n (n := 51) (dat D_X1_scoreOf 26 rfl) rfl rfl ?_
    refine AW.getQH h (n := 54) fX1_0 wF_X1_12 ly_19 (le45 rfl) rfl rfl (dat D_X1_scoreOf 27 rfl) rfl (fun k8 hpk8 h => ?_)
    refine AW.iload_n (n := 55) (dat D_X1_scoreOf 28 rfl) rfl rfl ?_
    refine AW.iconst (n := 56) (dat D_X1_scoreOf 29 rfl) rfl ?_
    obtain ⟨v10, hc9, h⟩ := ob_some h
    refine AW.cV (n := 59) (as := [vI a1, vI 4]) (st := [vI 1, vR (k5 + 6)]) (st' := [vI v10, vI 1, vR (k5 + 6)]) (uc' := 0) (us' := 0) (A_X6_factOf hΓ hpk8 hc9) cf_X6_factOf (isSea_ly0 hpk8) (by have := isSea_lt hpk8; omega) vc_6 (le45 rfl) wM_X1_102 (le45 rfl) (le45 rfl) (dat D_X1_scoreOf 30 rfl) rfl rfl (le45 rfl) (le45 rfl) rfl (fun _ => ?_) nlt0
    refine AW.iastH h (n := 60) rfl (isJudge_ly6 hpk5) (by have := isJudge_lt hpk5; omega) (dat D_X1_scoreOf 31 rfl) rfl (fun j11 h => ?_)
    refine AW.ltS h (fun σ12 h => ?_)
    refine AW.aload (n := 62) (dat D_X1_scoreOf 32 rfl) rfl rfl ?_
    refine AW.iconst (n := 63) (dat D_X1_scoreOf 33 rfl) rfl ?_
    refine AW.iload (n := 65) (dat D_X1_scoreOf 34 rfl) rfl rfl ?_
    refine AW.iastH h (n := 66) rfl (isJudge_ly6 hpk5) (by have := isJudge_lt hpk5; omega) (dat D_X1_scoreOf 35 rfl) rfl (fun j13 h => ?_)
    refine AW.ltS h (fun σ14 h => ?_)
    refine AW.aload (n := 68) (dat D_X1_scoreOf 36 rfl) rfl rfl ?_
    refine AW.iconst (n := 69) (dat D_X1_scoreOf 37 rfl) rfl ?_
    refine AW.iload_n (n := 70) (dat D_X1_scoreOf 38 rfl) rfl rfl ?_
    refine AW.aload_n (n := 71) (dat D_X1_scoreOf 39 rfl) rfl rfl ?_
    refine AW.getQH h (n := 74) fX1_0 wF_X1_12 ly_19 (le45 rfl) rfl rfl (dat D_X1_scoreOf 40 rfl) rfl (fun k15 hpk15 h => ?_)
    refine AW.iload_n (n := 75) (dat D_X1_scoreOf 41 rfl) rfl rfl ?_
    refine AW.iconst (n := 76) (dat D_X1_scoreOf 42 rfl) rfl ?_
    obtain ⟨v17, hc16, h⟩ := ob_some h
    refine AW.cV (n := 79) (as := [vI a1, vI 1]) (st := [vI a2, vI 3, vR (k5 + 6)]) (st' := [vI v17, vI a2, vI 3, vR (k5 + 6)]) (uc' := 0) (us' := 0) (A_X6_factOf hΓ hpk15 hc16) cf_X6_factOf (isSea_ly0 hpk15) (by have := isSea_lt hpk15; omega) vc_6 (le45 rfl) wM_X1_102 (le45 rfl) (le45 rfl) (dat D_X1_scoreOf 43 rfl) rfl rfl (le45 rfl) (le45 rfl) rfl (fun _ => ?_) nlt0
    refine AW.isub (n := 80) (dat D_X1_scoreOf 44 rfl) rfl ?_
    refine AW.mabs (n := 83) wM_X1_165 (le45 rfl) (le45 rfl) (dat D_X1_scoreOf 45 rfl) rfl ?_
    refine AW.iastH h (n := 84) rfl (isJudge_ly6 hpk5) (by have := isJudge_lt hpk5; omega) (dat D_X1_scoreOf 46 rfl) rfl (fun j18 h => ?_)
    refine AW.ltS h (fun σ19 h => ?_)
    refine AW.aload (n := 86) (dat D_X1_scoreOf 47 rfl) rfl rfl ?_
    refine AW.iconst (n := 87) (dat D_X1_scoreOf 48 rfl) rfl ?_
    refine AW.iload (n := 89) (dat D_X1_scoreOf 49 rfl) rfl rfl ?_
    refine AW.iastH h (n := 90) rfl (isJudge_ly6 hpk5) (by have := isJudge_lt hpk5; omega) (dat D_X1_scoreOf 50 rfl) rfl (fun j20 h => ?_)
    refine AW.ltS h (fun σ21 h => ?_)
    refine AW.aload (n := 92) (dat D_X1_scoreOf 51 rfl) rfl rfl ?_
    refine AW.iconst (n := 93) (dat D_X1_scoreOf 52 rfl) rfl ?_
    refine AW.aload_n (n := 94) (dat D_X1_scoreOf 53 rfl) rfl rfl ?_
    refine AW.getQH h (n := 97) fX1_0 wF_X1_12 ly_19 (le45 rfl) rfl rfl (dat D_X1_scoreOf 54 rfl) rfl (fun k22 hpk22 h => ?_)
    refine AW.iload_n (n := 98) (dat D_X1_scoreOf 55 rfl) rfl rfl ?_
    refine AW.iconst (n := 99) (dat D_X1_scoreOf 56 rfl) rfl ?_
    obtain ⟨v24, hc23, h⟩ := ob_some h
    refine AW.cV (n := 102) (as := [vI a1, vI 0]) (st := [vI 5, vR (k5 + 6)]) (st' := [vI v24, vI 5, vR (k5 + 6)]) (uc' := 0) (us' := 0) (A_X6_factOf hΓ hpk22 hc23) cf_X6_factOf (isSea_ly0 hpk22) (by have := isSea_lt hpk22; omega) vc_6 (le45 rfl) wM_X1_102 (le45 rfl) (le45 rfl) (dat D_X1_scoreOf 57 rfl) rfl rfl (le45 rfl) (le45 rfl) rfl (fun _ => ?_) nlt0
    refine AW.aload_n (n := 103) (dat D_X1_scoreOf 58 rfl) rfl rfl ?_
    refine AW.getI (n := 106) fX1_10 wF_X1_84 ly_19 (le45 rfl) rfl rfl (dat D_X1_scoreOf 59 rfl) rfl ?_
    refine AW.isub (n := 107) (dat D_X1_scoreOf 60 rfl) rfl ?_
    refine AW.iastH h (n := 108) rfl (isJudge_ly6 hpk5) (by have := isJudge_lt hpk5; omega) (dat D_X1_scoreOf 61 rfl) rfl (fun j25 h => ?_)
    refine AW.ltS h (fun σ26 h => ?_)
    refine AW.aload (n := 110) (dat D_X1_scoreOf 62 rfl) rfl rfl ?_
    refine AW.bipush (n := 112) (dat D_X1_scoreOf 63 rfl) rfl (by decide) ?_
    refine AW.aload_n (n := 113) (dat D_X1_scoreOf 64 rfl) rfl rfl ?_
    refine AW.getI (n := 116) fX9_2 wF_X1_186 (isSw_ly0 hpa0) (by have := isSw_lt hpa0; omega) rfl rfl (dat D_X1_scoreOf 65 rfl) rfl ?_
    refine AW.iastH h (n := 117) rfl (isJudge_ly6 hpk5) (by have := isJudge_lt hpk5; omega) (dat D_X1_scoreOf 66 rfl) rfl (fun j27 h => ?_)
    refine AW.ltS h (fun σ28 h => ?_)
    refine AW.aload (n := 119) (dat D_X1_scoreOf 67 rfl) rfl rfl ?_
    refine AW.bipush (n := 121) (dat D_X1_scoreOf 68 rfl) rfl (by decide) ?_
    refine AW.aload_n (n := 122) (dat D_X1_scoreOf 69 rfl) rfl rfl ?_
    refine AW.getI (n := 125) fX9_10 wF_X1_189 (isSw_ly0 hpa0) (by have := isSw_lt hpa0; omega) rfl rfl (dat D_X1_scoreOf 70 rfl) rfl ?_
    refine AW.iastH h (n := 126) rfl (isJudge_ly6 hpk5) (by have := isJudge_lt hpk5; omega) (dat D_X1_scoreOf 71 rfl) rfl (fun j29 h => ?_)
    refine AW.ltS h (fun σ30 h => ?_)
    refine AW.aload_n (n := 127) (dat D_X1_scoreOf 72 rfl) rfl rfl ?_
    refine AW.getQH h (n := 130) fX1_1 wF_X1_21 ly_19 (le45 rfl) rfl rfl (dat D_X1_scoreOf 73 rfl) rfl (fun k31 hpk31 h => ?_)
    obtain ⟨v33, σ34, hc32, h⟩ := bnd2_some h
    refine AW.cV (n := 133) (as := []) (st := []) (st' := [vI v33]) (uc' := 0) (us' := 0) (A_X2_scoreByFacts hΓ hpk31 hc32) cf_X2_scoreByFacts (isJudge_ly0 hpk31) (by have := isJudge_lt hpk31; omega) vc_2 (le45 rfl) wM_X1_192 (le45 rfl) (le45 rfl) (dat D_X1_scoreOf 74 rfl) rfl rfl (le45 rfl) (le45 rfl) rfl (fun _ => ?_) nlt0
    cases h
    exact AW.iret rfl rfl rfl (dat D_X1_scoreOf 75 rfl)
def L_X9_keepRide : List (Nat × Instr × Nat) := [(0, .aload_n 0, 1), (1, .getfield 41, 3), (4, .bipush 7, 2), (6, .imul, 1), (7, .istore 5, 2), (9, .iload 5, 2), (11, .bipush 7, 2), (13, .iadd, 1), (14, .aload_n 0, 1), (15, .getfield 11, 3), (18, .arraylength, 1), (19, .if_icmp .le 4, 3), (22, .return_, 1), (23, .aload_n 0, 1), (24, .getfield 11, 3), (27, .iload 5, 2), (29, .iload_n 2, 1), (30, .iastore, 1), (31, .aload_n 0, 1), (32, .getfield 11, 3), (35, .iload 5, 2), (37, .iconst 1, 1), (38, .iadd, 1), (39, .iload_n 1, 1), (40, .iastore, 1), (41, .aload_n 0, 1), (42, .getfield 11, 3), (45, .iload 5, 2), (47, .iconst 2, 1), (48, .iadd, 1), (49, .aload_n 0, 1), (50, .getfield 53, 3), (53, .iastore, 1), (54, .aload_n 0, 1), (55, .getfield 11, 3), (58, .iload 5, 2), (60, .iconst 3, 1), (61, .iadd, 1), (62, .aload_n 0, 1), (63, .getfield 66, 3), (66, .iastore, 1), (67, .aload_n 0, 1), (68, .getfield 11, 3), (71, .iload 5, 2), (73, .iconst 4, 1), (74, .iadd, 1), (75, .aload_n 0, 1), (76, .getfield 50, 3), (79, .iastore, 1), (80, .aload_n 0, 1), (81, .getfield 11, 3), (84, .iload 5, 2), (86, .iconst 5, 1), (87, .iadd, 1), (88, .iload_n 3, 1), (89, .ifCond .eq 7, 3), (92, .iconst 1, 1), (93, .goto 4, 3), (96, .iconst 0, 1), (97, .iastore, 1), (98, .aload_n 0, 1), (99, .getfield 11, 3), (102, .iload 5, 2), (104, .bipush 6, 2), (106, .iadd, 1), (107, .iload 4, 2), (109, .iastore, 1), (110, .aload_n 0, 1), (111, .dup, 1), (112, .getfield 41, 3), (115, .iconst 1, 1), (116, .iadd, 1), (117, .putfield 41, 3), (120, .aload_n 0, 1), (121, .aload_n 0, 1), (122, .getfield 47, 3), (125, .aload_n 0, 1), (126, .getfield 44, 3), (129, .iload_n 2, 1), (130, .invokestatic 62, 3), (133, .invokestatic 69, 3), (136, .putfield 47, 3), (139, .aload_n 0, 1), (140, .aload_n 0, 1), (141, .getfield 44, 3), (144, .iload_n 2, 1), (145, .invokestatic 69, 3), (148, .putfield 44, 3), (151, .return_, 1)]
theorem D_X9_keepRide : dOK cX9_keepRide L_X9_keepRide = true := by decide +kernel
theorem cf_X9_keepRide : CFV mX9_keepRide 4 := ⟨wI_X9_keepRide, wS_X9_keepRide, wN_WaveRight_Swimmer, wC_X9_keepRide, rfl, ⟨by decide +kernel, by decide +kernel, by decide +kernel⟩, le45 rfl⟩
def X9_keepRide_j97 (n : Nat) (x1 : Int) (σ11 : SG) (k : Nat) (a3 : Int) (a1 : Int) (y12 : Int) : Option (SG) :=
  rdA 140 (x1 + 5) fun j14 => lt (up σ11 (k + 1) j14 y12) fun σ15 =>
  rdA 140 (x1 + 6) fun j16 => lt (up σ15 (k + 1) j16 a3) fun σ17 =>
  lt (up σ17 k 2 ((σ17 k 2) + 1)) fun σ18 =>
  lt (up σ18 k 11 (mx32 (σ18 k 11) (mn32 (σ18 k 10) a1))) fun σ19 =>
  lt (up σ19 k 10 (mx32 (σ19 k 10) a1)) fun σ20 =>
  some (σ20)
def X9_keepRide (n : Nat) (k : Nat) (a0 : Int) (a1 : Int) (a2 : Int) (a3 : Int) (σ : SG) : Option (SG) :=
  lt ((σ k 2) * 7) fun x1 =>
  if w32 (x1 + 7) ≤ 140 then
    rdA 140 x1 fun j2 => lt (up σ (k + 1) j2 a1) fun σ3 =>
    rdA 140 (x1 + 1) fun j4 => lt (up σ3 (k + 1) j4 a0) fun σ5 =>
    rdA 140 (x1 + 2) fun j6 => lt (up σ5 (k + 1) j6 (σ5 k 13)) fun σ7 =>
    rdA 140 (x1 + 3) fun j8 => lt (up σ7 (k + 1) j8 (σ7 k 14)) fun σ9 =>
    rdA 140 (x1 + 4) fun j10 => lt (up σ9 (k + 1) j10 (σ9 k 12)) fun σ11 =>
    ((if w32 a2 = 0 then
      some (0)
    else
      some (1)) : Option (Int)).bind (fun s => X9_keepRide_j97 n x1 σ11 k a3 a1 s)
  else
    some (σ)
set_option maxHeartbeats 4000000 in
set_option maxRecDepth 100000 in
theorem A_X9_keepRide {Γ : GA} (hΓ : (gl Γ).stackTraces = false) {n : Nat} {k : Nat} {a0 : Int} {a1 : Int} {a2 : Int} {a3 : Int} {σ : SG} {τ : SG} (hpk : isSw k = true) (h : X9_keepRide n k a0 a1 a2 a3 σ = some τ) : AM Γ mX9_keepRide 2 0 0 [vR k, vI a0, vI a1, vI a2, vI a3] (85, σ) (0, 0) (85, τ) := by
  refine AM.of pl_X9 rfl wC_X9_keepRide (le45 rfl) hΓ ?_
  refine AW.to (ls'' := [some (vR k), some (vI a0), some (vI a1), some (vI a2), some (vI a3), none]) ?_ (lle_s rfl (lle_s rfl (lle_s rfl (lle_s rfl (lle_s rfl (lle_e (lle_z)))))))
  unfold X9_keepRide at h
  refine AW.aload_n (n := 1) (dat D_X9_keepRide 0 rfl) rfl rfl ?_
  refine AW.getI (n := 4) fX9_2 wF_X9_41 (isSw_ly0 hpk) (by have := isSw_lt hpk; omega) rfl rfl (dat D_X9_keepRide 1 rfl) rfl ?_
  refine AW.bipush (n := 6) (dat D_X9_keepRide 2 rfl) rfl (by decide) ?_
  refine AW.imul (n := 7) (dat D_X9_keepRide 3 rfl) rfl ?_
  refine AW.ltI h (fun x1 h => ?_)
  refine AW.istore (n := 9) (ls' := [some (vR k), some (vI a0), some (vI a1), some (vI a2), some (vI a3), some (vI x1)]) (dat D_X9_keepRide 4 rfl) rfl (le45 rfl) (le45 rfl) rfl rfl ?_
  refine AW.iload (n := 11) (dat D_X9_keepRide 5 rfl) rfl rfl ?_
  refine AW.bipush (n := 13) (dat D_X9_keepRide 6 rfl) rfl (by decide) ?_
  refine AW.iadd (n := 14) (dat D_X9_keepRide 7 rfl) rfl ?_
  refine AW.aload_n (n := 15) (dat D_X9_keepRide 8 rfl) rfl rfl ?_
  refine AW.getR (n := 18) (t := k + 1) fX9_1 wF_X9_11 (isSw_ly0 hpk) (by have := isSw_lt hpk; omega) rfl (dat D_X9_keepRide 9 rfl) rfl ?_
  refine AW.alen20 (n := 19) (x := 140) (isSw_ly1 hpk) (by have := isSw_lt hpk; omega) rfl (dat D_X9_keepRide 10 rfl) rfl ?_
  refine AW.icmp_leH (t := 23) (n := 22) h (dat D_X9_keepRide 11 rfl) rfl rfl rfl (by decide) (fun h => ?_) (fun h => ?_)
  · refine AW.aload_n (n := 24) (dat D_X9_keepRide 13 rfl) rfl rfl ?_
    refine AW.getR (n := 27) (t := k + 1) fX9_1 wF_X9_11 (isSw_ly0 hpk) (by have := isSw_lt hpk; omega) rfl (dat D_X9_keepRide 14 rfl) rfl ?_
    refine AW.iload (n := 29) (dat D_X9_keepRide 15 rfl) rfl rfl ?_
    refine AW.iload_n (n := 30) (dat D_X9_keepRide 16 rfl) rfl rfl ?_
    refine AW.iastH h (n := 31) rfl (isSw_ly1 hpk) (by have := isSw_lt hpk; omega) (dat D_X9_keepRide 17 rfl) rfl (fun j2 h => ?_)
    refine AW.ltS h (fun σ3 h => ?_)
    refine AW.aload_n (n := 32) (dat D_X9_keepRide 18 rfl) rfl rfl ?_
    refine AW.getR (n := 35) (t := k + 1) fX9_1 wF_X9_11 (isSw_ly0 hpk) (by have := isSw_lt hpk; omega) rfl (dat D_X9_keepRide 19 rfl) rfl ?_
    refine AW.iload (n := 37) (dat D_X9_keepRide 20 rfl) rfl rfl ?_
    refine AW.iconst (n := 38) (dat D_X9_keepRide 21 rfl) rfl ?_
    refine AW.iadd (n := 39) (dat D_X9_keepRide 22 rfl) rfl ?_
    refine AW.iload_n (n := 40) (dat D_X9_keepRide 23 rfl) rfl rfl ?_
    refine AW.iastH h (n := 41) rfl (isSw_ly1 hpk) (by have := isSw_lt hpk; omega) (dat D_X9_keepRide 24 rfl) rfl (fun j4 h => ?_)
    refine AW.ltS h (fun σ5 h => ?_)
    refine AW.aload_n (n := 42) (dat D_X9_keepRide 25 rfl) rfl rfl ?_
    refine AW.getR (n := 45) (t := k + 1) fX9_1 wF_X9_11 (isSw_ly0 hpk) (by have := isSw_lt hpk; omega) rfl (dat D_X9_keepRide 26 rfl) rfl ?_
    refine AW.iload (n := 47) (dat D_X9_keepRide 27 rfl) rfl rfl ?_
    refine AW.iconst (n := 48) (dat D_X9_keepRide 28 rfl) rfl ?_
    refine AW.iadd (n := 49) (dat D_X9_keepRide 29 rfl) rfl ?_
    refine AW.aload_n (n := 50) (dat D_X9_keepRide 30 rfl) rfl rfl ?_
    refine AW.getI (n := 53) fX9_13 wF_X9_53 (isSw_ly0 hpk) (by have := isSw_lt hpk; omega) rfl rfl (dat D_X9_keepRide 31 rfl) rfl ?_
    refine AW.iastH h (n := 54) rfl (isSw_ly1 hpk) (by have := isSw_lt hpk; omega) (dat D_X9_keepRide 32 rfl) rfl (fun j6 h => ?_)
    refine AW.ltS h (fun σ7 h => ?_)
    refine AW.aload_n (n := 55) (dat D_X9_keepRide 33 rfl) rfl rfl ?_
    refine AW.getR (n := 58) (t := k + 1) fX9_1 wF_X9_11 (isSw_ly0 hpk) (by have := isSw_lt hpk; omega) rfl (dat D_X9_keepRide 34 rfl) rfl ?_
    refine AW.iload (n := 60) (dat D_X9_keepRide 35 rfl) rfl rfl ?_
    refine AW.iconst (n := 61) (dat D_X9_keepRide 36 rfl) rfl ?_
    refine AW.iadd (n := 62) (dat D_X9_keepRide 37 rfl) rfl ?_
    refine AW.aload_n (n := 63) (dat D_X9_keepRide 38 rfl) rfl rfl ?_
    refine AW.getI (n := 66) fX9_14 wF_X9_66 (isSw_ly0 hpk) (by have := isSw_lt hpk; omega) rfl rfl (dat D_X9_keepRide 39 rfl) rfl ?_
    refine AW.iastH h (n := 67) rfl (isSw_ly1 hpk) (by have := isSw_lt hpk; omega) (dat D_X9_keepRide 40 rfl) rfl (fun j8 h => ?_)
    refine AW.ltS h (fun σ9 h => ?_)
    refine AW.aload_n (n := 68) (dat D_X9_keepRide 41 rfl) rfl rfl ?_
    refine AW.getR (n := 71) (t := k + 1) fX9_1 wF_X9_11 (isSw_ly0 hpk) (by have := isSw_lt hpk; omega) rfl (dat D_X9_keepRide 42 rfl) rfl ?_
    refine AW.iload (n := 73) (dat D_X9_keepRide 43 rfl) rfl rfl ?_
    refine AW.iconst (n := 74) (dat D_X9_keepRide 44 rfl) rfl ?_
    refine AW.iadd (n := 75) (dat D_X9_keepRide 45 rfl) rfl ?_
    refine AW.aload_n (n := 76) (dat D_X9_keepRide 46 rfl) rfl rfl ?_
    refine AW.getI (n := 79) fX9_12 wF_X9_50 (isSw_ly0 hpk) (by have := isSw_lt hpk; omega) rfl rfl (dat D_X9_keepRide 47 rfl) rfl ?_
    refine AW.iastH h (n := 80) rfl (isSw_ly1 hpk) (by have := isSw_lt hpk; omega) (dat D_X9_keepRide 48 rfl) rfl (fun j10 h => ?_)
    refine AW.ltS h (fun σ11 h => ?_)
    refine AW.aload_n (n := 81) (dat D_X9_keepRide 49 rfl) rfl rfl ?_
    refine AW.getR (n := 84) (t := k + 1) fX9_1 wF_X9_11 (isSw_ly0 hpk) (by have := isSw_lt hpk; omega) rfl (dat D_X9_keepRide 50 rfl) rfl ?_
    refine AW.iload (n := 86) (dat D_X9_keepRide 51 rfl) rfl rfl ?_
    refine AW.iconst (n := 87) (dat D_X9_keepRide 52 rfl) rfl ?_
    refine AW.iadd (n := 88) (dat D_X9_keepRide 53 rfl) rfl ?_
    refine AW.iload_n (n := 89) (dat D_X9_keepRide 54 rfl) rfl rfl ?_
    obtain ⟨s13, h, hq13⟩ := ob_some h
    obtain ⟨y12, e13⟩ : ∃ z, z = s13 := ⟨_, rfl⟩
    subst e13
    have hJ13 : AW Γ mX9_keepRide 2 (0, 0) (85, τ) 0 0 97 [some (vR k), none, some (vI a1), none, some (vI a3), some (vI x1)] [vI y12, vI (x1 + 5), vR (k + 1)] (85, σ11) := by
      have h : X9_keepRide_j97 n x1 σ11 k a3 a1 y12 = some _ := hq13
      unfold X9_keepRide_j97 at h
      refine AW.iastH h (n := 98) rfl (isSw_ly1 hpk) (by have := isSw_lt hpk; omega) (dat D_X9_keepRide 59 rfl) rfl (fun j14 h => ?_)
      refine AW.ltS h (fun σ15 h => ?_)
      refine AW.aload_n (n := 99) (dat D_X9_keepRide 60 rfl) rfl rfl ?_
      refine AW.getR (n := 102) (t := k + 1) fX9_1 wF_X9_11 (isSw_ly0 hpk) (by have := isSw_lt hpk; omega) rfl (dat D_X9_keepRide 61 rfl) rfl ?_
      refine AW.iload (n := 104) (dat D_X9_keepRide 62 rfl) rfl rfl ?_
      refine AW.bipush (n := 106) (dat D_X9_keepRide 63 rfl) rfl (by decide) ?_
      refine AW.iadd (n := 107) (dat D_X9_keepRide 64 rfl) rfl ?_
      refine AW.iload (n := 109) (dat D_X9_keepRide 65 rfl) rfl rfl ?_
      refine AW.iastH h (n := 110) rfl (isSw_ly1 hpk) (by have := isSw_lt hpk; omega) (dat D_X9_keepRide 66 rfl) rfl (fun j16 h => ?_)
      refine AW.ltS h (fun σ17 h => ?_)
      refine AW.aload_n (n := 111) (dat D_X9_keepRide 67 rfl) rfl rfl ?_
      refine AW.dup (n := 112) (dat D_X9_keepRide 68 rfl) rfl (cR _) ?_
      refine AW.getI (n := 115) fX9_2 wF_X9_41 (isSw_ly0 hpk) (by have := isSw_lt hpk; omega) rfl rfl (dat D_X9_keepRide 69 rfl) rfl ?_
      refine AW.iconst (n := 116) (dat D_X9_keepRide 70 rfl) rfl ?_
      refine AW.iadd (n := 117) (dat D_X9_keepRide 71 rfl) rfl ?_
      refine AW.putI (n := 120) fX9_2 wF_X9_41 (isSw_ly0 hpk) (by have := isSw_lt hpk; omega) rfl rfl rfl (dat D_X9_keepRide 72 rfl) rfl ?_
      refine AW.ltS h (fun σ18 h => ?_)
      refine AW.aload_n (n := 121) (dat D_X9_keepRide 73 rfl) rfl rfl ?_
      refine AW.aload_n (n := 122) (dat D_X9_keepRide 74 rfl) rfl rfl ?_
      refine AW.getI (n := 125) fX9_11 wF_X9_47 (isSw_ly0 hpk) (by have := isSw_lt hpk; omega) rfl rfl (dat D_X9_keepRide 75 rfl) rfl ?_
      refine AW.aload_n (n := 126) (dat D_X9_keepRide 76 rfl) rfl rfl ?_
      refine AW.getI (n := 129) fX9_10 wF_X9_44 (isSw_ly0 hpk) (by have := isSw_lt hpk; omega) rfl rfl (dat D_X9_keepRide 77 rfl) rfl ?_
      refine AW.iload_n (n := 130) (dat D_X9_keepRide 78 rfl) rfl rfl ?_
      refine AW.mmin (n := 133) wM_X9_62 (le45 rfl) (le45 rfl) (dat D_X9_keepRide 79 rfl) rfl ?_
      refine AW.mmax (n := 136) wM_X9_69 (le45 rfl) (le45 rfl) (dat D_X9_keepRide 80 rfl) rfl ?_
      refine AW.putI (n := 139) fX9_11 wF_X9_47 (isSw_ly0 hpk) (by have := isSw_lt hpk; omega) rfl rfl rfl (dat D_X9_keepRide 81 rfl) rfl ?_
      refine AW.ltS h (fun σ19 h => ?_)
      refine AW.aload_n (n := 140) (dat D_X9_keepRide 82 rfl) rfl rfl ?_
      refine AW.aload_n (n := 141) (dat D_X9_keepRide 83 rfl) rfl rfl ?_
      refine AW.getI (n := 144) fX9_10 wF_X9_44 (isSw_ly0 hpk) (by have := isSw_lt hpk; omega) rfl rfl (dat D_X9_keepRide 84 rfl) rfl ?_
      refine AW.iload_n (n := 145) (dat D_X9_keepRide 85 rfl) rfl rfl ?_
      refine AW.mmax (n := 148) wM_X9_69 (le45 rfl) (le45 rfl) (dat D_X9_keepRide 86 rfl) rfl ?_
      refine AW.putI (n := 151) fX9_10 wF_X9_44 (isSw_ly0 hpk) (by have := isSw_lt hpk; omega) rfl rfl rfl (dat D_X9_keepRide 87 rfl) rfl ?_
      refine AW.ltS h (fun σ20 h => ?_)
      cases h
      exact AW.vret rfl rfl rfl (dat D_X9_keepRide 88 rfl)
    refine AW.if_eqH (t := 96) (n := 92) h (dat D_X9_keepRide 55 rfl) rfl rfl (fun h => ?_) (fun h => ?_)
    · refine AW.iconst (n := 97) (dat D_X9_keepRide 58 rfl) rfl ?_
      cases h
      exact AW.to hJ13 (lle_s rfl (lle_n (lle_s rfl (lle_n (lle_s rfl (lle_s rfl (lle_z)))))))
    · refine AW.iconst (n := 93) (dat D_X9_keepRide 56 rfl) rfl ?_
      refine AW.goto (t := 97) (dat D_X9_keepRide 57 rfl) rfl ?_
      cases h
      exact AW.to hJ13 (lle_s rfl (lle_n (lle_s rfl (lle_n (lle_s rfl (lle_s rfl (lle_z)))))))
  · cases h
    exact AW.vret rfl rfl rfl (dat D_X9_keepRide 12 rfl)
