/-! ===== methods as functions, and their bytecode beside them (printed by wip/whole/gen/emit.py) ===== -/
def L_X12_took : List (Nat × Instr × Nat) := [(0, .aload_n 0, 1), (1, .iconst 0, 1), (2, .putfield 105, 3), (5, .aload_n 0, 1), (6, .iload_n 1, 1), (7, .iconst 0, 1), (8, .aload_n 0, 1), (9, .getfield 21, 3), (12, .iconst 1, 1), (13, .iaload, 1), (14, .iconst 1, 1), (15, .isub, 1), (16, .invokestatic 164, 3), (19, .ifCond .ne 7, 3), (22, .iconst 1, 1), (23, .goto 4, 3), (26, .iconst 0, 1), (27, .iconst 1, 1), (28, .invokevirtual 230, 3), (31, .ifCond .ne 41, 3), (34, .aload_n 0, 1), (35, .iload_n 1, 1), (36, .aload_n 0, 1), (37, .getfield 354, 3), (40, .if_icmp .ge 20, 3), (43, .iload_n 1, 1), (44, .aload_n 0, 1), (45, .getfield 49, 3), (48, .if_icmp .eq 12, 3), (51, .iload_n 2, 1), (52, .iconst 0, 1), (53, .iconst 3, 1), (54, .invokestatic 164, 3), (57, .ifCond .ne 7, 3), (60, .iconst 1, 1), (61, .goto 4, 3), (64, .iconst 0, 1), (65, .iconst 2, 1), (66, .invokevirtual 230, 3), (69, .ifCond .eq 5, 3), (72, .iconst 0, 1), (73, .ireturn, 1), (74, .iconst 0, 1), (75, .istore_n 3, 1), (76, .iconst (-1), 1), (77, .istore 4, 2), (79, .iconst (-1), 1), (80, .istore 5, 2), (82, .iconst 0, 1), (83, .istore 6, 2), (85, .iconst 0, 1), (86, .istore 7, 2), (88, .iload 7, 2), (90, .aload_n 0, 1), (91, .invokevirtual 378, 3), (94, .if_icmp .ge 108, 3), (97, .iconst 0, 1), (98, .istore 8, 2), (100, .iload 8, 2), (102, .aload_n 0, 1), (103, .getfield 68, 3), (106, .iload 7, 2), (108, .iaload, 1), (109, .if_icmp .ge 87, 3), (112, .bipush 7, 2), (114, .bipush 20, 2), (116, .iload 7, 2), (118, .imul, 1), (119, .iload 8, 2), (121, .iadd, 1), (122, .imul, 1), (123, .istore 9, 2), (125, .aload_n 0, 1), (126, .getfield 90, 3), (129, .iload 9, 2), (131, .iconst 1, 1), (132, .iadd, 1), (133, .iaload, 1), (134, .iload_n 1, 1), (135, .if_icmp .eq 6, 3), (138, .goto 52, 3), (141, .iload_n 3, 1), (142, .iconst 1, 1), (143, .iload 7, 2), (145, .ishl, 1), (146, .ior, 1), (147, .istore_n 3, 1), (148, .iload 6, 2), (150, .aload_n 0, 1), (151, .getfield 90, 3), (154, .iload 9, 2), (156, .iconst 5, 1), (157, .iadd, 1), (158, .iaload, 1), (159, .iadd, 1), (160, .istore 6, 2), (162, .aload_n 0, 1), (163, .getfield 90, 3), (166, .iload 9, 2), (168, .iaload, 1), (169, .iload 4, 2), (171, .if_icmp .gt 6, 3), (174, .goto 16, 3), (177, .aload_n 0, 1), (178, .getfield 90, 3), (181, .iload 9, 2), (183, .iaload, 1), (184, .istore 4, 2), (186, .iload 7, 2), (188, .istore 5, 2), (190, .iinc 8 1, 3), (193, .goto (-93), 3), (196, .iinc 7 1, 3), (199, .goto (-111), 3), (202, .iload_n 2, 1), (203, .ifCond .ne 7, 3), (206, .iload_n 3, 1), (207, .goto 25, 3), (210, .iload_n 2, 1), (211, .iconst 1, 1), (212, .if_icmp .ne 8, 3), (215, .iload 4, 2), (217, .goto 15, 3), (220, .iload_n 2, 1), (221, .iconst 2, 1), (222, .if_icmp .ne 8, 3), (225, .iload 5, 2), (227, .goto 5, 3), (230, .iload 6, 2), (232, .ireturn, 1)]
theorem D_X12_took : dOK cX12_took L_X12_took = true := by decide +kernel
theorem cf_X12_took : CFV mX12_took 2 := ⟨wI_X12_took, wS_X12_took, wN_WaveRightModel, wC_X12_took, rfl, ⟨by decide +kernel, by decide +kernel, by decide +kernel⟩, le45 rfl⟩
def X12_took_e88 (n : Nat) (a1 : Int) (σ14 : SG) (e21 : Int) (e22 : Int) (e23 : Int) (e24 : Int) : Option (Int × SG) :=
  if w32 a1 = 0 then
    some ((e21, σ14))
  else
    if w32 a1 = 1 then
      some ((e22, σ14))
    else
      if w32 a1 = 2 then
        some ((e23, σ14))
      else
        some ((e24, σ14))
def X12_took_e100 (n : Nat) (z19 : Int) (e33 : Int) (e34 : Int) (e35 : Int) (e36 : Int) : Option ((Int × Int × Int × Int × Int) ⊕ (Int × Int × Int × Int)) :=
  lt (z19 + 1) fun x37 =>
  some (.inl (e33, e34, e35, e36, x37))
def X12_took_j190 (n : Nat) (z31 : Int) (y41 : Int) (y42 : Int) (y43 : Int) (y44 : Int) : Option ((Int × Int × Int × Int × Int) ⊕ (Int × Int × Int × Int)) :=
  lt (z31 + 1) fun x46 =>
  some (.inl (y41, y42, y43, y44, x46))
def X12_took_l100 (n : Nat) (z19 : Int) (σ14 : SG) (a0 : Int) (z27 : Int) (z28 : Int) (z29 : Int) (z30 : Int) (z31 : Int) : Option ((Int × Int × Int × Int × Int) ⊕ (Int × Int × Int × Int)) :=
  rdA 5 z19 fun j38 =>
  if w32 (σ14 72 j38) ≤ w32 z31 then
    some (.inr (z27, z28, z29, z30))
  else
    lt (7 * ((20 * z19) + z31)) fun x39 =>
    rdA 700 (x39 + 1) fun j40 =>
    ((if w32 (σ14 79 j40) = w32 a0 then
      lt (bOr z27 (bShl 1 z19)) fun x47 =>
      rdA 700 (x39 + 5) fun j48 =>
      lt (z30 + (σ14 79 j48)) fun x49 =>
      rdA 700 x39 fun j50 =>
      if w32 z28 < w32 (σ14 79 j50) then
        rdA 700 x39 fun j51 =>
        lt (σ14 79 j51) fun x52 =>
        some ((x47, x52, z19, x49))
      else
        some ((x47, z28, z29, x49))
    else
      some ((z27, z28, z29, z30))) : Option (Int × Int × Int × Int)).bind (fun s => X12_took_j190 n z31 s.1 s.2.1 s.2.2.1 s.2.2.2)
def X12_took_l88 (n : Nat) (σ14 : SG) (a0 : Int) (z15 : Int) (z16 : Int) (z17 : Int) (z18 : Int) (z19 : Int) : Option ((Int × Int × Int × Int × Int) ⊕ (Int × Int × Int × Int)) :=
  (X12_surfers n σ14).bind fun v26 =>
  if w32 v26 ≤ w32 z19 then
    some (.inr (z15, z16, z17, z18))
  else
    ((iter n (fun s : Int × Int × Int × Int × Int => X12_took_l100 n z19 σ14 a0 s.1 s.2.1 s.2.2.1 s.2.2.2.1 s.2.2.2.2) (z15, z16, z17, z18, 0)) : Option (Int × Int × Int × Int)).bind (fun s => X12_took_e100 n z19 s.1 s.2.1 s.2.2.1 s.2.2.2)
def X12_took_j65 (n : Nat) (σ9 : SG) (a0 : Int) (a1 : Int) (y10 : Int) : Option (Int × SG) :=
  bnd2 (X12_throwsIf n y10 2 σ9) fun v13 σ14 =>
  if w32 v13 = 0 then
    ((iter n (fun s : Int × Int × Int × Int × Int => X12_took_l88 n σ14 a0 s.1 s.2.1 s.2.2.1 s.2.2.2.1 s.2.2.2.2) (0, (-1), (-1), 0, 0)) : Option (Int × Int × Int × Int)).bind (fun s => X12_took_e88 n a1 σ14 s.1 s.2.1 s.2.2.1 s.2.2.2)
  else
    some ((0, σ14))
def X12_took_j27 (n : Nat) (σ1 : SG) (a0 : Int) (a1 : Int) (y5 : Int) : Option (Int × SG) :=
  bnd2 (X12_throwsIf n y5 1 σ1) fun v8 σ9 =>
  if w32 v8 = 0 then
    ((if w32 (σ9 57 28) ≤ w32 a0 then
      some (1)
    else
      if w32 a0 = w32 (σ9 57 27) then
        some (1)
      else
        (X12_in n a1 0 3 σ9).bind fun v54 =>
        if w32 v54 = 0 then
          some (1)
        else
          some (0)) : Option (Int)).bind (fun s => X12_took_j65 n σ9 a0 a1 s)
  else
    some ((0, σ9))
def X12_took (n : Nat) (a0 : Int) (a1 : Int) (σ : SG) : Option (Int × SG) :=
  lt (up σ 57 0 0) fun σ1 =>
  rdA 144 1 fun j2 =>
  (X12_in n a0 0 ((σ1 60 j2) - 1) σ1).bind fun v4 =>
  ((if w32 v4 = 0 then
    some (1)
  else
    some (0)) : Option (Int)).bind (fun s => X12_took_j27 n σ1 a0 a1 s)
set_option maxHeartbeats 4000000 in
set_option maxRecDepth 100000 in
theorem A_X12_took {Γ : GA} (hΓ : (gl Γ).stackTraces = false) {n : Nat} {a0 : Int} {a1 : Int} {σ : SG} {r : Int} {τ : SG}  (h : X12_took n a0 a1 σ = some (r, τ)) : AM Γ mX12_took 2 0 0 [vR 57, vI a0, vI a1] (85, σ) (0, r) (85, τ) := by
  refine AM.of pl_X12 rfl wC_X12_took (le45 rfl) hΓ ?_
  refine AW.to (ls'' := [some (vR 57), some (vI a0), some (vI a1), none, none, none, none, none, none, none]) ?_ (lle_s rfl (lle_s rfl (lle_s rfl (lle_e (lle_e (lle_e (lle_e (lle_e (lle_e (lle_e (lle_z)))))))))))
  unfold X12_took at h
  refine AW.aload_n (n := 1) (dat D_X12_took 0 rfl) rfl rfl ?_
  refine AW.iconst (n := 2) (dat D_X12_took 1 rfl) rfl ?_
  refine AW.putI (n := 5) fX12_0 wF_X12_105 ly_57 (le45 rfl) rfl rfl rfl (dat D_X12_took 2 rfl) rfl ?_
  refine AW.ltS h (fun σ1 h => ?_)
  refine AW.aload_n (n := 6) (dat D_X12_took 3 rfl) rfl rfl ?_
  refine AW.iload_n (n := 7) (dat D_X12_took 4 rfl) rfl rfl ?_
  refine AW.iconst (n := 8) (dat D_X12_took 5 rfl) rfl ?_
  refine AW.aload_n (n := 9) (dat D_X12_took 6 rfl) rfl rfl ?_
  refine AW.getR (n := 12) (t := 60) fX12_9 wF_X12_21 ly_57 (le45 rfl) rfl (dat D_X12_took 7 rfl) rfl ?_
  refine AW.iconst (n := 13) (dat D_X12_took 8 rfl) rfl ?_
  refine AW.ialdH h (n := 14) rfl ly_60 (le45 rfl) (dat D_X12_took 9 rfl) rfl (fun j2 h => ?_)
  refine AW.iconst (n := 15) (dat D_X12_took 10 rfl) rfl ?_
  refine AW.isub (n := 16) (dat D_X12_took 11 rfl) rfl ?_
  obtain ⟨v4, hc3, h⟩ := ob_some h
  refine AW.cS (n := 19) (as := [vI a0, vI 0, vI ((σ1 60 j2) - 1)]) (st := [vR 57]) (st' := [vI v4, vR 57]) (uc' := 0) (us' := 0) (A_X12_in hΓ hc3) cf_X12_in rfl wM_X12_164 (le45 rfl) (le45 rfl) (dat D_X12_took 12 rfl) rfl rfl (le45 rfl) (le45 rfl) rfl (fun _ => ?_) nlt0
  obtain ⟨s6, h, hq6⟩ := ob_some h
  obtain ⟨y5, e6⟩ : ∃ z, z = s6 := ⟨_, rfl⟩
  subst e6
  have hJ6 : AW Γ mX12_took 2 (0, r) (85, τ) 0 0 27 [some (vR 57), some (vI a0), some (vI a1), none, none, none, none, none, none, none] [vI y5, vR 57] (85, σ1) := by
    have h : X12_took_j27 n σ1 a0 a1 y5 = some _ := hq6
    unfold X12_took_j27 at h
    refine AW.iconst (n := 28) (dat D_X12_took 17 rfl) rfl ?_
    obtain ⟨v8, σ9, hc7, h⟩ := bnd2_some h
    refine AW.cV (n := 31) (as := [vI y5, vI 1]) (st := []) (st' := [vI v8]) (uc' := 0) (us' := 0) (A_X12_throwsIf hΓ hc7) cf_X12_throwsIf ly_57 (le45 rfl) vc_12 (le45 rfl) wM_X12_230 (le45 rfl) (le45 rfl) (dat D_X12_took 18 rfl) rfl rfl (le45 rfl) (le45 rfl) rfl (fun _ => ?_) nlt0
    refine AW.if_neH (t := 72) (n := 34) h (dat D_X12_took 19 rfl) rfl rfl (fun h => ?_) (fun h => ?_)
    · refine AW.aload_n (n := 35) (dat D_X12_took 20 rfl) rfl rfl ?_
      refine AW.iload_n (n := 36) (dat D_X12_took 21 rfl) rfl rfl ?_
      refine AW.aload_n (n := 37) (dat D_X12_took 22 rfl) rfl rfl ?_
      refine AW.getI (n := 40) fX12_28 wF_X12_354 ly_57 (le45 rfl) rfl rfl (dat D_X12_took 23 rfl) rfl ?_
      obtain ⟨s11, h, hq11⟩ := ob_some h
      obtain ⟨y10, e11⟩ : ∃ z, z = s11 := ⟨_, rfl⟩
      subst e11
      have hJ11 : AW Γ mX12_took 2 (0, r) (85, τ) 0 0 65 [some (vR 57), some (vI a0), some (vI a1), none, none, none, none, none, none, none] [vI y10, vR 57] (85, σ9) := by
        have h : X12_took_j65 n σ9 a0 a1 y10 = some _ := hq11
        unfold X12_took_j65 at h
        refine AW.iconst (n := 66) (dat D_X12_took 37 rfl) rfl ?_
        obtain ⟨v13, σ14, hc12, h⟩ := bnd2_some h
        refine AW.cV (n := 69) (as := [vI y10, vI 2]) (st := []) (st' := [vI v13]) (uc' := 0) (us' := 0) (A_X12_throwsIf hΓ hc12) cf_X12_throwsIf ly_57 (le45 rfl) vc_12 (le45 rfl) wM_X12_230 (le45 rfl) (le45 rfl) (dat D_X12_took 38 rfl) rfl rfl (le45 rfl) (le45 rfl) rfl (fun _ => ?_) nlt0
        refine AW.if_eqH (t := 74) (n := 72) h (dat D_X12_took 39 rfl) rfl rfl (fun h => ?_) (fun h => ?_)
        · refine AW.iconst (n := 75) (dat D_X12_took 42 rfl) rfl ?_
          refine AW.istore_n (n := 76) (ls' := [some (vR 57), some (vI a0), some (vI a1), some (vI 0), none, none, none, none, none, none]) (dat D_X12_took 43 rfl) rfl (le45 rfl) (le45 rfl) rfl rfl ?_
          refine AW.iconst (n := 77) (dat D_X12_took 44 rfl) rfl ?_
          refine AW.istore (n := 79) (ls' := [some (vR 57), some (vI a0), some (vI a1), some (vI 0), some (vI (-1)), none, none, none, none, none]) (dat D_X12_took 45 rfl) rfl (le45 rfl) (le45 rfl) rfl rfl ?_
          refine AW.iconst (n := 80) (dat D_X12_took 46 rfl) rfl ?_
          refine AW.istore (n := 82) (ls' := [some (vR 57), some (vI a0), some (vI a1), some (vI 0), some (vI (-1)), some (vI (-1)), none, none, none, none]) (dat D_X12_took 47 rfl) rfl (le45 rfl) (le45 rfl) rfl rfl ?_
          refine AW.iconst (n := 83) (dat D_X12_took 48 rfl) rfl ?_
          refine AW.istore (n := 85) (ls' := [some (vR 57), some (vI a0), some (vI a1), some (vI 0), some (vI (-1)), some (vI (-1)), some (vI 0), none, none, none]) (dat D_X12_took 49 rfl) rfl (le45 rfl) (le45 rfl) rfl rfl ?_
          refine AW.iconst (n := 86) (dat D_X12_took 50 rfl) rfl ?_
          refine AW.istore (n := 88) (ls' := [some (vR 57), some (vI a0), some (vI a1), some (vI 0), some (vI (-1)), some (vI (-1)), some (vI 0), some (vI 0), none, none]) (dat D_X12_took 51 rfl) rfl (le45 rfl) (le45 rfl) rfl rfl ?_
          obtain ⟨b20, hi20, hq20⟩ := ob_some h
          obtain ⟨e21, e22, e23, e24⟩ := b20
          have hR20 : AW Γ mX12_took 2 (0, r) (85, τ) 0 0 202 [none, none, some (vI a1), some (vI e21), some (vI e22), some (vI e23), some (vI e24), none, none, none] [] (85, σ14) := by
            have h : X12_took_e88 n a1 σ14 e21 e22 e23 e24 = some _ := hq20
            unfold X12_took_e88 at h
            refine AW.iload_n (n := 203) (dat D_X12_took 114 rfl) rfl rfl ?_
            refine AW.if_neH (t := 210) (n := 206) h (dat D_X12_took 115 rfl) rfl rfl (fun h => ?_) (fun h => ?_)
            · refine AW.iload_n (n := 207) (dat D_X12_took 116 rfl) rfl rfl ?_
              refine AW.goto (t := 232) (dat D_X12_took 117 rfl) rfl ?_
              cases h
              exact AW.iret rfl rfl rfl (dat D_X12_took 129 rfl)
            · refine AW.iload_n (n := 211) (dat D_X12_took 118 rfl) rfl rfl ?_
              refine AW.iconst (n := 212) (dat D_X12_took 119 rfl) rfl ?_
              refine AW.icmp_neH (t := 220) (n := 215) h (dat D_X12_took 120 rfl) rfl rfl rfl (by decide) (fun h => ?_) (fun h => ?_)
              · refine AW.iload (n := 217) (dat D_X12_took 121 rfl) rfl rfl ?_
                refine AW.goto (t := 232) (dat D_X12_took 122 rfl) rfl ?_
                cases h
                exact AW.iret rfl rfl rfl (dat D_X12_took 129 rfl)
              · refine AW.iload_n (n := 221) (dat D_X12_took 123 rfl) rfl rfl ?_
                refine AW.iconst (n := 222) (dat D_X12_took 124 rfl) rfl ?_
                refine AW.icmp_neH (t := 230) (n := 225) h (dat D_X12_took 125 rfl) rfl rfl rfl (by decide) (fun h => ?_) (fun h => ?_)
                · refine AW.iload (n := 227) (dat D_X12_took 126 rfl) rfl rfl ?_
                  refine AW.goto (t := 232) (dat D_X12_took 127 rfl) rfl ?_
                  cases h
                  exact AW.iret rfl rfl rfl (dat D_X12_took 129 rfl)
                · refine AW.iload (n := 232) (dat D_X12_took 128 rfl) rfl rfl ?_
                  cases h
                  exact AW.iret rfl rfl rfl (dat D_X12_took 129 rfl)
          refine AW.to (ls'' := [some (vR 57), some (vI a0), some (vI a1), some (vI 0), some (vI (-1)), some (vI (-1)), some (vI 0), some (vI 0), none, none]) ?_ (lle_s rfl (lle_s rfl (lle_s rfl (lle_s rfl (lle_s rfl (lle_s rfl (lle_s rfl (lle_s rfl (lle_n (lle_n (lle_z)))))))))))
          refine aw_iter (fun s : Int × Int × Int × Int × Int => AW Γ mX12_took 2 (0, r) (85, τ) 0 0 88 [some (vR 57), some (vI a0), some (vI a1), some (vI (s.1)), some (vI (s.2.1)), some (vI (s.2.2.1)), some (vI (s.2.2.2.1)), some (vI (s.2.2.2.2)), none, none] [] (85, σ14)) (fun s y h hk20 hb20 => ?_) _ _ hi20
          obtain ⟨z15, z16, z17, z18, z19⟩ := s
          show AW Γ mX12_took 2 (0, r) (85, τ) 0 0 88 [some (vR 57), some (vI a0), some (vI a1), some (vI z15), some (vI z16), some (vI z17), some (vI z18), some (vI z19), none, none] [] (85, σ14)
          have h : X12_took_l88 n σ14 a0 z15 z16 z17 z18 z19 = some y := h
          unfold X12_took_l88 at h
          refine AW.iload (n := 90) (dat D_X12_took 52 rfl) rfl rfl ?_
          refine AW.aload_n (n := 91) (dat D_X12_took 53 rfl) rfl rfl ?_
          obtain ⟨v26, hc25, h⟩ := ob_some h
          refine AW.cV (n := 94) (as := []) (st := [vI z19]) (st' := [vI v26, vI z19]) (uc' := 0) (us' := 0) (A_X12_surfers hΓ hc25) cf_X12_surfers ly_57 (le45 rfl) vc_12 (le45 rfl) wM_X12_378 (le45 rfl) (le45 rfl) (dat D_X12_took 54 rfl) rfl rfl (le45 rfl) (le45 rfl) rfl (fun _ => ?_) nlt0
          refine AW.icmp_geH (t := 202) (n := 97) h (dat D_X12_took 55 rfl) rfl rfl rfl rfl (fun h => ?_) (fun h => ?_)
          · cases h
            have hb := hb20 _ rfl
            cases hb
            exact AW.to hR20 (lle_n (lle_n (lle_s rfl (lle_s rfl (lle_s rfl (lle_s rfl (lle_s rfl (lle_n (lle_n (lle_n (lle_z)))))))))))
          · refine AW.iconst (n := 98) (dat D_X12_took 56 rfl) rfl ?_
            refine AW.istore (n := 100) (ls' := [some (vR 57), some (vI a0), some (vI a1), some (vI z15), some (vI z16), some (vI z17), some (vI z18), some (vI z19), some (vI 0), none]) (dat D_X12_took 57 rfl) rfl (le45 rfl) (le45 rfl) rfl rfl ?_
            obtain ⟨b32, hi32, hq32⟩ := ob_some h
            obtain ⟨e33, e34, e35, e36⟩ := b32
            have hR32 : AW Γ mX12_took 2 (0, r) (85, τ) 0 0 196 [some (vR 57), some (vI a0), some (vI a1), some (vI e33), some (vI e34), some (vI e35), some (vI e36), some (vI z19), none, none] [] (85, σ14) := by
              have h : X12_took_e100 n z19 e33 e34 e35 e36 = some _ := hq32
              unfold X12_took_e100 at h
              refine AW.iincH h (n := 199) (dat D_X12_took 112 rfl) rfl rfl (le45 rfl) rfl (fun x37 h => ?_)
              refine AW.lq (ls' := [some (vR 57), some (vI a0), some (vI a1), some (vI e33), some (vI e34), some (vI e35), some (vI e36), some (vI x37), none, none]) rfl ?_
              refine AW.goto (t := 88) (dat D_X12_took 113 rfl) rfl ?_
              cases h
              exact AW.to (hk20 _ rfl) (lle_s rfl (lle_s rfl (lle_s rfl (lle_s rfl (lle_s rfl (lle_s rfl (lle_s rfl (lle_s rfl (lle_n (lle_n (lle_z)))))))))))
            refine AW.to (ls'' := [some (vR 57), some (vI a0), some (vI a1), some (vI z15), some (vI z16), some (vI z17), some (vI z18), some (vI z19), some (vI 0), none]) ?_ (lle_s rfl (lle_s rfl (lle_s rfl (lle_s rfl (lle_s rfl (lle_s rfl (lle_s rfl (lle_s rfl (lle_s rfl (lle_n (lle_z)))))))))))
            refine aw_iter (fun s : Int × Int × Int × Int × Int => AW Γ mX12_took 2 (0, r) (85, τ) 0 0 100 [some (vR 57), some (vI a0), some (vI a1), some (vI (s.1)), some (vI (s.2.1)), some (vI (s.2.2.1)), some (vI (s.2.2.2.1)), some (vI z19), some (vI (s.2.2.2.2)), none] [] (85, σ14)) (fun s y h hk32 hb32 => ?_) _ _ hi32
            obtain ⟨z27, z28, z29, z30, z31⟩ := s
            show AW Γ mX12_took 2 (0, r) (85, τ) 0 0 100 [some (vR 57), some (vI a0), some (vI a1), some (vI z27), some (vI z28), some (vI z29), some (vI z30), some (vI z19), some (vI z31), none] [] (85, σ14)
            have h : X12_took_l100 n z19 σ14 a0 z27 z28 z29 z30 z31 = some y := h
            unfold X12_took_l100 at h
            refine AW.iload (n := 102) (dat D_X12_took 58 rfl) rfl rfl ?_
            refine AW.aload_n (n := 103) (dat D_X12_took 59 rfl) rfl rfl ?_
            refine AW.getR (n := 106) (t := 72) fX12_42 wF_X12_68 ly_57 (le45 rfl) rfl (dat D_X12_took 60 rfl) rfl ?_
            refine AW.iload (n := 108) (dat D_X12_took 61 rfl) rfl rfl ?_
            refine AW.ialdH h (n := 109) rfl ly_72 (le45 rfl) (dat D_X12_took 62 rfl) rfl (fun j38 h => ?_)
            refine AW.icmp_geH (t := 196) (n := 112) h (dat D_X12_took 63 rfl) rfl rfl rfl rfl (fun h => ?_) (fun h => ?_)
            · cases h
              have hb := hb32 _ rfl
              cases hb
              exact AW.to hR32 (lle_s rfl (lle_s rfl (lle_s rfl (lle_s rfl (lle_s rfl (lle_s rfl (lle_s rfl (lle_s rfl (lle_n (lle_n (lle_z)))))))))))
            · refine AW.bipush (n := 114) (dat D_X12_took 64 rfl) rfl (by decide) ?_
              refine AW.bipush (n := 116) (dat D_X12_took 65 rfl) rfl (by decide) ?_
              refine AW.iload (n := 118) (dat D_X12_took 66 rfl) rfl rfl ?_
              refine AW.imul (n := 119) (dat D_X12_took 67 rfl) rfl ?_
              refine AW.iload (n := 121) (dat D_X12_took 68 rfl) rfl rfl ?_
              refine AW.iadd (n := 122) (dat D_X12_took 69 rfl) rfl ?_
              refine AW.imul (n := 123) (dat D_X12_took 70 rfl) rfl ?_
              refine AW.ltI h (fun x39 h => ?_)
              refine AW.istore (n := 125) (ls' := [some (vR 57), some (vI a0), some (vI a1), some (vI z27), some (vI z28), some (vI z29), some (vI z30), some (vI z19), some (vI z31), some (vI x39)]) (dat D_X12_took 71 rfl) rfl (le45 rfl) (le45 rfl) rfl rfl ?_
              refine AW.aload_n (n := 126) (dat D_X12_took 72 rfl) rfl rfl ?_
              refine AW.getR (n := 129) (t := 79) fX12_49 wF_X12_90 ly_57 (le45 rfl) rfl (dat D_X12_took 73 rfl) rfl ?_
              refine AW.iload (n := 131) (dat D_X12_took 74 rfl) rfl rfl ?_
              refine AW.iconst (n := 132) (dat D_X12_took 75 rfl) rfl ?_
              refine AW.iadd (n := 133) (dat D_X12_took 76 rfl) rfl ?_
              refine AW.ialdH h (n := 134) rfl ly_79 (le45 rfl) (dat D_X12_took 77 rfl) rfl (fun j40 h => ?_)
              refine AW.iload_n (n := 135) (dat D_X12_took 78 rfl) rfl rfl ?_
              obtain ⟨s45, h, hq45⟩ := ob_some h
              obtain ⟨y41, y42, y43, y44⟩ := s45
              have hJ45 : AW Γ mX12_took 2 (0, r) (85, τ) 0 0 190 [some (vR 57), some (vI a0), some (vI a1), some (vI y41), some (vI y42), some (vI y43), some (vI y44), some (vI z19), some (vI z31), none] [] (85, σ14) := by
                have h : X12_took_j190 n z31 y41 y42 y43 y44 = some _ := hq45
                unfold X12_took_j190 at h
                refine AW.iincH h (n := 193) (dat D_X12_took 110 rfl) rfl rfl (le45 rfl) rfl (fun x46 h => ?_)
                refine AW.lq (ls' := [some (vR 57), some (vI a0), some (vI a1), some (vI y41), some (vI y42), some (vI y43), some (vI y44), some (vI z19), some (vI x46), none]) rfl ?_
                refine AW.goto (t := 100) (dat D_X12_took 111 rfl) rfl ?_
                cases h
                exact AW.to (hk32 _ rfl) (lle_s rfl (lle_s rfl (lle_s rfl (lle_s rfl (lle_s rfl (lle_s rfl (lle_s rfl (lle_s rfl (lle_s rfl (lle_n (lle_z)))))))))))
              refine AW.icmp_eqH (t := 141) (n := 138) h (dat D_X12_took 79 rfl) rfl rfl rfl rfl (fun h => ?_) (fun h => ?_)
              · refine AW.iload_n (n := 142) (dat D_X12_took 81 rfl) rfl rfl ?_
                refine AW.iconst (n := 143) (dat D_X12_took 82 rfl) rfl ?_
                refine AW.iload (n := 145) (dat D_X12_took 83 rfl) rfl rfl ?_
                refine AW.ishl (n := 146) (dat D_X12_took 84 rfl) rfl ?_
                refine AW.ior (n := 147) (dat D_X12_took 85 rfl) rfl ?_
                refine AW.ltI h (fun x47 h => ?_)
                refine AW.istore_n (n := 148) (ls' := [some (vR 57), some (vI a0), some (vI a1), some (vI x47), some (vI z28), some (vI z29), some (vI z30), some (vI z19), some (vI z31), some (vI x39)]) (dat D_X12_took 86 rfl) rfl (le45 rfl) (le45 rfl) rfl rfl ?_
                refine AW.iload (n := 150) (dat D_X12_took 87 rfl) rfl rfl ?_
                refine AW.aload_n (n := 151) (dat D_X12_took 88 rfl) rfl rfl ?_
                refine AW.getR (n := 154) (t := 79) fX12_49 wF_X12_90 ly_57 (le45 rfl) rfl (dat D_X12_took 89 rfl) rfl ?_
                refine AW.iload (n := 156) (dat D_X12_took 90 rfl) rfl rfl ?_
                refine AW.iconst (n := 157) (dat D_X12_took 91 rfl) rfl ?_
                refine AW.iadd (n := 158) (dat D_X12_took 92 rfl) rfl ?_
                refine AW.ialdH h (n := 159) rfl ly_79 (le45 rfl) (dat D_X12_took 93 rfl) rfl (fun j48 h => ?_)
                refine AW.iadd (n := 160) (dat D_X12_took 94 rfl) rfl ?_
                refine AW.ltI h (fun x49 h => ?_)
                refine AW.istore (n := 162) (ls' := [some (vR 57), some (vI a0), some (vI a1), some (vI x47), some (vI z28), some (vI z29), some (vI x49), some (vI z19), some (vI z31), some (vI x39)]) (dat D_X12_took 95 rfl) rfl (le45 rfl) (le45 rfl) rfl rfl ?_
                refine AW.aload_n (n := 163) (dat D_X12_took 96 rfl) rfl rfl ?_
                refine AW.getR (n := 166) (t := 79) fX12_49 wF_X12_90 ly_57 (le45 rfl) rfl (dat D_X12_took 97 rfl) rfl ?_
                refine AW.iload (n := 168) (dat D_X12_took 98 rfl) rfl rfl ?_
                refine AW.ialdH h (n := 169) rfl ly_79 (le45 rfl) (dat D_X12_took 99 rfl) rfl (fun j50 h => ?_)
                refine AW.iload (n := 171) (dat D_X12_took 100 rfl) rfl rfl ?_
                refine AW.icmp_gtH (t := 177) (n := 174) h (dat D_X12_took 101 rfl) rfl rfl rfl rfl (fun h => ?_) (fun h => ?_)
                · refine AW.aload_n (n := 178) (dat D_X12_took 103 rfl) rfl rfl ?_
                  refine AW.getR (n := 181) (t := 79) fX12_49 wF_X12_90 ly_57 (le45 rfl) rfl (dat D_X12_took 104 rfl) rfl ?_
                  refine AW.iload (n := 183) (dat D_X12_took 105 rfl) rfl rfl ?_
                  refine AW.ialdH h (n := 184) rfl ly_79 (le45 rfl) (dat D_X12_took 106 rfl) rfl (fun j51 h => ?_)
                  refine AW.ltI h (fun x52 h => ?_)
                  refine AW.istore (n := 186) (ls' := [some (vR 57), some (vI a0), some (vI a1), some (vI x47), some (vI x52), some (vI z29), some (vI x49), some (vI z19), some (vI z31), some (vI x39)]) (dat D_X12_took 107 rfl) rfl (le45 rfl) (le45 rfl) rfl rfl ?_
                  refine AW.iload (n := 188) (dat D_X12_took 108 rfl) rfl rfl ?_
                  refine AW.istore (n := 190) (ls' := [some (vR 57), some (vI a0), some (vI a1), some (vI x47), some (vI x52), some (vI z19), some (vI x49), some (vI z19), some (vI z31), some (vI x39)]) (dat D_X12_took 109 rfl) rfl (le45 rfl) (le45 rfl) rfl rfl ?_
                  cases h
                  exact AW.to hJ45 (lle_s rfl (lle_s rfl (lle_s rfl (lle_s rfl (lle_s rfl (lle_s rfl (lle_s rfl (lle_s rfl (lle_s rfl (lle_n (lle_z)))))))))))
                · refine AW.goto (t := 190) (dat D_X12_took 102 rfl) rfl ?_
                  cases h
                  exact AW.to hJ45 (lle_s rfl (lle_s rfl (lle_s rfl (lle_s rfl (lle_s rfl (lle_s rfl (lle_s rfl (lle_s rfl (lle_s rfl (lle_n (lle_z)))))))))))
              · refine AW.goto (t := 190) (dat D_X12_took 80 rfl) rfl ?_
                cases h
                exact AW.to hJ45 (lle_s rfl (lle_s rfl (lle_s rfl (lle_s rfl (lle_s rfl (lle_s rfl (lle_s rfl (lle_s rfl (lle_s rfl (lle_n (lle_z)))))))))))
        · refine AW.iconst (n := 73) (dat D_X12_took 40 rfl) rfl ?_
          cases h
          exact AW.iret rfl rfl rfl (dat D_X12_took 41 rfl)
      refine AW.icmp_geH (t := 60) (n := 43) h (dat D_X12_took 24 rfl) rfl rfl rfl rfl (fun h => ?_) (fun h => ?_)
      · refine AW.iconst (n := 61) (dat D_X12_took 34 rfl) rfl ?_
        refine AW.goto (t := 65) (dat D_X12_took 35 rfl) rfl ?_
        cases h
        exact AW.to hJ11 (lle_s rfl (lle_s rfl (lle_s rfl (lle_n (lle_n (lle_n (lle_n (lle_n (lle_n (lle_n (lle_z)))))))))))
      · refine AW.iload_n (n := 44) (dat D_X12_took 25 rfl) rfl rfl ?_
        refine AW.aload_n (n := 45) (dat D_X12_took 26 rfl) rfl rfl ?_
        refine AW.getI (n := 48) fX12_27 wF_X12_49 ly_57 (le45 rfl) rfl rfl (dat D_X12_took 27 rfl) rfl ?_
        refine AW.icmp_eqH (t := 60) (n := 51) h (dat D_X12_took 28 rfl) rfl rfl rfl rfl (fun h => ?_) (fun h => ?_)
        · refine AW.iconst (n := 61) (dat D_X12_took 34 rfl) rfl ?_
          refine AW.goto (t := 65) (dat D_X12_took 35 rfl) rfl ?_
          cases h
          exact AW.to hJ11 (lle_s rfl (lle_s rfl (lle_s rfl (lle_n (lle_n (lle_n (lle_n (lle_n (lle_n (lle_n (lle_z)))))))))))
        · refine AW.iload_n (n := 52) (dat D_X12_took 29 rfl) rfl rfl ?_
          refine AW.iconst (n := 53) (dat D_X12_took 30 rfl) rfl ?_
          refine AW.iconst (n := 54) (dat D_X12_took 31 rfl) rfl ?_
          obtain ⟨v54, hc53, h⟩ := ob_some h
          refine AW.cS (n := 57) (as := [vI a1, vI 0, vI 3]) (st := [vR 57]) (st' := [vI v54, vR 57]) (uc' := 0) (us' := 0) (A_X12_in hΓ hc53) cf_X12_in rfl wM_X12_164 (le45 rfl) (le45 rfl) (dat D_X12_took 32 rfl) rfl rfl (le45 rfl) (le45 rfl) rfl (fun _ => ?_) nlt0
          refine AW.if_neH (t := 64) (n := 60) h (dat D_X12_took 33 rfl) rfl rfl (fun h => ?_) (fun h => ?_)
          · refine AW.iconst (n := 61) (dat D_X12_took 34 rfl) rfl ?_
            refine AW.goto (t := 65) (dat D_X12_took 35 rfl) rfl ?_
            cases h
            exact AW.to hJ11 (lle_s rfl (lle_s rfl (lle_s rfl (lle_n (lle_n (lle_n (lle_n (lle_n (lle_n (lle_n (lle_z)))))))))))
          · refine AW.iconst (n := 65) (dat D_X12_took 36 rfl) rfl ?_
            cases h
            exact AW.to hJ11 (lle_s rfl (lle_s rfl (lle_s rfl (lle_n (lle_n (lle_n (lle_n (lle_n (lle_n (lle_n (lle_z)))))))))))
    · refine AW.iconst (n := 73) (dat D_X12_took 40 rfl) rfl ?_
      cases h
      exact AW.iret rfl rfl rfl (dat D_X12_took 41 rfl)
  refine AW.if_neH (t := 26) (n := 22) h (dat D_X12_took 13 rfl) rfl rfl (fun h => ?_) (fun h => ?_)
  · refine AW.iconst (n := 23) (dat D_X12_took 14 rfl) rfl ?_
    refine AW.goto (t := 27) (dat D_X12_took 15 rfl) rfl ?_
    cases h
    exact AW.to hJ6 (lle_s rfl (lle_s rfl (lle_s rfl (lle_n (lle_n (lle_n (lle_n (lle_n (lle_n (lle_n (lle_z)))))))))))
  · refine AW.iconst (n := 27) (dat D_X12_took 16 rfl) rfl ?_
    cases h
    exact AW.to hJ6 (lle_s rfl (lle_s rfl (lle_s rfl (lle_n (lle_n (lle_n (lle_n (lle_n (lle_n (lle_n (lle_z)))))))))))
def L_X12_isAway : List (Nat × Instr × Nat) := [(0, .aload_n 0, 1), (1, .iload_n 1, 1), (2, .invokevirtual 416, 3), (5, .ifCond .ne 11, 3), (8, .aload_n 0, 1), (9, .iload_n 1, 1), (10, .invokevirtual 387, 3), (13, .ifCond .eq 7, 3), (16, .iconst 1, 1), (17, .goto 4, 3), (20, .iconst 0, 1), (21, .ireturn, 1)]
theorem D_X12_isAway : dOK cX12_isAway L_X12_isAway = true := by decide +kernel
theorem cf_X12_isAway : CFV mX12_isAway 1 := ⟨wI_X12_isAway, wS_X12_isAway, wN_WaveRightModel, wC_X12_isAway, rfl, ⟨by decide +kernel, by decide +kernel, by decide +kernel⟩, le45 rfl⟩
def X12_isAway (n : Nat) (a0 : Int) (σ : SG) : Option (Int) :=
  (X12_isSentIn n a0 σ).bind fun v2 =>
  if w32 v2 = 0 then
    (X12_hasTaken n a0 σ).bind fun v4 =>
    if w32 v4 = 0 then
      some (0)
    else
      some (1)
  else
    some (1)
set_option maxHeartbeats 4000000 in
set_option maxRecDepth 100000 in
theorem A_X12_isAway {Γ : GA} (hΓ : (gl Γ).stackTraces = false) {n : Nat} {a0 : Int} {σ : SG} {r : Int}  (h : X12_isAway n a0 σ = some r) : AM Γ mX12_isAway 2 0 0 [vR 57, vI a0] (85, σ) (0, r) (85, σ) := by
  refine AM.of pl_X12 rfl wC_X12_isAway (le45 rfl) hΓ ?_
  refine AW.to (ls'' := [some (vR 57), some (vI a0)]) ?_ (lle_s rfl (lle_s rfl (lle_z)))
  unfold X12_isAway at h
  refine AW.aload_n (n := 1) (dat D_X12_isAway 0 rfl) rfl rfl ?_
  refine AW.iload_n (n := 2) (dat D_X12_isAway 1 rfl) rfl rfl ?_
  obtain ⟨v2, hc1, h⟩ := ob_some h
  refine AW.cV (n := 5) (as := [vI a0]) (st := []) (st' := [vI v2]) (uc' := 0) (us' := 0) (A_X12_isSentIn hΓ hc1) cf_X12_isSentIn ly_57 (le45 rfl) vc_12 (le45 rfl) wM_X12_416 (le45 rfl) (le45 rfl) (dat D_X12_isAway 2 rfl) rfl rfl (le45 rfl) (le45 rfl) rfl (fun _ => ?_) nlt0
  refine AW.if_neH (t := 16) (n := 8) h (dat D_X12_isAway 3 rfl) rfl rfl (fun h => ?_) (fun h => ?_)
  · refine AW.aload_n (n := 9) (dat D_X12_isAway 4 rfl) rfl rfl ?_
    refine AW.iload_n (n := 10) (dat D_X12_isAway 5 rfl) rfl rfl ?_
    obtain ⟨v4, hc3, h⟩ := ob_some h
    refine AW.cV (n := 13) (as := [vI a0]) (st := []) (st' := [vI v4]) (uc' := 0) (us' := 0) (A_X12_hasTaken hΓ hc3) cf_X12_hasTaken ly_57 (le45 rfl) vc_12 (le45 rfl) wM_X12_387 (le45 rfl) (le45 rfl) (dat D_X12_isAway 6 rfl) rfl rfl (le45 rfl) (le45 rfl) rfl (fun _ => ?_) nlt0
    refine AW.if_eqH (t := 20) (n := 16) h (dat D_X12_isAway 7 rfl) rfl rfl (fun h => ?_) (fun h => ?_)
    · refine AW.iconst (n := 21) (dat D_X12_isAway 10 rfl) rfl ?_
      cases h
      exact AW.zret rfl (by decide) rfl rfl (dat D_X12_isAway 11 rfl)
    · refine AW.iconst (n := 17) (dat D_X12_isAway 8 rfl) rfl ?_
      refine AW.goto (t := 21) (dat D_X12_isAway 9 rfl) rfl ?_
      cases h
      exact AW.zret rfl (by decide) rfl rfl (dat D_X12_isAway 11 rfl)
  · refine AW.iconst (n := 17) (dat D_X12_isAway 8 rfl) rfl ?_
    refine AW.goto (t := 21) (dat D_X12_isAway 9 rfl) rfl ?_
    cases h
    exact AW.zret rfl (by decide) rfl rfl (dat D_X12_isAway 11 rfl)
def L_X12_swimsTo : List (Nat × Instr × Nat) := [(0, .aload_n 0, 1), (1, .getfield 86, 3), (4, .iload_n 1, 1), (5, .baload, 1), (6, .ifCond .eq 10, 3), (9, .aload_n 0, 1), (10, .getfield 352, 3), (13, .goto 9, 3), (16, .aload_n 0, 1), (17, .getfield 62, 3), (20, .iload_n 1, 1), (21, .iaload, 1), (22, .iload_n 2, 1), (23, .aload_n 0, 1), (24, .getfield 56, 3), (27, .iload_n 1, 1), (28, .iaload, 1), (29, .isub, 1), (30, .invokestatic 336, 3), (33, .aload_n 0, 1), (34, .getfield 21, 3), (37, .bipush 39, 2), (39, .iload_n 1, 1), (40, .iadd, 1), (41, .iaload, 1), (42, .iadd, 1), (43, .iconst 1, 1), (44, .isub, 1), (45, .aload_n 0, 1), (46, .getfield 21, 3), (49, .bipush 39, 2), (51, .iload_n 1, 1), (52, .iadd, 1), (53, .iaload, 1), (54, .idiv, 1), (55, .iadd, 1), (56, .ireturn, 1)]
theorem D_X12_swimsTo : dOK cX12_swimsTo L_X12_swimsTo = true := by decide +kernel
theorem cf_X12_swimsTo : CFV mX12_swimsTo 2 := ⟨wI_X12_swimsTo, wS_X12_swimsTo, wN_WaveRightModel, wC_X12_swimsTo, rfl, ⟨by decide +kernel, by decide +kernel, by decide +kernel⟩, le45 rfl⟩
def X12_swimsTo_j22 (n : Nat) (a0 : Int) (σ : SG) (a1 : Int) (y2 : Int) : Option (Int) :=
  rdA 5 a0 fun j4 =>
  rdA 144 (39 + a0) fun j5 =>
  rdA 144 (39 + a0) fun j6 =>
  if w32 (σ 60 j6) = 0 then none else
  some ((y2 + (dv32 (((ab32 (a1 - (σ 68 j4))) + (σ 60 j5)) - 1) (σ 60 j6))))
def X12_swimsTo (n : Nat) (a0 : Int) (a1 : Int) (σ : SG) : Option (Int) :=
  rdA 5 a0 fun j1 =>
  ((if w32 (σ 78 j1) = 0 then
    rdA 5 a0 fun j8 =>
    some ((σ 70 j8))
  else
    some ((σ 57 25))) : Option (Int)).bind (fun s => X12_swimsTo_j22 n a0 σ a1 s)
set_option maxHeartbeats 4000000 in
set_option maxRecDepth 100000 in
theorem A_X12_swimsTo {Γ : GA} (hΓ : (gl Γ).stackTraces = false) {n : Nat} {a0 : Int} {a1 : Int} {σ : SG} {r : Int}  (h : X12_swimsTo n a0 a1 σ = some r) : AM Γ mX12_swimsTo 2 0 0 [vR 57, vI a0, vI a1] (85, σ) (0, r) (85, σ) := by
  refine AM.of pl_X12 rfl wC_X12_swimsTo (le45 rfl) hΓ ?_
  refine AW.to (ls'' := [some (vR 57), some (vI a0), some (vI a1)]) ?_ (lle_s rfl (lle_s rfl (lle_s rfl (lle_z))))
  unfold X12_swimsTo at h
  refine AW.aload_n (n := 1) (dat D_X12_swimsTo 0 rfl) rfl rfl ?_
  refine AW.getR (n := 4) (t := 78) fX12_48 wF_X12_86 ly_57 (le45 rfl) rfl (dat D_X12_swimsTo 1 rfl) rfl ?_
  refine AW.iload_n (n := 5) (dat D_X12_swimsTo 2 rfl) rfl rfl ?_
  refine AW.zaldH h (n := 6) rfl ly_78 (le45 rfl) (dat D_X12_swimsTo 3 rfl) rfl (fun j1 h => ?_)
  obtain ⟨s3, h, hq3⟩ := ob_some h
  obtain ⟨y2, e3⟩ : ∃ z, z = s3 := ⟨_, rfl⟩
  subst e3
  have hJ3 : AW Γ mX12_swimsTo 2 (0, r) (85, σ) 0 0 22 [some (vR 57), some (vI a0), some (vI a1)] [vI y2] (85, σ) := by
    have h : X12_swimsTo_j22 n a0 σ a1 y2 = some _ := hq3
    unfold X12_swimsTo_j22 at h
    refine AW.iload_n (n := 23) (dat D_X12_swimsTo 12 rfl) rfl rfl ?_
    refine AW.aload_n (n := 24) (dat D_X12_swimsTo 13 rfl) rfl rfl ?_
    refine AW.getR (n := 27) (t := 68) fX12_38 wF_X12_56 ly_57 (le45 rfl) rfl (dat D_X12_swimsTo 14 rfl) rfl ?_
    refine AW.iload_n (n := 28) (dat D_X12_swimsTo 15 rfl) rfl rfl ?_
    refine AW.ialdH h (n := 29) rfl ly_68 (le45 rfl) (dat D_X12_swimsTo 16 rfl) rfl (fun j4 h => ?_)
    refine AW.isub (n := 30) (dat D_X12_swimsTo 17 rfl) rfl ?_
    refine AW.mabs (n := 33) wM_X12_336 (le45 rfl) (le45 rfl) (dat D_X12_swimsTo 18 rfl) rfl ?_
    refine AW.aload_n (n := 34) (dat D_X12_swimsTo 19 rfl) rfl rfl ?_
    refine AW.getR (n := 37) (t := 60) fX12_9 wF_X12_21 ly_57 (le45 rfl) rfl (dat D_X12_swimsTo 20 rfl) rfl ?_
    refine AW.bipush (n := 39) (dat D_X12_swimsTo 21 rfl) rfl (by decide) ?_
    refine AW.iload_n (n := 40) (dat D_X12_swimsTo 22 rfl) rfl rfl ?_
    refine AW.iadd (n := 41) (dat D_X12_swimsTo 23 rfl) rfl ?_
    refine AW.ialdH h (n := 42) rfl ly_60 (le45 rfl) (dat D_X12_swimsTo 24 rfl) rfl (fun j5 h => ?_)
    refine AW.iadd (n := 43) (dat D_X12_swimsTo 25 rfl) rfl ?_
    refine AW.iconst (n := 44) (dat D_X12_swimsTo 26 rfl) rfl ?_
    refine AW.isub (n := 45) (dat D_X12_swimsTo 27 rfl) rfl ?_
    refine AW.aload_n (n := 46) (dat D_X12_swimsTo 28 rfl) rfl rfl ?_
    refine AW.getR (n := 49) (t := 60) fX12_9 wF_X12_21 ly_57 (le45 rfl) rfl (dat D_X12_swimsTo 29 rfl) rfl ?_
    refine AW.bipush (n := 51) (dat D_X12_swimsTo 30 rfl) rfl (by decide) ?_
    refine AW.iload_n (n := 52) (dat D_X12_swimsTo 31 rfl) rfl rfl ?_
    refine AW.iadd (n := 53) (dat D_X12_swimsTo 32 rfl) rfl ?_
    refine AW.ialdH h (n := 54) rfl ly_60 (le45 rfl) (dat D_X12_swimsTo 33 rfl) rfl (fun j6 h => ?_)
    obtain ⟨q7, h⟩ := ite_n h
    refine AW.idiv (n := 55) (dat D_X12_swimsTo 34 rfl) rfl q7 ?_
    refine AW.iadd (n := 56) (dat D_X12_swimsTo 35 rfl) rfl ?_
    cases h
    exact AW.iret rfl rfl rfl (dat D_X12_swimsTo 36 rfl)
  refine AW.if_eqH (t := 16) (n := 9) h (dat D_X12_swimsTo 4 rfl) rfl rfl (fun h => ?_) (fun h => ?_)
  · refine AW.aload_n (n := 17) (dat D_X12_swimsTo 8 rfl) rfl rfl ?_
    refine AW.getR (n := 20) (t := 70) fX12_40 wF_X12_62 ly_57 (le45 rfl) rfl (dat D_X12_swimsTo 9 rfl) rfl ?_
    refine AW.iload_n (n := 21) (dat D_X12_swimsTo 10 rfl) rfl rfl ?_
    refine AW.ialdH h (n := 22) rfl ly_70 (le45 rfl) (dat D_X12_swimsTo 11 rfl) rfl (fun j8 h => ?_)
    cases h
    exact AW.to hJ3 (lle_s rfl (lle_s rfl (lle_s rfl (lle_z))))
  · refine AW.aload_n (n := 10) (dat D_X12_swimsTo 5 rfl) rfl rfl ?_
    refine AW.getI (n := 13) fX12_25 wF_X12_352 ly_57 (le45 rfl) rfl rfl (dat D_X12_swimsTo 6 rfl) rfl ?_
    refine AW.goto (t := 22) (dat D_X12_swimsTo 7 rfl) rfl ?_
    cases h
    exact AW.to hJ3 (lle_s rfl (lle_s rfl (lle_s rfl (lle_z))))
def L_X12_swim : List (Nat × Instr × Nat) := [(0, .aload_n 0, 1), (1, .iconst 0, 1), (2, .putfield 105, 3), (5, .aload_n 0, 1), (6, .iload_n 1, 1), (7, .invokevirtual 435, 3), (10, .ifCond .ne 39, 3), (13, .aload_n 0, 1), (14, .iload_n 2, 1), (15, .iconst 0, 1), (16, .bipush 40, 2), (18, .invokestatic 164, 3), (21, .ifCond .ne 7, 3), (24, .iconst 1, 1), (25, .goto 4, 3), (28, .iconst 0, 1), (29, .iconst 2, 1), (30, .invokevirtual 230, 3), (33, .ifCond .ne 16, 3), (36, .aload_n 0, 1), (37, .aload_n 0, 1), (38, .iload_n 1, 1), (39, .invokevirtual 455, 3), (42, .iconst 3, 1), (43, .invokevirtual 230, 3), (46, .ifCond .eq 5, 3), (49, .iconst 0, 1), (50, .ireturn, 1), (51, .aload_n 0, 1), (52, .iload_n 1, 1), (53, .iload_n 2, 1), (54, .invokevirtual 458, 3), (57, .ireturn, 1)]
theorem D_X12_swim : dOK cX12_swim L_X12_swim = true := by decide +kernel
theorem cf_X12_swim : CFV mX12_swim 2 := ⟨wI_X12_swim, wS_X12_swim, wN_WaveRightModel, wC_X12_swim, rfl, ⟨by decide +kernel, by decide +kernel, by decide +kernel⟩, le45 rfl⟩
def X12_swim_j29 (n : Nat) (σ4 : SG) (a0 : Int) (a1 : Int) (y7 : Int) : Option (Int × SG) :=
  bnd2 (X12_throwsIf n y7 2 σ4) fun v10 σ11 =>
  if w32 v10 = 0 then
    (X12_isAway n a0 σ11).bind fun v13 =>
    bnd2 (X12_throwsIf n v13 3 σ11) fun v15 σ16 =>
    if w32 v15 = 0 then
      (X12_swimsTo n a0 a1 σ16).bind fun v18 =>
      some ((v18, σ16))
    else
      some ((0, σ16))
  else
    some ((0, σ11))
def X12_swim (n : Nat) (a0 : Int) (a1 : Int) (σ : SG) : Option (Int × SG) :=
  lt (up σ 57 0 0) fun σ1 =>
  bnd2 (X12_noSurfer n a0 σ1) fun v3 σ4 =>
  if w32 v3 = 0 then
    (X12_in n a1 0 40 σ4).bind fun v6 =>
    ((if w32 v6 = 0 then
      some (1)
    else
      some (0)) : Option (Int)).bind (fun s => X12_swim_j29 n σ4 a0 a1 s)
  else
    some ((0, σ4))
set_option maxHeartbeats 4000000 in
set_option maxRecDepth 100000 in
theorem A_X12_swim {Γ : GA} (hΓ : (gl Γ).stackTraces = false) {n : Nat} {a0 : Int} {a1 : Int} {σ : SG} {r : Int} {τ : SG}  (h : X12_swim n a0 a1 σ = some (r, τ)) : AM Γ mX12_swim 3 0 0 [vR 57, vI a0, vI a1] (85, σ) (0, r) (85, τ) := by
  refine AM.of pl_X12 rfl wC_X12_swim (le45 rfl) hΓ ?_
  refine AW.to (ls'' := [some (vR 57), some (vI a0), some (vI a1)]) ?_ (lle_s rfl (lle_s rfl (lle_s rfl (lle_z))))
  unfold X12_swim at h
  refine AW.aload_n (n := 1) (dat D_X12_swim 0 rfl) rfl rfl ?_
  refine AW.iconst (n := 2) (dat D_X12_swim 1 rfl) rfl ?_
  refine AW.putI (n := 5) fX12_0 wF_X12_105 ly_57 (le45 rfl) rfl rfl rfl (dat D_X12_swim 2 rfl) rfl ?_
  refine AW.ltS h (fun σ1 h => ?_)
  refine AW.aload_n (n := 6) (dat D_X12_swim 3 rfl) rfl rfl ?_
  refine AW.iload_n (n := 7) (dat D_X12_swim 4 rfl) rfl rfl ?_
  obtain ⟨v3, σ4, hc2, h⟩ := bnd2_some h
  refine AW.cV (n := 10) (as := [vI a0]) (st := []) (st' := [vI v3]) (uc' := 0) (us' := 0) (A_X12_noSurfer hΓ hc2) cf_X12_noSurfer ly_57 (le45 rfl) vc_12 (le45 rfl) wM_X12_435 (le45 rfl) (le45 rfl) (dat D_X12_swim 5 rfl) rfl rfl (le45 rfl) (le45 rfl) rfl (fun _ => ?_) nlt0
  refine AW.if_neH (t := 49) (n := 13) h (dat D_X12_swim 6 rfl) rfl rfl (fun h => ?_) (fun h => ?_)
  · refine AW.aload_n (n := 14) (dat D_X12_swim 7 rfl) rfl rfl ?_
    refine AW.iload_n (n := 15) (dat D_X12_swim 8 rfl) rfl rfl ?_
    refine AW.iconst (n := 16) (dat D_X12_swim 9 rfl) rfl ?_
    refine AW.bipush (n := 18) (dat D_X12_swim 10 rfl) rfl (by decide) ?_
    obtain ⟨v6, hc5, h⟩ := ob_some h
    refine AW.cS (n := 21) (as := [vI a1, vI 0, vI 40]) (st := [vR 57]) (st' := [vI v6, vR 57]) (uc' := 0) (us' := 0) (A_X12_in hΓ hc5) cf_X12_in rfl wM_X12_164 (le45 rfl) (le45 rfl) (dat D_X12_swim 11 rfl) rfl rfl (le45 rfl) (le45 rfl) rfl (fun _ => ?_) nlt0
    obtain ⟨s8, h, hq8⟩ := ob_some h
    obtain ⟨y7, e8⟩ : ∃ z, z = s8 := ⟨_, rfl⟩
    subst e8
    have hJ8 : AW Γ mX12_swim 3 (0, r) (85, τ) 0 0 29 [some (vR 57), some (vI a0), some (vI a1)] [vI y7, vR 57] (85, σ4) := by
      have h : X12_swim_j29 n σ4 a0 a1 y7 = some _ := hq8
      unfold X12_swim_j29 at h
      refine AW.iconst (n := 30) (dat D_X12_swim 16 rfl) rfl ?_
      obtain ⟨v10, σ11, hc9, h⟩ := bnd2_some h
      refine AW.cV (n := 33) (as := [vI y7, vI 2]) (st := []) (st' := [vI v10]) (uc' := 0) (us' := 0) (A_X12_throwsIf hΓ hc9) cf_X12_throwsIf ly_57 (le45 rfl) vc_12 (le45 rfl) wM_X12_230 (le45 rfl) (le45 rfl) (dat D_X12_swim 17 rfl) rfl rfl (le45 rfl) (le45 rfl) rfl (fun _ => ?_) nlt0
      refine AW.if_neH (t := 49) (n := 36) h (dat D_X12_swim 18 rfl) rfl rfl (fun h => ?_) (fun h => ?_)
      · refine AW.aload_n (n := 37) (dat D_X12_swim 19 rfl) rfl rfl ?_
        refine AW.aload_n (n := 38) (dat D_X12_swim 20 rfl) rfl rfl ?_
        refine AW.iload_n (n := 39) (dat D_X12_swim 21 rfl) rfl rfl ?_
        obtain ⟨v13, hc12, h⟩ := ob_some h
        refine AW.cV (n := 42) (as := [vI a0]) (st := [vR 57]) (st' := [vI v13, vR 57]) (uc' := 0) (us' := 0) (A_X12_isAway hΓ hc12) cf_X12_isAway ly_57 (le45 rfl) vc_12 (le45 rfl) wM_X12_455 (le45 rfl) (le45 rfl) (dat D_X12_swim 22 rfl) rfl rfl (le45 rfl) (le45 rfl) rfl (fun _ => ?_) nlt0
        refine AW.iconst (n := 43) (dat D_X12_swim 23 rfl) rfl ?_
        obtain ⟨v15, σ16, hc14, h⟩ := bnd2_some h
        refine AW.cV (n := 46) (as := [vI v13, vI 3]) (st := []) (st' := [vI v15]) (uc' := 0) (us' := 0) (A_X12_throwsIf hΓ hc14) cf_X12_throwsIf ly_57 (le45 rfl) vc_12 (le45 rfl) wM_X12_230 (le45 rfl) (le45 rfl) (dat D_X12_swim 24 rfl) rfl rfl (le45 rfl) (le45 rfl) rfl (fun _ => ?_) nlt0
        refine AW.if_eqH (t := 51) (n := 49) h (dat D_X12_swim 25 rfl) rfl rfl (fun h => ?_) (fun h => ?_)
        · refine AW.aload_n (n := 52) (dat D_X12_swim 28 rfl) rfl rfl ?_
          refine AW.iload_n (n := 53) (dat D_X12_swim 29 rfl) rfl rfl ?_
          refine AW.iload_n (n := 54) (dat D_X12_swim 30 rfl) rfl rfl ?_
          obtain ⟨v18, hc17, h⟩ := ob_some h
          refine AW.cV (n := 57) (as := [vI a0, vI a1]) (st := []) (st' := [vI v18]) (uc' := 0) (us' := 0) (A_X12_swimsTo hΓ hc17) cf_X12_swimsTo ly_57 (le45 rfl) vc_12 (le45 rfl) wM_X12_458 (le45 rfl) (le45 rfl) (dat D_X12_swim 31 rfl) rfl rfl (le45 rfl) (le45 rfl) rfl (fun _ => ?_) nlt0
          cases h
          exact AW.iret rfl rfl rfl (dat D_X12_swim 32 rfl)
        · refine AW.iconst (n := 50) (dat D_X12_swim 26 rfl) rfl ?_
          cases h
          exact AW.iret rfl rfl rfl (dat D_X12_swim 27 rfl)
      · refine AW.iconst (n := 50) (dat D_X12_swim 26 rfl) rfl ?_
        cases h
        exact AW.iret rfl rfl rfl (dat D_X12_swim 27 rfl)
    refine AW.if_neH (t := 28) (n := 24) h (dat D_X12_swim 12 rfl) rfl rfl (fun h => ?_) (fun h => ?_)
    · refine AW.iconst (n := 25) (dat D_X12_swim 13 rfl) rfl ?_
      refine AW.goto (t := 29) (dat D_X12_swim 14 rfl) rfl ?_
      cases h
      exact AW.to hJ8 (lle_s rfl (lle_s rfl (lle_s rfl (lle_z))))
    · refine AW.iconst (n := 29) (dat D_X12_swim 15 rfl) rfl ?_
      cases h
      exact AW.to hJ8 (lle_s rfl (lle_s rfl (lle_s rfl (lle_z))))
  · refine AW.iconst (n := 50) (dat D_X12_swim 26 rfl) rfl ?_
    cases h
    exact AW.iret rfl rfl rfl (dat D_X12_swim 27 rfl)
def L_X12_reach : List (Nat × Instr × Nat) := [(0, .aload_n 0, 1), (1, .iconst 0, 1), (2, .putfield 105, 3), (5, .aload_n 0, 1), (6, .iload_n 1, 1), (7, .invokevirtual 435, 3), (10, .ifCond .ne 75, 3), (13, .aload_n 0, 1), (14, .iload_n 2, 1), (15, .iconst 0, 1), (16, .aload_n 0, 1), (17, .getfield 21, 3), (20, .iconst 1, 1), (21, .iaload, 1), (22, .iconst 1, 1), (23, .isub, 1), (24, .invokestatic 164, 3), (27, .ifCond .ne 7, 3), (30, .iconst 1, 1), (31, .goto 4, 3), (34, .iconst 0, 1), (35, .iconst 1, 1), (36, .invokevirtual 230, 3), (39, .ifCond .ne 46, 3), (42, .aload_n 0, 1), (43, .iload_n 2, 1), (44, .aload_n 0, 1), (45, .getfield 354, 3), (48, .if_icmp .lt 12, 3), (51, .iload_n 3, 1), (52, .iconst 0, 1), (53, .iconst 2, 1), (54, .invokestatic 164, 3), (57, .ifCond .ne 7, 3), (60, .iconst 1, 1), (61, .goto 4, 3), (64, .iconst 0, 1), (65, .iconst 2, 1), (66, .invokevirtual 230, 3), (69, .ifCond .ne 16, 3), (72, .aload_n 0, 1), (73, .aload_n 0, 1), (74, .iload_n 1, 1), (75, .invokevirtual 455, 3), (78, .iconst 3, 1), (79, .invokevirtual 230, 3), (82, .ifCond .eq 5, 3), (85, .iconst 0, 1), (86, .ireturn, 1), (87, .iconst 0, 1), (88, .istore 4, 2), (90, .iconst (-1), 1), (91, .istore 5, 2), (93, .iconst (-1), 1), (94, .istore 6, 2), (96, .iconst 0, 1), (97, .istore 7, 2), (99, .iload 7, 2), (101, .bipush 40, 2), (103, .if_icmp .gt 74, 3), (106, .aload_n 0, 1), (107, .iload_n 1, 1), (108, .iload 7, 2), (110, .invokevirtual 458, 3), (113, .aload_n 0, 1), (114, .iload_n 2, 1), (115, .iconst 0, 1), (116, .invokevirtual 333, 3), (119, .if_icmp .gt 52, 3), (122, .aload_n 0, 1), (123, .iload_n 2, 1), (124, .iload 7, 2), (126, .iconst 0, 1), (127, .iconst 1, 1), (128, .invokevirtual 441, 3), (131, .ifCond .ne 18, 3), (134, .aload_n 0, 1), (135, .iload_n 2, 1), (136, .iload 7, 2), (138, .iconst 1, 1), (139, .iconst 1, 1), (140, .invokevirtual 441, 3), (143, .ifCond .ne 6, 3), (146, .goto 25, 3), (149, .iinc 4 1, 3), (152, .iload 5, 2), (154, .iconst (-1), 1), (155, .if_icmp .ne 8, 3), (158, .iload 7, 2), (160, .goto 5, 3), (163, .iload 5, 2), (165, .istore 5, 2), (167, .iload 7, 2), (169, .istore 6, 2), (171, .iinc 7 1, 3), (174, .goto (-75), 3), (177, .iload_n 3, 1), (178, .ifCond .ne 8, 3), (181, .iload 4, 2), (183, .goto 15, 3), (186, .iload_n 3, 1), (187, .iconst 1, 1), (188, .if_icmp .ne 8, 3), (191, .iload 5, 2), (193, .goto 5, 3), (196, .iload 6, 2), (198, .ireturn, 1)]
theorem D_X12_reach : dOK cX12_reach L_X12_reach = true := by decide +kernel
theorem cf_X12_reach : CFV mX12_reach 3 := ⟨wI_X12_reach, wS_X12_reach, wN_WaveRightModel, wC_X12_reach, rfl, ⟨by decide +kernel, by decide +kernel, by decide +kernel⟩, le45 rfl⟩
def X12_reach_e99 (n : Nat) (a2 : Int) (σ22 : SG) (e28 : Int) (e29 : Int) (e30 : Int) : Option (Int × SG) :=
  if w32 a2 = 0 then
    some ((e28, σ22))
  else
    if w32 a2 = 1 then
      some ((e29, σ22))
    else
      some ((e30, σ22))
def X12_reach_j171 (n : Nat) (z26 : Int) (y35 : Int) (y36 : Int) (y37 : Int) : Option ((Int × Int × Int × Int) ⊕ (Int × Int × Int)) :=
  lt (z26 + 1) fun x39 =>
  some (.inl (y35, y36, y37, x39))
def X12_reach_j165 (n : Nat) (x42 : Int) (z26 : Int) (y43 : Int) : Option (Int × Int × Int) :=
  some ((x42, y43, z26))
def X12_reach_j165x (n : Nat) (x47 : Int) (z26 : Int) (y48 : Int) : Option (Int × Int × Int) :=
  some ((x47, y48, z26))
def X12_reach_l99 (n : Nat) (a0 : Int) (σ22 : SG) (a1 : Int) (z23 : Int) (z24 : Int) (z25 : Int) (z26 : Int) : Option ((Int × Int × Int × Int) ⊕ (Int × Int × Int)) :=
  if 40 < w32 z26 then
    some (.inr (z23, z24, z25))
  else
    (X12_swimsTo n a0 z26 σ22).bind fun v32 =>
    (X12_ofWave n a1 0 σ22).bind fun v34 =>
    ((if w32 v34 < w32 v32 then
      some ((z23, z24, z25))
    else
      (X12_canRide n a1 z26 0 1 σ22).bind fun v41 =>
      if w32 v41 = 0 then
        (X12_canRide n a1 z26 1 1 σ22).bind fun v46 =>
        if w32 v46 = 0 then
          some ((z23, z24, z25))
        else
          lt (z23 + 1) fun x47 =>
          ((if w32 z24 = (-1) then
            some (z26)
          else
            some (z24)) : Option (Int)).bind (fun s => X12_reach_j165x n x47 z26 s)
      else
        lt (z23 + 1) fun x42 =>
        ((if w32 z24 = (-1) then
          some (z26)
        else
          some (z24)) : Option (Int)).bind (fun s => X12_reach_j165 n x42 z26 s)) : Option (Int × Int × Int)).bind (fun s => X12_reach_j171 n z26 s.1 s.2.1 s.2.2)
def X12_reach_j65 (n : Nat) (σ12 : SG) (a0 : Int) (a1 : Int) (a2 : Int) (y13 : Int) : Option (Int × SG) :=
  bnd2 (X12_throwsIf n y13 2 σ12) fun v16 σ17 =>
  if w32 v16 = 0 then
    (X12_isAway n a0 σ17).bind fun v19 =>
    bnd2 (X12_throwsIf n v19 3 σ17) fun v21 σ22 =>
    if w32 v21 = 0 then
      ((iter n (fun s : Int × Int × Int × Int => X12_reach_l99 n a0 σ22 a1 s.1 s.2.1 s.2.2.1 s.2.2.2) (0, (-1), (-1), 0)) : Option (Int × Int × Int)).bind (fun s => X12_reach_e99 n a2 σ22 s.1 s.2.1 s.2.2)
    else
      some ((0, σ22))
  else
    some ((0, σ17))
def X12_reach_j35 (n : Nat) (σ4 : SG) (a1 : Int) (a2 : Int) (a0 : Int) (y8 : Int) : Option (Int × SG) :=
  bnd2 (X12_throwsIf n y8 1 σ4) fun v11 σ12 =>
  if w32 v11 = 0 then
    ((if w32 a1 < w32 (σ12 57 28) then
      some (1)
    else
      (X12_in n a2 0 2 σ12).bind fun v51 =>
      if w32 v51 = 0 then
        some (1)
      else
        some (0)) : Option (Int)).bind (fun s => X12_reach_j65 n σ12 a0 a1 a2 s)
  else
    some ((0, σ12))
def X12_reach (n : Nat) (a0 : Int) (a1 : Int) (a2 : Int) (σ : SG) : Option (Int × SG) :=
  lt (up σ 57 0 0) fun σ1 =>
  bnd2 (X12_noSurfer n a0 σ1) fun v3 σ4 =>
  if w32 v3 = 0 then
    rdA 144 1 fun j5 =>
    (X12_in n a1 0 ((σ4 60 j5) - 1) σ4).bind fun v7 =>
    ((if w32 v7 = 0 then
      some (1)
    else
      some (0)) : Option (Int)).bind (fun s => X12_reach_j35 n σ4 a1 a2 a0 s)
  else
    some ((0, σ4))
set_option maxHeartbeats 4000000 in
set_option maxRecDepth 100000 in
theorem A_X12_reach {Γ : GA} (hΓ : (gl Γ).stackTraces = false) {n : Nat} {a0 : Int} {a1 : Int} {a2 : Int} {σ : SG} {r : Int} {τ : SG}  (h : X12_reach n a0 a1 a2 σ = some (r, τ)) : AM Γ mX12_reach 3 0 0 [vR 57, vI a0, vI a1, vI a2] (85, σ) (0, r) (85, τ) := by
  refine AM.of pl_X12 rfl wC_X12_reach (le45 rfl) hΓ ?_
  refine AW.to (ls'' := [some (vR 57), some (vI a0), some (vI a1), some (vI a2), none, none, none, none]) ?_ (lle_s rfl (lle_s rfl (lle_s rfl (lle_s rfl (lle_e (lle_e (lle_e (lle_e (lle_z)))))))))
  unfold X12_reach at h
  refine AW.aload_n (n := 1) (dat D_X12_reach 0 rfl) rfl rfl ?_
  refine AW.iconst (n := 2) (dat D_X12_reach 1 rfl) rfl ?_
  refine AW.putI (n := 5) fX12_0 wF_X12_105 ly_57 (le45 rfl) rfl rfl rfl (dat D_X12_reach 2 rfl) rfl ?_
  refine AW.ltS h (fun σ1 h => ?_)
  refine AW.aload_n (n := 6) (dat D_X12_reach 3 rfl) rfl rfl ?_
  refine AW.iload_n (n := 7) (dat D_X12_reach 4 rfl) rfl rfl ?_
  obtain ⟨v3, σ4, hc2, h⟩ := bnd2_some h
  refine AW.cV (n := 10) (as := [vI a0]) (st := []) (st' := [vI v3]) (uc' := 0) (us' := 0) (A_X12_noSurfer hΓ hc2) cf_X12_noSurfer ly_57 (le45 rfl) vc_12 (le45 rfl) wM_X12_435 (le45 rfl) (le45 rfl) (dat D_X12_reach 5 rfl) rfl rfl (le45 rfl) (le45 rfl) rfl (fun _ => ?_) nlt0
  refine AW.if_neH (t := 85) (n := 13) h (dat D_X12_reach 6 rfl) rfl rfl (fun h => ?_) (fun h => ?_)
  · refine AW.aload_n (n := 14) (dat D_X12_reach 7 rfl) rfl rfl ?_
    refine AW.iload_n (n := 15) (dat D_X12_reach 8 rfl) rfl rfl ?_
    refine AW.iconst (n := 16) (dat D_X12_reach 9 rfl) rfl ?_
    refine AW.aload_n (n := 17) (dat D_X12_reach 10 rfl) rfl rfl ?_
    refine AW.getR (n := 20) (t := 60) fX12_9 wF_X12_21 ly_57 (le45 rfl) rfl (dat D_X12_reach 11 rfl) rfl ?_
    refine AW.iconst (n := 21) (dat D_X12_reach 12 rfl) rfl ?_
    refine AW.ialdH h (n := 22) rfl ly_60 (le45 rfl) (dat D_X12_reach 13 rfl) rfl (fun j5 h => ?_)
    refine AW.iconst (n := 23) (dat D_X12_reach 14 rfl) rfl ?_
    refine AW.isub (n := 24) (dat D_X12_reach 15 rfl) rfl ?_
    obtain ⟨v7, hc6, h⟩ := ob_some h
    refine AW.cS (n := 27) (as := [vI a1, vI 0, vI ((σ4 60 j5) - 1)]) (st := [vR 57]) (st' := [vI v7, vR 57]) (uc' := 0) (us' := 0) (A_X12_in hΓ hc6) cf_X12_in rfl wM_X12_164 (le45 rfl) (le45 rfl) (dat D_X12_reach 16 rfl) rfl rfl (le45 rfl) (le45 rfl) rfl (fun _ => ?_) nlt0
    obtain ⟨s9, h, hq9⟩ := ob_some h
    obtain ⟨y8, e9⟩ : ∃ z, z = s9 := ⟨_, rfl⟩
    subst e9
    have hJ9 : AW Γ mX12_reach 3 (0, r) (85, τ) 0 0 35 [some (vR 57), some (vI a0), some (vI a1), some (vI a2), none, none, none, none] [vI y8, vR 57] (85, σ4) := by
      have h : X12_reach_j35 n σ4 a1 a2 a0 y8 = some _ := hq9
      unfold X12_reach_j35 at h
      refine AW.iconst (n := 36) (dat D_X12_reach 21 rfl) rfl ?_
      obtain ⟨v11, σ12, hc10, h⟩ := bnd2_some h
      refine AW.cV (n := 39) (as := [vI y8, vI 1]) (st := []) (st' := [vI v11]) (uc' := 0) (us' := 0) (A_X12_throwsIf hΓ hc10) cf_X12_throwsIf ly_57 (le45 rfl) vc_12 (le45 rfl) wM_X12_230 (le45 rfl) (le45 rfl) (dat D_X12_reach 22 rfl) rfl rfl (le45 rfl) (le45 rfl) rfl (fun _ => ?_) nlt0
      refine AW.if_neH (t := 85) (n := 42) h (dat D_X12_reach 23 rfl) rfl rfl (fun h => ?_) (fun h => ?_)
      · refine AW.aload_n (n := 43) (dat D_X12_reach 24 rfl) rfl rfl ?_
        refine AW.iload_n (n := 44) (dat D_X12_reach 25 rfl) rfl rfl ?_
        refine AW.aload_n (n := 45) (dat D_X12_reach 26 rfl) rfl rfl ?_
        refine AW.getI (n := 48) fX12_28 wF_X12_354 ly_57 (le45 rfl) rfl rfl (dat D_X12_reach 27 rfl) rfl ?_
        obtain ⟨s14, h, hq14⟩ := ob_some h
        obtain ⟨y13, e14⟩ : ∃ z, z = s14 := ⟨_, rfl⟩
        subst e14
        have hJ14 : AW Γ mX12_reach 3 (0, r) (85, τ) 0 0 65 [some (vR 57), some (vI a0), some (vI a1), some (vI a2), none, none, none, none] [vI y13, vR 57] (85, σ12) := by
          have h : X12_reach_j65 n σ12 a0 a1 a2 y13 = some _ := hq14
          unfold X12_reach_j65 at h
          refine AW.iconst (n := 66) (dat D_X12_reach 37 rfl) rfl ?_
          obtain ⟨v16, σ17, hc15, h⟩ := bnd2_some h
          refine AW.cV (n := 69) (as := [vI y13, vI 2]) (st := []) (st' := [vI v16]) (uc' := 0) (us' := 0) (A_X12_throwsIf hΓ hc15) cf_X12_throwsIf ly_57 (le45 rfl) vc_12 (le45 rfl) wM_X12_230 (le45 rfl) (le45 rfl) (dat D_X12_reach 38 rfl) rfl rfl (le45 rfl) (le45 rfl) rfl (fun _ => ?_) nlt0
          refine AW.if_neH (t := 85) (n := 72) h (dat D_X12_reach 39 rfl) rfl rfl (fun h => ?_) (fun h => ?_)
          · refine AW.aload_n (n := 73) (dat D_X12_reach 40 rfl) rfl rfl ?_
            refine AW.aload_n (n := 74) (dat D_X12_reach 41 rfl) rfl rfl ?_
            refine AW.iload_n (n := 75) (dat D_X12_reach 42 rfl) rfl rfl ?_
            obtain ⟨v19, hc18, h⟩ := ob_some h
            refine AW.cV (n := 78) (as := [vI a0]) (st := [vR 57]) (st' := [vI v19, vR 57]) (uc' := 0) (us' := 0) (A_X12_isAway hΓ hc18) cf_X12_isAway ly_57 (le45 rfl) vc_12 (le45 rfl) wM_X12_455 (le45 rfl) (le45 rfl) (dat D_X12_reach 43 rfl) rfl rfl (le45 rfl) (le45 rfl) rfl (fun _ => ?_) nlt0
            refine AW.iconst (n := 79) (dat D_X12_reach 44 rfl) rfl ?_
            obtain ⟨v21, σ22, hc20, h⟩ := bnd2_some h
            refine AW.cV (n := 82) (as := [vI v19, vI 3]) (st := []) (st' := [vI v21]) (uc' := 0) (us' := 0) (A_X12_throwsIf hΓ hc20) cf_X12_throwsIf ly_57 (le45 rfl) vc_12 (le45 rfl) wM_X12_230 (le45 rfl) (le45 rfl) (dat D_X12_reach 45 rfl) rfl rfl (le45 rfl) (le45 rfl) rfl (fun _ => ?_) nlt0
            refine AW.if_eqH (t := 87) (n := 85) h (dat D_X12_reach 46 rfl) rfl rfl (fun h => ?_) (fun h => ?_)
            · refine AW.iconst (n := 88) (dat D_X12_reach 49 rfl) rfl ?_
              refine AW.istore (n := 90) (ls' := [some (vR 57), some (vI a0), some (vI a1), some (vI a2), some (vI 0), none, none, none]) (dat D_X12_reach 50 rfl) rfl (le45 rfl) (le45 rfl) rfl rfl ?_
              refine AW.iconst (n := 91) (dat D_X12_reach 51 rfl) rfl ?_
              refine AW.istore (n := 93) (ls' := [some (vR 57), some (vI a0), some (vI a1), some (vI a2), some (vI 0), some (vI (-1)), none, none]) (dat D_X12_reach 52 rfl) rfl (le45 rfl) (le45 rfl) rfl rfl ?_
              refine AW.iconst (n := 94) (dat D_X12_reach 53 rfl) rfl ?_
              refine AW.istore (n := 96) (ls' := [some (vR 57), some (vI a0), some (vI a1), some (vI a2), some (vI 0), some (vI (-1)), some (vI (-1)), none]) (dat D_X12_reach 54 rfl) rfl (le45 rfl) (le45 rfl) rfl rfl ?_
              refine AW.iconst (n := 97) (dat D_X12_reach 55 rfl) rfl ?_
              refine AW.istore (n := 99) (ls' := [some (vR 57), some (vI a0), some (vI a1), some (vI a2), some (vI 0), some (vI (-1)), some (vI (-1)), some (vI 0)]) (dat D_X12_reach 56 rfl) rfl (le45 rfl) (le45 rfl) rfl rfl ?_
              obtain ⟨b27, hi27, hq27⟩ := ob_some h
              obtain ⟨e28, e29, e30⟩ := b27
              have hR27 : AW Γ mX12_reach 3 (0, r) (85, τ) 0 0 177 [none, none, none, some (vI a2), some (vI e28), some (vI e29), some (vI e30), none] [] (85, σ22) := by
                have h : X12_reach_e99 n a2 σ22 e28 e29 e30 = some _ := hq27
                unfold X12_reach_e99 at h
                refine AW.iload_n (n := 178) (dat D_X12_reach 96 rfl) rfl rfl ?_
                refine AW.if_neH (t := 186) (n := 181) h (dat D_X12_reach 97 rfl) rfl rfl (fun h => ?_) (fun h => ?_)
                · refine AW.iload (n := 183) (dat D_X12_reach 98 rfl) rfl rfl ?_
                  refine AW.goto (t := 198) (dat D_X12_reach 99 rfl) rfl ?_
                  cases h
                  exact AW.iret rfl rfl rfl (dat D_X12_reach 106 rfl)
                · refine AW.iload_n (n := 187) (dat D_X12_reach 100 rfl) rfl rfl ?_
                  refine AW.iconst (n := 188) (dat D_X12_reach 101 rfl) rfl ?_
                  refine AW.icmp_neH (t := 196) (n := 191) h (dat D_X12_reach 102 rfl) rfl rfl rfl (by decide) (fun h => ?_) (fun h => ?_)
                  · refine AW.iload (n := 193) (dat D_X12_reach 103 rfl) rfl rfl ?_
                    refine AW.goto (t := 198) (dat D_X12_reach 104 rfl) rfl ?_
                    cases h
                    exact AW.iret rfl rfl rfl (dat D_X12_reach 106 rfl)
                  · refine AW.iload (n := 198) (dat D_X12_reach 105 rfl) rfl rfl ?_
                    cases h
                    exact AW.iret rfl rfl rfl (dat D_X12_reach 106 rfl)
              refine AW.to (ls'' := [some (vR 57), some (vI a0), some (vI a1), some (vI a2), some (vI 0), some (vI (-1)), some (vI (-1)), some (vI 0)]) ?_ (lle_s rfl (lle_s rfl (lle_s rfl (lle_s rfl (lle_s rfl (lle_s rfl (lle_s rfl (lle_s rfl (lle_z)))))))))
              refine aw_iter (fun s : Int × Int × Int × Int => AW Γ mX12_reach 3 (0, r) (85, τ) 0 0 99 [some (vR 57), some (vI a0), some (vI a1), some (vI a2), some (vI (s.1)), some (vI (s.2.1)), some (vI (s.2.2.1)), some (vI (s.2.2.2))] [] (85, σ22)) (fun s y h hk27 hb27 => ?_) _ _ hi27
              obtain ⟨z23, z24, z25, z26⟩ := s
              show AW Γ mX12_reach 3 (0, r) (85, τ) 0 0 99 [some (vR 57), some (vI a0), some (vI a1), some (vI a2), some (vI z23), some (vI z24), some (vI z25), some (vI z26)] [] (85, σ22)
              have h : X12_reach_l99 n a0 σ22 a1 z23 z24 z25 z26 = some y := h
              unfold X12_reach_l99 at h
              refine AW.iload (n := 101) (dat D_X12_reach 57 rfl) rfl rfl ?_
              refine AW.bipush (n := 103) (dat D_X12_reach 58 rfl) rfl (by decide) ?_
              refine AW.icmp_gtH (t := 177) (n := 106) h (dat D_X12_reach 59 rfl) rfl rfl rfl (by decide) (fun h => ?_) (fun h => ?_)
              · cases h
                have hb := hb27 _ rfl
                cases hb
                exact AW.to hR27 (lle_n (lle_n (lle_n (lle_s rfl (lle_s rfl (lle_s rfl (lle_s rfl (lle_n (lle_z)))))))))
              · refine AW.aload_n (n := 107) (dat D_X12_reach 60 rfl) rfl rfl ?_
                refine AW.iload_n (n := 108) (dat D_X12_reach 61 rfl) rfl rfl ?_
                refine AW.iload (n := 110) (dat D_X12_reach 62 rfl) rfl rfl ?_
                obtain ⟨v32, hc31, h⟩ := ob_some h
                refine AW.cV (n := 113) (as := [vI a0, vI z26]) (st := []) (st' := [vI v32]) (uc' := 0) (us' := 0) (A_X12_swimsTo hΓ hc31) cf_X12_swimsTo ly_57 (le45 rfl) vc_12 (le45 rfl) wM_X12_458 (le45 rfl) (le45 rfl) (dat D_X12_reach 63 rfl) rfl rfl (le45 rfl) (le45 rfl) rfl (fun _ => ?_) nlt0
                refine AW.aload_n (n := 114) (dat D_X12_reach 64 rfl) rfl rfl ?_
                refine AW.iload_n (n := 115) (dat D_X12_reach 65 rfl) rfl rfl ?_
                refine AW.iconst (n := 116) (dat D_X12_reach 66 rfl) rfl ?_
                obtain ⟨v34, hc33, h⟩ := ob_some h
                refine AW.cV (n := 119) (as := [vI a1, vI 0]) (st := [vI v32]) (st' := [vI v34, vI v32]) (uc' := 0) (us' := 0) (A_X12_ofWave hΓ hc33) cf_X12_ofWave ly_57 (le45 rfl) vc_12 (le45 rfl) wM_X12_333 (le45 rfl) (le45 rfl) (dat D_X12_reach 67 rfl) rfl rfl (le45 rfl) (le45 rfl) rfl (fun _ => ?_) nlt0
                obtain ⟨s38, h, hq38⟩ := ob_some h
                obtain ⟨y35, y36, y37⟩ := s38
                have hJ38 : AW Γ mX12_reach 3 (0, r) (85, τ) 0 0 171 [some (vR 57), some (vI a0), some (vI a1), some (vI a2), some (vI y35), some (vI y36), some (vI y37), some (vI z26)] [] (85, σ22) := by
                  have h : X12_reach_j171 n z26 y35 y36 y37 = some _ := hq38
                  unfold X12_reach_j171 at h
                  refine AW.iincH h (n := 174) (dat D_X12_reach 94 rfl) rfl rfl (le45 rfl) rfl (fun x39 h => ?_)
                  refine AW.lq (ls' := [some (vR 57), some (vI a0), some (vI a1), some (vI a2), some (vI y35), some (vI y36), some (vI y37), some (vI x39)]) rfl ?_
                  refine AW.goto (t := 99) (dat D_X12_reach 95 rfl) rfl ?_
                  cases h
                  exact AW.to (hk27 _ rfl) (lle_s rfl (lle_s rfl (lle_s rfl (lle_s rfl (lle_s rfl (lle_s rfl (lle_s rfl (lle_s rfl (lle_z)))))))))
                refine AW.icmp_gtH (t := 171) (n := 122) h (dat D_X12_reach 68 rfl) rfl rfl rfl rfl (fun h => ?_) (fun h => ?_)
                · cases h
                  exact AW.to hJ38 (lle_s rfl (lle_s rfl (lle_s rfl (lle_s rfl (lle_s rfl (lle_s rfl (lle_s rfl (lle_s rfl (lle_z)))))))))
                · refine AW.aload_n (n := 123) (dat D_X12_reach 69 rfl) rfl rfl ?_
                  refine AW.iload_n (n := 124) (dat D_X12_reach 70 rfl) rfl rfl ?_
                  refine AW.iload (n := 126) (dat D_X12_reach 71 rfl) rfl rfl ?_
                  refine AW.iconst (n := 127) (dat D_X12_reach 72 rfl) rfl ?_
                  refine AW.iconst (n := 128) (dat D_X12_reach 73 rfl) rfl ?_
                  obtain ⟨v41, hc40, h⟩ := ob_some h
                  refine AW.cV (n := 131) (as := [vI a1, vI z26, vI 0, vI 1]) (st := []) (st' := [vI v41]) (uc' := 0) (us' := 0) (A_X12_canRide hΓ hc40) cf_X12_canRide ly_57 (le45 rfl) vc_12 (le45 rfl) wM_X12_441 (le45 rfl) (le45 rfl) (dat D_X12_reach 74 rfl) rfl rfl (le45 rfl) (le45 rfl) rfl (fun _ => ?_) nlt0
                  refine AW.if_neH (t := 149) (n := 134) h (dat D_X12_reach 75 rfl) rfl rfl (fun h => ?_) (fun h => ?_)
                  · refine AW.aload_n (n := 135) (dat D_X12_reach 76 rfl) rfl rfl ?_
                    refine AW.iload_n (n := 136) (dat D_X12_reach 77 rfl) rfl rfl ?_
                    refine AW.iload (n := 138) (dat D_X12_reach 78 rfl) rfl rfl ?_
                    refine AW.iconst (n := 139) (dat D_X12_reach 79 rfl) rfl ?_
                    refine AW.iconst (n := 140) (dat D_X12_reach 80 rfl) rfl ?_
                    obtain ⟨v46, hc45, h⟩ := ob_some h
                    refine AW.cV (n := 143) (as := [vI a1, vI z26, vI 1, vI 1]) (st := []) (st' := [vI v46]) (uc' := 0) (us' := 0) (A_X12_canRide hΓ hc45) cf_X12_canRide ly_57 (le45 rfl) vc_12 (le45 rfl) wM_X12_441 (le45 rfl) (le45 rfl) (dat D_X12_reach 81 rfl) rfl rfl (le45 rfl) (le45 rfl) rfl (fun _ => ?_) nlt0
                    refine AW.if_neH (t := 149) (n := 146) h (dat D_X12_reach 82 rfl) rfl rfl (fun h => ?_) (fun h => ?_)
                    · refine AW.goto (t := 171) (dat D_X12_reach 83 rfl) rfl ?_
                      cases h
                      exact AW.to hJ38 (lle_s rfl (lle_s rfl (lle_s rfl (lle_s rfl (lle_s rfl (lle_s rfl (lle_s rfl (lle_s rfl (lle_z)))))))))
                    · refine AW.iincH h (n := 152) (dat D_X12_reach 84 rfl) rfl rfl (le45 rfl) rfl (fun x47 h => ?_)
                      refine AW.lq (ls' := [some (vR 57), some (vI a0), some (vI a1), some (vI a2), some (vI x47), some (vI z24), some (vI z25), some (vI z26)]) rfl ?_
                      refine AW.iload (n := 154) (dat D_X12_reach 85 rfl) rfl rfl ?_
                      refine AW.iconst (n := 155) (dat D_X12_reach 86 rfl) rfl ?_
                      obtain ⟨s49, h, hq49⟩ := ob_some h
                      obtain ⟨y48, e49⟩ : ∃ z, z = s49 := ⟨_, rfl⟩
                      subst e49
                      have hJ49 : AW Γ mX12_reach 3 (0, r) (85, τ) 0 0 165 [some (vR 57), some (vI a0), some (vI a1), some (vI a2), some (vI x47), none, none, some (vI z26)] [vI y48] (85, σ22) := by
                        have h : X12_reach_j165x n x47 z26 y48 = some _ := hq49
                        unfold X12_reach_j165x at h
                        refine AW.istore (n := 167) (ls' := [some (vR 57), some (vI a0), some (vI a1), some (vI a2), some (vI x47), some (vI y48), none, some (vI z26)]) (dat D_X12_reach 91 rfl) rfl (le45 rfl) (le45 rfl) rfl rfl ?_
                        refine AW.iload (n := 169) (dat D_X12_reach 92 rfl) rfl rfl ?_
                        refine AW.istore (n := 171) (ls' := [some (vR 57), some (vI a0), some (vI a1), some (vI a2), some (vI x47), some (vI y48), some (vI z26), some (vI z26)]) (dat D_X12_reach 93 rfl) rfl (le45 rfl) (le45 rfl) rfl rfl ?_
                        cases h
                        exact AW.to hJ38 (lle_s rfl (lle_s rfl (lle_s rfl (lle_s rfl (lle_s rfl (lle_s rfl (lle_s rfl (lle_s rfl (lle_z)))))))))
                      refine AW.icmp_neH (t := 163) (n := 158) h (dat D_X12_reach 87 rfl) rfl rfl rfl (by decide) (fun h => ?_) (fun h => ?_)
                      · refine AW.iload (n := 160) (dat D_X12_reach 88 rfl) rfl rfl ?_
                        refine AW.goto (t := 165) (dat D_X12_reach 89 rfl) rfl ?_
                        cases h
                        exact AW.to hJ49 (lle_s rfl (lle_s rfl (lle_s rfl (lle_s rfl (lle_s rfl (lle_n (lle_n (lle_s rfl (lle_z)))))))))
                      · refine AW.iload (n := 165) (dat D_X12_reach 90 rfl) rfl rfl ?_
                        cases h
                        exact AW.to hJ49 (lle_s rfl (lle_s rfl (lle_s rfl (lle_s rfl (lle_s rfl (lle_n (lle_n (lle_s rfl (lle_z)))))))))
                  · refine AW.iincH h (n := 152) (dat D_X12_reach 84 rfl) rfl rfl (le45 rfl) rfl (fun x42 h => ?_)
                    refine AW.lq (ls' := [some (vR 57), some (vI a0), some (vI a1), some (vI a2), some (vI x42), some (vI z24), some (vI z25), some (vI z26)]) rfl ?_
                    refine AW.iload (n := 154) (dat D_X12_reach 85 rfl) rfl rfl ?_
                    refine AW.iconst (n := 155) (dat D_X12_reach 86 rfl) rfl ?_
                    obtain ⟨s44, h, hq44⟩ := ob_some h
                    obtain ⟨y43, e44⟩ : ∃ z, z = s44 := ⟨_, rfl⟩
                    subst e44
                    have hJ44 : AW Γ mX12_reach 3 (0, r) (85, τ) 0 0 165 [some (vR 57), some (vI a0), some (vI a1), some (vI a2), some (vI x42), none, none, some (vI z26)] [vI y43] (85, σ22) := by
                      have h : X12_reach_j165 n x42 z26 y43 = some _ := hq44
                      unfold X12_reach_j165 at h
                      refine AW.istore (n := 167) (ls' := [some (vR 57), some (vI a0), some (vI a1), some (vI a2), some (vI x42), some (vI y43), none, some (vI z26)]) (dat D_X12_reach 91 rfl) rfl (le45 rfl) (le45 rfl) rfl rfl ?_
                      refine AW.iload (n := 169) (dat D_X12_reach 92 rfl) rfl rfl ?_
                      refine AW.istore (n := 171) (ls' := [some (vR 57), some (vI a0), some (vI a1), some (vI a2), some (vI x42), some (vI y43), some (vI z26), some (vI z26)]) (dat D_X12_reach 93 rfl) rfl (le45 rfl) (le45 rfl) rfl rfl ?_
                      cases h
                      exact AW.to hJ38 (lle_s rfl (lle_s rfl (lle_s rfl (lle_s rfl (lle_s rfl (lle_s rfl (lle_s rfl (lle_s rfl (lle_z)))))))))
                    refine AW.icmp_neH (t := 163) (n := 158) h (dat D_X12_reach 87 rfl) rfl rfl rfl (by decide) (fun h => ?_) (fun h => ?_)
                    · refine AW.iload (n := 160) (dat D_X12_reach 88 rfl) rfl rfl ?_
                      refine AW.goto (t := 165) (dat D_X12_reach 89 rfl) rfl ?_
                      cases h
                      exact AW.to hJ44 (lle_s rfl (lle_s rfl (lle_s rfl (lle_s rfl (lle_s rfl (lle_n (lle_n (lle_s rfl (lle_z)))))))))
                    · refine AW.iload (n := 165) (dat D_X12_reach 90 rfl) rfl rfl ?_
                      cases h
                      exact AW.to hJ44 (lle_s rfl (lle_s rfl (lle_s rfl (lle_s rfl (lle_s rfl (lle_n (lle_n (lle_s rfl (lle_z)))))))))
            · refine AW.iconst (n := 86) (dat D_X12_reach 47 rfl) rfl ?_
              cases h
              exact AW.iret rfl rfl rfl (dat D_X12_reach 48 rfl)
          · refine AW.iconst (n := 86) (dat D_X12_reach 47 rfl) rfl ?_
            cases h
            exact AW.iret rfl rfl rfl (dat D_X12_reach 48 rfl)
        refine AW.icmp_ltH (t := 60) (n := 51) h (dat D_X12_reach 28 rfl) rfl rfl rfl rfl (fun h => ?_) (fun h => ?_)
        · refine AW.iconst (n := 61) (dat D_X12_reach 34 rfl) rfl ?_
          refine AW.goto (t := 65) (dat D_X12_reach 35 rfl) rfl ?_
          cases h
          exact AW.to hJ14 (lle_s rfl (lle_s rfl (lle_s rfl (lle_s rfl (lle_n (lle_n (lle_n (lle_n (lle_z)))))))))
        · refine AW.iload_n (n := 52) (dat D_X12_reach 29 rfl) rfl rfl ?_
          refine AW.iconst (n := 53) (dat D_X12_reach 30 rfl) rfl ?_
          refine AW.iconst (n := 54) (dat D_X12_reach 31 rfl) rfl ?_
          obtain ⟨v51, hc50, h⟩ := ob_some h
          refine AW.cS (n := 57) (as := [vI a2, vI 0, vI 2]) (st := [vR 57]) (st' := [vI v51, vR 57]) (uc' := 0) (us' := 0) (A_X12_in hΓ hc50) cf_X12_in rfl wM_X12_164 (le45 rfl) (le45 rfl) (dat D_X12_reach 32 rfl) rfl rfl (le45 rfl) (le45 rfl) rfl (fun _ => ?_) nlt0
          refine AW.if_neH (t := 64) (n := 60) h (dat D_X12_reach 33 rfl) rfl rfl (fun h => ?_) (fun h => ?_)
          · refine AW.iconst (n := 61) (dat D_X12_reach 34 rfl) rfl ?_
            refine AW.goto (t := 65) (dat D_X12_reach 35 rfl) rfl ?_
            cases h
            exact AW.to hJ14 (lle_s rfl (lle_s rfl (lle_s rfl (lle_s rfl (lle_n (lle_n (lle_n (lle_n (lle_z)))))))))
          · refine AW.iconst (n := 65) (dat D_X12_reach 36 rfl) rfl ?_
            cases h
            exact AW.to hJ14 (lle_s rfl (lle_s rfl (lle_s rfl (lle_s rfl (lle_n (lle_n (lle_n (lle_n (lle_z)))))))))
      · refine AW.iconst (n := 86) (dat D_X12_reach 47 rfl) rfl ?_
        cases h
        exact AW.iret rfl rfl rfl (dat D_X12_reach 48 rfl)
    refine AW.if_neH (t := 34) (n := 30) h (dat D_X12_reach 17 rfl) rfl rfl (fun h => ?_) (fun h => ?_)
    · refine AW.iconst (n := 31) (dat D_X12_reach 18 rfl) rfl ?_
      refine AW.goto (t := 35) (dat D_X12_reach 19 rfl) rfl ?_
      cases h
      exact AW.to hJ9 (lle_s rfl (lle_s rfl (lle_s rfl (lle_s rfl (lle_n (lle_n (lle_n (lle_n (lle_z)))))))))
    · refine AW.iconst (n := 35) (dat D_X12_reach 20 rfl) rfl ?_
      cases h
      exact AW.to hJ9 (lle_s rfl (lle_s rfl (lle_s rfl (lle_s rfl (lle_n (lle_n (lle_n (lle_n (lle_z)))))))))
  · refine AW.iconst (n := 86) (dat D_X12_reach 47 rfl) rfl ?_
    cases h
    exact AW.iret rfl rfl rfl (dat D_X12_reach 48 rfl)
def L_X12_seen : List (Nat × Instr × Nat) := [(0, .aload_n 0, 1), (1, .iconst 0, 1), (2, .putfield 105, 3), (5, .iload_n 1, 1), (6, .iconst 0, 1), (7, .aload_n 0, 1), (8, .getfield 366, 3), (11, .iconst 1, 1), (12, .isub, 1), (13, .invokestatic 164, 3), (16, .ifCond .eq 12, 3), (19, .aload_n 0, 1), (20, .getfield 83, 3), (23, .iload_n 1, 1), (24, .iaload, 1), (25, .goto 4, 3), (28, .iconst (-1), 1), (29, .ireturn, 1)]
theorem D_X12_seen : dOK cX12_seen L_X12_seen = true := by decide +kernel
theorem cf_X12_seen : CFV mX12_seen 1 := ⟨wI_X12_seen, wS_X12_seen, wN_WaveRightModel, wC_X12_seen, rfl, ⟨by decide +kernel, by decide +kernel, by decide +kernel⟩, le45 rfl⟩
def X12_seen (n : Nat) (a0 : Int) (σ : SG) : Option (Int × SG) :=
  lt (up σ 57 0 0) fun σ1 =>
  (X12_in n a0 0 ((σ1 57 33) - 1) σ1).bind fun v3 =>
  if w32 v3 = 0 then
    some (((-1), σ1))
  else
    rdA 6 a0 fun j4 =>
    some (((σ1 77 j4), σ1))
set_option maxHeartbeats 4000000 in
set_option maxRecDepth 100000 in
theorem A_X12_seen {Γ : GA} (hΓ : (gl Γ).stackTraces = false) {n : Nat} {a0 : Int} {σ : SG} {r : Int} {τ : SG}  (h : X12_seen n a0 σ = some (r, τ)) : AM Γ mX12_seen 2 0 0 [vR 57, vI a0] (85, σ) (0, r) (85, τ) := by
  refine AM.of pl_X12 rfl wC_X12_seen (le45 rfl) hΓ ?_
  refine AW.to (ls'' := [some (vR 57), some (vI a0)]) ?_ (lle_s rfl (lle_s rfl (lle_z)))
  unfold X12_seen at h
  refine AW.aload_n (n := 1) (dat D_X12_seen 0 rfl) rfl rfl ?_
  refine AW.iconst (n := 2) (dat D_X12_seen 1 rfl) rfl ?_
  refine AW.putI (n := 5) fX12_0 wF_X12_105 ly_57 (le45 rfl) rfl rfl rfl (dat D_X12_seen 2 rfl) rfl ?_
  refine AW.ltS h (fun σ1 h => ?_)
  refine AW.iload_n (n := 6) (dat D_X12_seen 3 rfl) rfl rfl ?_
  refine AW.iconst (n := 7) (dat D_X12_seen 4 rfl) rfl ?_
  refine AW.aload_n (n := 8) (dat D_X12_seen 5 rfl) rfl rfl ?_
  refine AW.getI (n := 11) fX12_33 wF_X12_366 ly_57 (le45 rfl) rfl rfl (dat D_X12_seen 6 rfl) rfl ?_
  refine AW.iconst (n := 12) (dat D_X12_seen 7 rfl) rfl ?_
  refine AW.isub (n := 13) (dat D_X12_seen 8 rfl) rfl ?_
  obtain ⟨v3, hc2, h⟩ := ob_some h
  refine AW.cS (n := 16) (as := [vI a0, vI 0, vI ((σ1 57 33) - 1)]) (st := []) (st' := [vI v3]) (uc' := 0) (us' := 0) (A_X12_in hΓ hc2) cf_X12_in rfl wM_X12_164 (le45 rfl) (le45 rfl) (dat D_X12_seen 9 rfl) rfl rfl (le45 rfl) (le45 rfl) rfl (fun _ => ?_) nlt0
  refine AW.if_eqH (t := 28) (n := 19) h (dat D_X12_seen 10 rfl) rfl rfl (fun h => ?_) (fun h => ?_)
  · refine AW.iconst (n := 29) (dat D_X12_seen 16 rfl) rfl ?_
    cases h
    exact AW.iret rfl rfl rfl (dat D_X12_seen 17 rfl)
  · refine AW.aload_n (n := 20) (dat D_X12_seen 11 rfl) rfl rfl ?_
    refine AW.getR (n := 23) (t := 77) fX12_47 wF_X12_83 ly_57 (le45 rfl) rfl (dat D_X12_seen 12 rfl) rfl ?_
    refine AW.iload_n (n := 24) (dat D_X12_seen 13 rfl) rfl rfl ?_
    refine AW.ialdH h (n := 25) rfl ly_77 (le45 rfl) (dat D_X12_seen 14 rfl) rfl (fun j4 h => ?_)
    refine AW.goto (t := 29) (dat D_X12_seen 15 rfl) rfl ?_
    cases h
    exact AW.iret rfl rfl rfl (dat D_X12_seen 17 rfl)
def L_X12_worthOf : List (Nat × Instr × Nat) := [(0, .iload_n 1, 1), (1, .ifCond .ne 9, 3), (4, .iload_n 3, 1), (5, .iload 4, 2), (7, .iadd, 1), (8, .i2l, 1), (9, .lreturn, 1), (10, .lconst 0, 1), (11, .lstore 5, 2), (13, .aload_n 0, 1), (14, .iload_n 1, 1), (15, .iconst 1, 1), (16, .isub, 1), (17, .iload_n 2, 1), (18, .iload_n 3, 1), (19, .iload 4, 2), (21, .invokevirtual 461, 3), (24, .lstore 7, 2), (26, .iconst 0, 1), (27, .istore 9, 2), (29, .iload 9, 2), (31, .aload_n 0, 1), (32, .getfield 366, 3), (35, .if_icmp .ge 69, 3), (38, .aload_n 0, 1), (39, .getfield 83, 3), (42, .iload 9, 2), (44, .iaload, 1), (45, .istore 10, 2), (47, .iload_n 2, 1), (48, .ifCond .eq 10, 3), (51, .iload 10, 2), (53, .iload 4, 2), (55, .if_icmp .gt 7, 3), (58, .lconst 0, 1), (59, .goto 25, 3), (62, .aload_n 0, 1), (63, .iload_n 1, 1), (64, .iconst 1, 1), (65, .isub, 1), (66, .iload_n 2, 1), (67, .iconst 1, 1), (68, .isub, 1), (69, .iload_n 3, 1), (70, .iload 10, 2), (72, .invokestatic 427, 3), (75, .iload_n 3, 1), (76, .iload 10, 2), (78, .invokestatic 315, 3), (81, .invokevirtual 461, 3), (84, .lstore 11, 2), (86, .lload 5, 2), (88, .lload 7, 2), (90, .lload 11, 2), (92, .invokestatic 330, 3), (95, .ladd, 1), (96, .lstore 5, 2), (98, .iinc 9 1, 3), (101, .goto (-72), 3), (104, .lload 5, 2), (106, .lreturn, 1)]
theorem D_X12_worthOf : dOK cX12_worthOf L_X12_worthOf = true := by decide +kernel
theorem cf_X12_worthOf : CFV mX12_worthOf 4 := ⟨wI_X12_worthOf, wS_X12_worthOf, wN_WaveRightModel, wC_X12_worthOf, rfl, ⟨by decide +kernel, by decide +kernel, by decide +kernel⟩, le45 rfl⟩
def X12_worthOf_e29 (rec : Int → Int → Int → Int → SG → Option Int) (n : Nat) (e6 : Int) : Option (Int) :=
  some (e6)
def X12_worthOf_j84 (rec : Int → Int → Int → Int → SG → Option Int) (n : Nat) (z3 : Int) (v2 : Int) (z4 : Int) (y9 : Int) : Option ((Int × Int) ⊕ (Int)) :=
  lt (z3 + (mx64 v2 y9)) fun x11 =>
  lt (z4 + 1) fun x12 =>
  some (.inl (x11, x12))
def X12_worthOf_l29 (rec : Int → Int → Int → Int → SG → Option Int) (n : Nat) (σ : SG) (a1 : Int) (a3 : Int) (a0 : Int) (a2 : Int) (v2 : Int) (z3 : Int) (z4 : Int) : Option ((Int × Int) ⊕ (Int)) :=
  if w32 (σ 57 33) ≤ w32 z4 then
    some (.inr z3)
  else
    rdA 6 z4 fun j7 =>
    lt (σ 77 j7) fun x8 =>
    ((if w32 a1 = 0 then
      some (0)
    else
      if w32 a3 < w32 x8 then
        (rec (a0 - 1) (a1 - 1) (mx32 a2 x8) (mn32 a2 x8) σ).bind fun v14 =>
        some (v14)
      else
        some (0)) : Option (Int)).bind (fun s => X12_worthOf_j84 rec n z3 v2 z4 s)
def X12_worthOf_b (rec : Int → Int → Int → Int → SG → Option Int) (n : Nat) (a0 : Int) (a1 : Int) (a2 : Int) (a3 : Int) (σ : SG) : Option (Int) :=
  if w32 a0 = 0 then
    some ((w32 (a2 + a3)))
  else
    (rec (a0 - 1) a1 a2 a3 σ).bind fun v2 =>
    ((iter n (fun s : Int × Int => X12_worthOf_l29 rec n σ a1 a3 a0 a2 v2 s.1 s.2) (0, 0)) : Option (Int)).bind (fun s => X12_worthOf_e29 rec n s)
set_option maxHeartbeats 4000000 in
set_option maxRecDepth 100000 in
theorem A_X12_worthOf_b {Γ : GA} (hΓ : (gl Γ).stackTraces = false) {D : Nat} {rec : Int → Int → Int → Int → SG → Option Int} (hrec_worthOf : ∀ {σ9 : SG} {b0 b1 b2 b3 : Int} {r9 : Int}, (rec b0 b1 b2 b3 σ9) = some r9 → AM Γ mX12_worthOf (2 + D) 0 0 [vR 57, vI b0, vI b1, vI b2, vI b3] (85, σ9) (0, r9) (85, σ9)) {n : Nat} {a0 : Int} {a1 : Int} {a2 : Int} {a3 : Int} {σ : SG} {r : Int}  (h : X12_worthOf_b rec n a0 a1 a2 a3 σ = some r) : AM Γ mX12_worthOf (2 + (D + 1)) 0 0 [vR 57, vI a0, vI a1, vI a2, vI a3] (85, σ) (0, r) (85, σ) := by
  refine AM.of pl_X12 rfl wC_X12_worthOf (le45 rfl) hΓ ?_
  refine AW.to (ls'' := [some (vR 57), some (vI a0), some (vI a1), some (vI a2), some (vI a3), none, none, none, none, none, none, none, none]) ?_ (lle_s rfl (lle_s rfl (lle_s rfl (lle_s rfl (lle_s rfl (lle_e (lle_e (lle_e (lle_e (lle_e (lle_e (lle_e (lle_e (lle_z))))))))))))))
  unfold X12_worthOf_b at h
  refine AW.iload_n (n := 1) (dat D_X12_worthOf 0 rfl) rfl rfl ?_
  refine AW.if_neH (t := 10) (n := 4) h (dat D_X12_worthOf 1 rfl) rfl rfl (fun h => ?_) (fun h => ?_)
  · refine AW.iload_n (n := 5) (dat D_X12_worthOf 2 rfl) rfl rfl ?_
    refine AW.iload (n := 7) (dat D_X12_worthOf 3 rfl) rfl rfl ?_
    refine AW.iadd (n := 8) (dat D_X12_worthOf 4 rfl) rfl ?_
    refine AW.i2l (n := 9) (dat D_X12_worthOf 5 rfl) rfl ?_
    cases h
    exact AW.lret rfl rfl rfl (dat D_X12_worthOf 6 rfl)
  · refine AW.lconst (n := 11) (x := 0) (dat D_X12_worthOf 7 rfl) rfl (by decide) ?_
    refine AW.lstore (n := 13) (ls' := [some (vR 57), some (vI a0), some (vI a1), some (vI a2), some (vI a3), some (vL 0), none, none, none, none, none, none, none]) (dat D_X12_worthOf 8 rfl) rfl (le45 rfl) (le45 rfl) rfl rfl ?_
    refine AW.aload_n (n := 14) (dat D_X12_worthOf 9 rfl) rfl rfl ?_
    refine AW.iload_n (n := 15) (dat D_X12_worthOf 10 rfl) rfl rfl ?_
    refine AW.iconst (n := 16) (dat D_X12_worthOf 11 rfl) rfl ?_
    refine AW.isub (n := 17) (dat D_X12_worthOf 12 rfl) rfl ?_
    refine AW.iload_n (n := 18) (dat D_X12_worthOf 13 rfl) rfl rfl ?_
    refine AW.iload_n (n := 19) (dat D_X12_worthOf 14 rfl) rfl rfl ?_
    refine AW.iload (n := 21) (dat D_X12_worthOf 15 rfl) rfl rfl ?_
    obtain ⟨v2, hc1, h⟩ := ob_some h
    refine AW.cV (n := 24) (as := [vI (a0 - 1), vI a1, vI a2, vI a3]) (st := []) (st' := [vL v2]) (uc' := 0) (us' := 0) (hrec_worthOf hc1) cf_X12_worthOf ly_57 (le45 rfl) vc_12 (le45 rfl) wM_X12_461 (by omega) (le45 rfl) (dat D_X12_worthOf 16 rfl) rfl rfl (le45 rfl) (le45 rfl) rfl (fun _ => ?_) nlt0
    refine AW.lstore (n := 26) (ls' := [some (vR 57), some (vI a0), some (vI a1), some (vI a2), some (vI a3), some (vL 0), none, some (vL v2), none, none, none, none, none]) (dat D_X12_worthOf 17 rfl) rfl (le45 rfl) (le45 rfl) rfl rfl ?_
    refine AW.iconst (n := 27) (dat D_X12_worthOf 18 rfl) rfl ?_
    refine AW.istore (n := 29) (ls' := [some (vR 57), some (vI a0), some (vI a1), some (vI a2), some (vI a3), some (vL 0), none, some (vL v2), none, some (vI 0), none, none, none]) (dat D_X12_worthOf 19 rfl) rfl (le45 rfl) (le45 rfl) rfl rfl ?_
    obtain ⟨b5, hi5, hq5⟩ := ob_some h
    obtain ⟨e6, e5⟩ : ∃ z, z = b5 := ⟨_, rfl⟩
    subst e5
    have hR5 : AW Γ mX12_worthOf (2 + (D + 1)) (0, r) (85, σ) 0 0 104 [none, none, none, none, none, some (vL e6), none, none, none, none, none, none, none] [] (85, σ) := by
      have h : X12_worthOf_e29 rec n e6 = some _ := hq5
      unfold X12_worthOf_e29 at h
      refine AW.lload (n := 106) (dat D_X12_worthOf 59 rfl) rfl rfl ?_
      cases h
      exact AW.lret rfl rfl rfl (dat D_X12_worthOf 60 rfl)
    refine AW.to (ls'' := [some (vR 57), some (vI a0), some (vI a1), some (vI a2), some (vI a3), some (vL 0), none, some (vL v2), none, some (vI 0), none, none, none]) ?_ (lle_s rfl (lle_s rfl (lle_s rfl (lle_s rfl (lle_s rfl (lle_s rfl (lle_n (lle_s rfl (lle_n (lle_s rfl (lle_n (lle_n (lle_n (lle_z))))))))))))))
    refine aw_iter (fun s : Int × Int => AW Γ mX12_worthOf (2 + (D + 1)) (0, r) (85, σ) 0 0 29 [some (vR 57), some (vI a0), some (vI a1), some (vI a2), some (vI a3), some (vL (s.1)), none, some (vL v2), none, some (vI (s.2)), none, none, none] [] (85, σ)) (fun s y h hk5 hb5 => ?_) _ _ hi5
    obtain ⟨z3, z4⟩ := s
    show AW Γ mX12_worthOf (2 + (D + 1)) (0, r) (85, σ) 0 0 29 [some (vR 57), some (vI a0), some (vI a1), some (vI a2), some (vI a3), some (vL z3), none, some (vL v2), none, some (vI z4), none, none, none] [] (85, σ)
    have h : X12_worthOf_l29 rec n σ a1 a3 a0 a2 v2 z3 z4 = some y := h
    unfold X12_worthOf_l29 at h
    refine AW.iload (n := 31) (dat D_X12_worthOf 20 rfl) rfl rfl ?_
    refine AW.aload_n (n := 32) (dat D_X12_worthOf 21 rfl) rfl rfl ?_
    refine AW.getI (n := 35) fX12_33 wF_X12_366 ly_57 (le45 rfl) rfl rfl (dat D_X12_worthOf 22 rfl) rfl ?_
    refine AW.icmp_geH (t := 104) (n := 38) h (dat D_X12_worthOf 23 rfl) rfl rfl rfl rfl (fun h => ?_) (fun h => ?_)
    · cases h
      have hb := hb5 _ rfl
      cases hb
      exact AW.to hR5 (lle_n (lle_n (lle_n (lle_n (lle_n (lle_s rfl (lle_n (lle_n (lle_n (lle_n (lle_n (lle_n (lle_n (lle_z))))))))))))))
    · refine AW.aload_n (n := 39) (dat D_X12_worthOf 24 rfl) rfl rfl ?_
      refine AW.getR (n := 42) (t := 77) fX12_47 wF_X12_83 ly_57 (le45 rfl) rfl (dat D_X12_worthOf 25 rfl) rfl ?_
      refine AW.iload (n := 44) (dat D_X12_worthOf 26 rfl) rfl rfl ?_
      refine AW.ialdH h (n := 45) rfl ly_77 (le45 rfl) (dat D_X12_worthOf 27 rfl) rfl (fun j7 h => ?_)
      refine AW.ltI h (fun x8 h => ?_)
      refine AW.istore (n := 47) (ls' := [some (vR 57), some (vI a0), some (vI a1), some (vI a2), some (vI a3), some (vL z3), none, some (vL v2), none, some (vI z4), some (vI x8), none, none]) (dat D_X12_worthOf 28 rfl) rfl (le45 rfl) (le45 rfl) rfl rfl ?_
      refine AW.iload_n (n := 48) (dat D_X12_worthOf 29 rfl) rfl rfl ?_
      obtain ⟨s10, h, hq10⟩ := ob_some h
      obtain ⟨y9, e10⟩ : ∃ z, z = s10 := ⟨_, rfl⟩
      subst e10
      have hJ10 : AW Γ mX12_worthOf (2 + (D + 1)) (0, r) (85, σ) 0 0 84 [some (vR 57), some (vI a0), some (vI a1), some (vI a2), some (vI a3), some (vL z3), none, some (vL v2), none, some (vI z4), none, none, none] [vL y9] (85, σ) := by
        have h : X12_worthOf_j84 rec n z3 v2 z4 y9 = some _ := hq10
        unfold X12_worthOf_j84 at h
        refine AW.lstore (n := 86) (ls' := [some (vR 57), some (vI a0), some (vI a1), some (vI a2), some (vI a3), some (vL z3), none, some (vL v2), none, some (vI z4), none, some (vL y9), none]) (dat D_X12_worthOf 50 rfl) rfl (le45 rfl) (le45 rfl) rfl rfl ?_
        refine AW.lload (n := 88) (dat D_X12_worthOf 51 rfl) rfl rfl ?_
        refine AW.lload (n := 90) (dat D_X12_worthOf 52 rfl) rfl rfl ?_
        refine AW.lload (n := 92) (dat D_X12_worthOf 53 rfl) rfl rfl ?_
        refine AW.lmax (n := 95) wM_X12_330 (le45 rfl) (le45 rfl) (dat D_X12_worthOf 54 rfl) rfl ?_
        refine AW.ladd (n := 96) (dat D_X12_worthOf 55 rfl) rfl ?_
        refine AW.ltL h (fun x11 h => ?_)
        refine AW.lstore (n := 98) (ls' := [some (vR 57), some (vI a0), some (vI a1), some (vI a2), some (vI a3), some (vL x11), none, some (vL v2), none, some (vI z4), none, some (vL y9), none]) (dat D_X12_worthOf 56 rfl) rfl (le45 rfl) (le45 rfl) rfl rfl ?_
        refine AW.iincH h (n := 101) (dat D_X12_worthOf 57 rfl) rfl rfl (le45 rfl) rfl (fun x12 h => ?_)
        refine AW.lq (ls' := [some (vR 57), some (vI a0), some (vI a1), some (vI a2), some (vI a3), some (vL x11), none, some (vL v2), none, some (vI x12), none, some (vL y9), none]) rfl ?_
        refine AW.goto (t := 29) (dat D_X12_worthOf 58 rfl) rfl ?_
        cases h
        exact AW.to (hk5 _ rfl) (lle_s rfl (lle_s rfl (lle_s rfl (lle_s rfl (lle_s rfl (lle_s rfl (lle_n (lle_s rfl (lle_n (lle_s rfl (lle_n (lle_n (lle_n (lle_z))))))))))))))
      refine AW.if_eqH (t := 58) (n := 51) h (dat D_X12_worthOf 30 rfl) rfl rfl (fun h => ?_) (fun h => ?_)
      · refine AW.lconst (n := 59) (x := 0) (dat D_X12_worthOf 34 rfl) rfl (by decide) ?_
        refine AW.goto (t := 84) (dat D_X12_worthOf 35 rfl) rfl ?_
        cases h
        exact AW.to hJ10 (lle_s rfl (lle_s rfl (lle_s rfl (lle_s rfl (lle_s rfl (lle_s rfl (lle_n (lle_s rfl (lle_n (lle_s rfl (lle_n (lle_n (lle_n (lle_z))))))))))))))
      · refine AW.iload (n := 53) (dat D_X12_worthOf 31 rfl) rfl rfl ?_
        refine AW.iload (n := 55) (dat D_X12_worthOf 32 rfl) rfl rfl ?_
        refine AW.icmp_gtH (t := 62) (n := 58) h (dat D_X12_worthOf 33 rfl) rfl rfl rfl rfl (fun h => ?_) (fun h => ?_)
        · refine AW.aload_n (n := 63) (dat D_X12_worthOf 36 rfl) rfl rfl ?_
          refine AW.iload_n (n := 64) (dat D_X12_worthOf 37 rfl) rfl rfl ?_
          refine AW.iconst (n := 65) (dat D_X12_worthOf 38 rfl) rfl ?_
          refine AW.isub (n := 66) (dat D_X12_worthOf 39 rfl) rfl ?_
          refine AW.iload_n (n := 67) (dat D_X12_worthOf 40 rfl) rfl rfl ?_
          refine AW.iconst (n := 68) (dat D_X12_worthOf 41 rfl) rfl ?_
          refine AW.isub (n := 69) (dat D_X12_worthOf 42 rfl) rfl ?_
          refine AW.iload_n (n := 70) (dat D_X12_worthOf 43 rfl) rfl rfl ?_
          refine AW.iload (n := 72) (dat D_X12_worthOf 44 rfl) rfl rfl ?_
          refine AW.mmax (n := 75) wM_X12_427 (le45 rfl) (le45 rfl) (dat D_X12_worthOf 45 rfl) rfl ?_
          refine AW.iload_n (n := 76) (dat D_X12_worthOf 46 rfl) rfl rfl ?_
          refine AW.iload (n := 78) (dat D_X12_worthOf 47 rfl) rfl rfl ?_
          refine AW.mmin (n := 81) wM_X12_315 (le45 rfl) (le45 rfl) (dat D_X12_worthOf 48 rfl) rfl ?_
          obtain ⟨v14, hc13, h⟩ := ob_some h
          refine AW.cV (n := 84) (as := [vI (a0 - 1), vI (a1 - 1), vI (mx32 a2 x8), vI (mn32 a2 x8)]) (st := []) (st' := [vL v14]) (uc' := 0) (us' := 0) (hrec_worthOf hc13) cf_X12_worthOf ly_57 (le45 rfl) vc_12 (le45 rfl) wM_X12_461 (by omega) (le45 rfl) (dat D_X12_worthOf 49 rfl) rfl rfl (le45 rfl) (le45 rfl) rfl (fun _ => ?_) nlt0
          cases h
          exact AW.to hJ10 (lle_s rfl (lle_s rfl (lle_s rfl (lle_s rfl (lle_s rfl (lle_s rfl (lle_n (lle_s rfl (lle_n (lle_s rfl (lle_n (lle_n (lle_n (lle_z))))))))))))))
        · refine AW.lconst (n := 59) (x := 0) (dat D_X12_worthOf 34 rfl) rfl (by decide) ?_
          refine AW.goto (t := 84) (dat D_X12_worthOf 35 rfl) rfl ?_
          cases h
          exact AW.to hJ10 (lle_s rfl (lle_s rfl (lle_s rfl (lle_s rfl (lle_s rfl (lle_s rfl (lle_n (lle_s rfl (lle_n (lle_s rfl (lle_n (lle_n (lle_n (lle_z))))))))))))))
def MW (n : Nat) : Nat → Int → Int → Int → Int → SG → Option Int
  | 0, _, _, _, _, _ => none
  | D + 1, a, b, c, e, σ => X12_worthOf_b (MW n D) n a b c e σ
theorem A_MW {Γ : GA} (hΓ : (gl Γ).stackTraces = false) {n : Nat} : ∀ D : Nat, (∀ {a b c e : Int} {r : Int} {σ : SG}, MW n D a b c e σ = some r → AM Γ mX12_worthOf (2 + D) 0 0 [vR 57, vI a, vI b, vI c, vI e] (85, σ) (0, r) (85, σ))
  | 0 => by
    intros; rename_i h; cases h
  | D + 1 => by
    intros; rename_i h; exact A_X12_worthOf_b hΓ (A_MW hΓ (n := n) D) h
theorem A_X12_worthOf {Γ : GA} (hΓ : (gl Γ).stackTraces = false) (D : Nat) {n : Nat} {a b c e : Int} {r : Int} {σ : SG} (h : MW n D a b c e σ = some r) : AM Γ mX12_worthOf (2 + D) 0 0 [vR 57, vI a, vI b, vI c, vI e] (85, σ) (0, r) (85, σ) := (A_MW hΓ D) h
def L_X12_worth : List (Nat × Instr × Nat) := [(0, .aload_n 0, 1), (1, .iconst 0, 1), (2, .putfield 105, 3), (5, .aload_n 0, 1), (6, .iload_n 1, 1), (7, .invokevirtual 435, 3), (10, .ifCond .ne 56, 3), (13, .aload_n 0, 1), (14, .iload_n 2, 1), (15, .iconst 0, 1), (16, .bipush 6, 2), (18, .invokestatic 164, 3), (21, .ifCond .eq 13, 3), (24, .iload_n 3, 1), (25, .iconst 0, 1), (26, .bipush 6, 2), (28, .invokestatic 164, 3), (31, .ifCond .ne 7, 3), (34, .iconst 1, 1), (35, .goto 4, 3), (38, .iconst 0, 1), (39, .iconst 2, 1), (40, .invokevirtual 230, 3), (43, .ifCond .ne 23, 3), (46, .aload_n 0, 1), (47, .aload_n 0, 1), (48, .getfield 366, 3), (51, .ifCond .ne 7, 3), (54, .iconst 1, 1), (55, .goto 4, 3), (58, .iconst 0, 1), (59, .iconst 3, 1), (60, .invokevirtual 230, 3), (63, .ifCond .eq 5, 3), (66, .lconst 0, 1), (67, .lreturn, 1), (68, .aload_n 0, 1), (69, .iload_n 2, 1), (70, .iload_n 3, 1), (71, .aload_n 0, 1), (72, .iload_n 1, 1), (73, .iconst 0, 1), (74, .invokevirtual 343, 3), (77, .aload_n 0, 1), (78, .iload_n 1, 1), (79, .iconst 1, 1), (80, .invokevirtual 343, 3), (83, .invokevirtual 461, 3), (86, .lreturn, 1)]
theorem D_X12_worth : dOK cX12_worth L_X12_worth = true := by decide +kernel
theorem cf_X12_worth : CFV mX12_worth 3 := ⟨wI_X12_worth, wS_X12_worth, wN_WaveRightModel, wC_X12_worth, rfl, ⟨by decide +kernel, by decide +kernel, by decide +kernel⟩, le45 rfl⟩
def X12_worth_j59 (n : Nat) (σ11 : SG) (a0 : Int) (a1 : Int) (a2 : Int) (y12 : Int) : Option (Int × SG) :=
  bnd2 (X12_throwsIf n y12 3 σ11) fun v15 σ16 =>
  if w32 v15 = 0 then
    (X12_bestOf n a0 0 σ16).bind fun v18 =>
    (X12_bestOf n a0 1 σ16).bind fun v20 =>
    (MW n 20 a1 a2 v18 v20 σ16).bind fun v22 =>
    some ((v22, σ16))
  else
    some ((0, σ16))
def X12_worth_j39 (n : Nat) (σ4 : SG) (a0 : Int) (a1 : Int) (a2 : Int) (y7 : Int) : Option (Int × SG) :=
  bnd2 (X12_throwsIf n y7 2 σ4) fun v10 σ11 =>
  if w32 v10 = 0 then
    ((if w32 (σ11 57 33) = 0 then
      some (1)
    else
      some (0)) : Option (Int)).bind (fun s => X12_worth_j59 n σ11 a0 a1 a2 s)
  else
    some ((0, σ11))
def X12_worth (n : Nat) (a0 : Int) (a1 : Int) (a2 : Int) (σ : SG) : Option (Int × SG) :=
  lt (up σ 57 0 0) fun σ1 =>
  bnd2 (X12_noSurfer n a0 σ1) fun v3 σ4 =>
  if w32 v3 = 0 then
    (X12_in n a1 0 6 σ4).bind fun v6 =>
    ((if w32 v6 = 0 then
      some (1)
    else
      (X12_in n a2 0 6 σ4).bind fun v24 =>
      if w32 v24 = 0 then
        some (1)
      else
        some (0)) : Option (Int)).bind (fun s => X12_worth_j39 n σ4 a0 a1 a2 s)
  else
    some ((0, σ4))
set_option maxHeartbeats 4000000 in
set_option maxRecDepth 100000 in
theorem A_X12_worth {Γ : GA} (hΓ : (gl Γ).stackTraces = false) {n : Nat} {a0 : Int} {a1 : Int} {a2 : Int} {σ : SG} {r : Int} {τ : SG}  (h : X12_worth n a0 a1 a2 σ = some (r, τ)) : AM Γ mX12_worth 23 0 0 [vR 57, vI a0, vI a1, vI a2] (85, σ) (0, r) (85, τ) := by
  refine AM.of pl_X12 rfl wC_X12_worth (le45 rfl) hΓ ?_
  refine AW.to (ls'' := [some (vR 57), some (vI a0), some (vI a1), some (vI a2)]) ?_ (lle_s rfl (lle_s rfl (lle_s rfl (lle_s rfl (lle_z)))))
  unfold X12_worth at h
  refine AW.aload_n (n := 1) (dat D_X12_worth 0 rfl) rfl rfl ?_
  refine AW.iconst (n := 2) (dat D_X12_worth 1 rfl) rfl ?_
  refine AW.putI (n := 5) fX12_0 wF_X12_105 ly_57 (le45 rfl) rfl rfl rfl (dat D_X12_worth 2 rfl) rfl ?_
  refine AW.ltS h (fun σ1 h => ?_)
  refine AW.aload_n (n := 6) (dat D_X12_worth 3 rfl) rfl rfl ?_
  refine AW.iload_n (n := 7) (dat D_X12_worth 4 rfl) rfl rfl ?_
  obtain ⟨v3, σ4, hc2, h⟩ := bnd2_some h
  refine AW.cV (n := 10) (as := [vI a0]) (st := []) (st' := [vI v3]) (uc' := 0) (us' := 0) (A_X12_noSurfer hΓ hc2) cf_X12_noSurfer ly_57 (le45 rfl) vc_12 (le45 rfl) wM_X12_435 (le45 rfl) (le45 rfl) (dat D_X12_worth 5 rfl) rfl rfl (le45 rfl) (le45 rfl) rfl (fun _ => ?_) nlt0
  refine AW.if_neH (t := 66) (n := 13) h (dat D_X12_worth 6 rfl) rfl rfl (fun h => ?_) (fun h => ?_)
  · refine AW.aload_n (n := 14) (dat D_X12_worth 7 rfl) rfl rfl ?_
    refine AW.iload_n (n := 15) (dat D_X12_worth 8 rfl) rfl rfl ?_
    refine AW.iconst (n := 16) (dat D_X12_worth 9 rfl) rfl ?_
    refine AW.bipush (n := 18) (dat D_X12_worth 10 rfl) rfl (by decide) ?_
    obtain ⟨v6, hc5, h⟩ := ob_some h
    refine AW.cS (n := 21) (as := [vI a1, vI 0, vI 6]) (st := [vR 57]) (st' := [vI v6, vR 57]) (uc' := 0) (us' := 0) (A_X12_in hΓ hc5) cf_X12_in rfl wM_X12_164 (le45 rfl) (le45 rfl) (dat D_X12_worth 11 rfl) rfl rfl (le45 rfl) (le45 rfl) rfl (fun _ => ?_) nlt0
    obtain ⟨s8, h, hq8⟩ := ob_some h
    obtain ⟨y7, e8⟩ : ∃ z, z = s8 := ⟨_, rfl⟩
    subst e8
    have hJ8 : AW Γ mX12_worth 23 (0, r) (85, τ) 0 0 39 [some (vR 57), some (vI a0), some (vI a1), some (vI a2)] [vI y7, vR 57] (85, σ4) := by
      have h : X12_worth_j39 n σ4 a0 a1 a2 y7 = some _ := hq8
      unfold X12_worth_j39 at h
      refine AW.iconst (n := 40) (dat D_X12_worth 21 rfl) rfl ?_
      obtain ⟨v10, σ11, hc9, h⟩ := bnd2_some h
      refine AW.cV (n := 43) (as := [vI y7, vI 2]) (st := []) (st' := [vI v10]) (uc' := 0) (us' := 0) (A_X12_throwsIf hΓ hc9) cf_X12_throwsIf ly_57 (le45 rfl) vc_12 (le45 rfl) wM_X12_230 (le45 rfl) (le45 rfl) (dat D_X12_worth 22 rfl) rfl rfl (le45 rfl) (le45 rfl) rfl (fun _ => ?_) nlt0
      refine AW.if_neH (t := 66) (n := 46) h (dat D_X12_worth 23 rfl) rfl rfl (fun h => ?_) (fun h => ?_)
      · refine AW.aload_n (n := 47) (dat D_X12_worth 24 rfl) rfl rfl ?_
        refine AW.aload_n (n := 48) (dat D_X12_worth 25 rfl) rfl rfl ?_
        refine AW.getI (n := 51) fX12_33 wF_X12_366 ly_57 (le45 rfl) rfl rfl (dat D_X12_worth 26 rfl) rfl ?_
        obtain ⟨s13, h, hq13⟩ := ob_some h
        obtain ⟨y12, e13⟩ : ∃ z, z = s13 := ⟨_, rfl⟩
        subst e13
        have hJ13 : AW Γ mX12_worth 23 (0, r) (85, τ) 0 0 59 [some (vR 57), some (vI a0), some (vI a1), some (vI a2)] [vI y12, vR 57] (85, σ11) := by
          have h : X12_worth_j59 n σ11 a0 a1 a2 y12 = some _ := hq13
          unfold X12_worth_j59 at h
          refine AW.iconst (n := 60) (dat D_X12_worth 31 rfl) rfl ?_
          obtain ⟨v15, σ16, hc14, h⟩ := bnd2_some h
          refine AW.cV (n := 63) (as := [vI y12, vI 3]) (st := []) (st' := [vI v15]) (uc' := 0) (us' := 0) (A_X12_throwsIf hΓ hc14) cf_X12_throwsIf ly_57 (le45 rfl) vc_12 (le45 rfl) wM_X12_230 (le45 rfl) (le45 rfl) (dat D_X12_worth 32 rfl) rfl rfl (le45 rfl) (le45 rfl) rfl (fun _ => ?_) nlt0
          refine AW.if_eqH (t := 68) (n := 66) h (dat D_X12_worth 33 rfl) rfl rfl (fun h => ?_) (fun h => ?_)
          · refine AW.aload_n (n := 69) (dat D_X12_worth 36 rfl) rfl rfl ?_
            refine AW.iload_n (n := 70) (dat D_X12_worth 37 rfl) rfl rfl ?_
            refine AW.iload_n (n := 71) (dat D_X12_worth 38 rfl) rfl rfl ?_
            refine AW.aload_n (n := 72) (dat D_X12_worth 39 rfl) rfl rfl ?_
            refine AW.iload_n (n := 73) (dat D_X12_worth 40 rfl) rfl rfl ?_
            refine AW.iconst (n := 74) (dat D_X12_worth 41 rfl) rfl ?_
            obtain ⟨v18, hc17, h⟩ := ob_some h
            refine AW.cV (n := 77) (as := [vI a0, vI 0]) (st := [vI a2, vI a1, vR 57]) (st' := [vI v18, vI a2, vI a1, vR 57]) (uc' := 0) (us' := 0) (A_X12_bestOf hΓ hc17) cf_X12_bestOf ly_57 (le45 rfl) vc_12 (le45 rfl) wM_X12_343 (le45 rfl) (le45 rfl) (dat D_X12_worth 42 rfl) rfl rfl (le45 rfl) (le45 rfl) rfl (fun _ => ?_) nlt0
            refine AW.aload_n (n := 78) (dat D_X12_worth 43 rfl) rfl rfl ?_
            refine AW.iload_n (n := 79) (dat D_X12_worth 44 rfl) rfl rfl ?_
            refine AW.iconst (n := 80) (dat D_X12_worth 45 rfl) rfl ?_
            obtain ⟨v20, hc19, h⟩ := ob_some h
            refine AW.cV (n := 83) (as := [vI a0, vI 1]) (st := [vI v18, vI a2, vI a1, vR 57]) (st' := [vI v20, vI v18, vI a2, vI a1, vR 57]) (uc' := 0) (us' := 0) (A_X12_bestOf hΓ hc19) cf_X12_bestOf ly_57 (le45 rfl) vc_12 (le45 rfl) wM_X12_343 (le45 rfl) (le45 rfl) (dat D_X12_worth 46 rfl) rfl rfl (le45 rfl) (le45 rfl) rfl (fun _ => ?_) nlt0
            obtain ⟨v22, hc21, h⟩ := ob_some h
            refine AW.cV (n := 86) (as := [vI a1, vI a2, vI v18, vI v20]) (st := []) (st' := [vL v22]) (uc' := 0) (us' := 0) (A_X12_worthOf hΓ 20 hc21) cf_X12_worthOf ly_57 (le45 rfl) vc_12 (le45 rfl) wM_X12_461 (le45 rfl) (le45 rfl) (dat D_X12_worth 47 rfl) rfl rfl (le45 rfl) (le45 rfl) rfl (fun _ => ?_) nlt0
            cases h
            exact AW.lret rfl rfl rfl (dat D_X12_worth 48 rfl)
          · refine AW.lconst (n := 67) (x := 0) (dat D_X12_worth 34 rfl) rfl (by decide) ?_
            cases h
            exact AW.lret rfl rfl rfl (dat D_X12_worth 35 rfl)
        refine AW.if_neH (t := 58) (n := 54) h (dat D_X12_worth 27 rfl) rfl rfl (fun h => ?_) (fun h => ?_)
        · refine AW.iconst (n := 55) (dat D_X12_worth 28 rfl) rfl ?_
          refine AW.goto (t := 59) (dat D_X12_worth 29 rfl) rfl ?_
          cases h
          exact AW.to hJ13 (lle_s rfl (lle_s rfl (lle_s rfl (lle_s rfl (lle_z)))))
        · refine AW.iconst (n := 59) (dat D_X12_worth 30 rfl) rfl ?_
          cases h
          exact AW.to hJ13 (lle_s rfl (lle_s rfl (lle_s rfl (lle_s rfl (lle_z)))))
      · refine AW.lconst (n := 67) (x := 0) (dat D_X12_worth 34 rfl) rfl (by decide) ?_
        cases h
        exact AW.lret rfl rfl rfl (dat D_X12_worth 35 rfl)
    refine AW.if_eqH (t := 34) (n := 24) h (dat D_X12_worth 12 rfl) rfl rfl (fun h => ?_) (fun h => ?_)
    · refine AW.iconst (n := 35) (dat D_X12_worth 18 rfl) rfl ?_
      refine AW.goto (t := 39) (dat D_X12_worth 19 rfl) rfl ?_
      cases h
      exact AW.to hJ8 (lle_s rfl (lle_s rfl (lle_s rfl (lle_s rfl (lle_z)))))
    · refine AW.iload_n (n := 25) (dat D_X12_worth 13 rfl) rfl rfl ?_
      refine AW.iconst (n := 26) (dat D_X12_worth 14 rfl) rfl ?_
      refine AW.bipush (n := 28) (dat D_X12_worth 15 rfl) rfl (by decide) ?_
      obtain ⟨v24, hc23, h⟩ := ob_some h
      refine AW.cS (n := 31) (as := [vI a2, vI 0, vI 6]) (st := [vR 57]) (st' := [vI v24, vR 57]) (uc' := 0) (us' := 0) (A_X12_in hΓ hc23) cf_X12_in rfl wM_X12_164 (le45 rfl) (le45 rfl) (dat D_X12_worth 16 rfl) rfl rfl (le45 rfl) (le45 rfl) rfl (fun _ => ?_) nlt0
      refine AW.if_neH (t := 38) (n := 34) h (dat D_X12_worth 17 rfl) rfl rfl (fun h => ?_) (fun h => ?_)
      · refine AW.iconst (n := 35) (dat D_X12_worth 18 rfl) rfl ?_
        refine AW.goto (t := 39) (dat D_X12_worth 19 rfl) rfl ?_
        cases h
        exact AW.to hJ8 (lle_s rfl (lle_s rfl (lle_s rfl (lle_s rfl (lle_z)))))
      · refine AW.iconst (n := 39) (dat D_X12_worth 20 rfl) rfl ?_
        cases h
        exact AW.to hJ8 (lle_s rfl (lle_s rfl (lle_s rfl (lle_s rfl (lle_z)))))
  · refine AW.lconst (n := 67) (x := 0) (dat D_X12_worth 34 rfl) rfl (by decide) ?_
    cases h
    exact AW.lret rfl rfl rfl (dat D_X12_worth 35 rfl)
def L_X12_least : List (Nat × Instr × Nat) := [(0, .aload_n 0, 1), (1, .iconst 0, 1), (2, .putfield 105, 3), (5, .aload_n 0, 1), (6, .iload_n 1, 1), (7, .invokevirtual 435, 3), (10, .ifCond .ne 56, 3), (13, .aload_n 0, 1), (14, .iload_n 2, 1), (15, .iconst 0, 1), (16, .bipush 6, 2), (18, .invokestatic 164, 3), (21, .ifCond .eq 13, 3), (24, .iload_n 3, 1), (25, .iconst 1, 1), (26, .bipush 6, 2), (28, .invokestatic 164, 3), (31, .ifCond .ne 7, 3), (34, .iconst 1, 1), (35, .goto 4, 3), (38, .iconst 0, 1), (39, .iconst 2, 1), (40, .invokevirtual 230, 3), (43, .ifCond .ne 23, 3), (46, .aload_n 0, 1), (47, .aload_n 0, 1), (48, .getfield 366, 3), (51, .ifCond .ne 7, 3), (54, .iconst 1, 1), (55, .goto 4, 3), (58, .iconst 0, 1), (59, .iconst 3, 1), (60, .invokevirtual 230, 3), (63, .ifCond .eq 5, 3), (66, .iconst 0, 1), (67, .ireturn, 1), (68, .aload_n 0, 1), (69, .iload_n 1, 1), (70, .iconst 0, 1), (71, .invokevirtual 343, 3), (74, .istore 4, 2), (76, .aload_n 0, 1), (77, .iload_n 1, 1), (78, .iconst 1, 1), (79, .invokevirtual 343, 3), (82, .istore 5, 2), (84, .aload_n 0, 1), (85, .iload_n 2, 1), (86, .iload_n 3, 1), (87, .iload 4, 2), (89, .iload 5, 2), (91, .invokevirtual 461, 3), (94, .lstore 6, 2), (96, .iconst 0, 1), (97, .istore 8, 2), (99, .bipush 101, 2), (101, .istore 9, 2), (103, .iload 8, 2), (105, .iload 9, 2), (107, .if_icmp .ge 61, 3), (110, .iload 8, 2), (112, .iload 9, 2), (114, .iadd, 1), (115, .iconst 2, 1), (116, .idiv, 1), (117, .istore 10, 2), (119, .aload_n 0, 1), (120, .iload_n 2, 1), (121, .iload_n 3, 1), (122, .iconst 1, 1), (123, .isub, 1), (124, .iload 4, 2), (126, .iload 10, 2), (128, .invokestatic 427, 3), (131, .iload 5, 2), (133, .iload 4, 2), (135, .iload 10, 2), (137, .invokestatic 315, 3), (140, .invokestatic 427, 3), (143, .invokevirtual 461, 3), (146, .lload 6, 2), (148, .lcmp, 1), (149, .ifCond .lt 10, 3), (152, .iload 10, 2), (154, .istore 9, 2), (156, .goto 9, 3), (159, .iload 10, 2), (161, .iconst 1, 1), (162, .iadd, 1), (163, .istore 8, 2), (165, .goto (-62), 3), (168, .iload 8, 2), (170, .bipush 100, 2), (172, .if_icmp .le 7, 3), (175, .iconst (-1), 1), (176, .goto 5, 3), (179, .iload 8, 2), (181, .ireturn, 1)]
theorem D_X12_least : dOK cX12_least L_X12_least = true := by decide +kernel
theorem cf_X12_least : CFV mX12_least 3 := ⟨wI_X12_least, wS_X12_least, wN_WaveRightModel, wC_X12_least, rfl, ⟨by decide +kernel, by decide +kernel, by decide +kernel⟩, le45 rfl⟩
def X12_least_e103 (n : Nat) (σ16 : SG) (e26 : Int) : Option (Int × SG) :=
  if w32 e26 ≤ 100 then
    some ((e26, σ16))
  else
    some (((-1), σ16))
def X12_least_j165 (n : Nat) (y31 : Int) (y32 : Int) : Option ((Int × Int) ⊕ (Int)) :=
  some (.inl (y31, y32))
def X12_least_l103 (n : Nat) (a1 : Int) (a2 : Int) (v18 : Int) (v20 : Int) (σ16 : SG) (v22 : Int) (z23 : Int) (z24 : Int) : Option ((Int × Int) ⊕ (Int)) :=
  if w32 z24 ≤ w32 z23 then
    some (.inr z23)
  else
    if w32 2 = 0 then none else
    lt (dv32 (z23 + z24) 2) fun x28 =>
    (MW n 20 a1 (a2 - 1) (mx32 v18 x28) (mx32 v20 (mn32 v18 x28)) σ16).bind fun v30 =>
    ((if w32 (cmpL v30 v22) < 0 then
      lt (x28 + 1) fun x34 =>
      some ((x34, z24))
    else
      some ((z23, x28))) : Option (Int × Int)).bind (fun s => X12_least_j165 n s.1 s.2)
def X12_least_j59 (n : Nat) (σ11 : SG) (a0 : Int) (a1 : Int) (a2 : Int) (y12 : Int) : Option (Int × SG) :=
  bnd2 (X12_throwsIf n y12 3 σ11) fun v15 σ16 =>
  if w32 v15 = 0 then
    (X12_bestOf n a0 0 σ16).bind fun v18 =>
    (X12_bestOf n a0 1 σ16).bind fun v20 =>
    (MW n 20 a1 a2 v18 v20 σ16).bind fun v22 =>
    ((iter n (fun s : Int × Int => X12_least_l103 n a1 a2 v18 v20 σ16 v22 s.1 s.2) (0, 101)) : Option (Int)).bind (fun s => X12_least_e103 n σ16 s)
  else
    some ((0, σ16))
def X12_least_j39 (n : Nat) (σ4 : SG) (a0 : Int) (a1 : Int) (a2 : Int) (y7 : Int) : Option (Int × SG) :=
  bnd2 (X12_throwsIf n y7 2 σ4) fun v10 σ11 =>
  if w32 v10 = 0 then
    ((if w32 (σ11 57 33) = 0 then
      some (1)
    else
      some (0)) : Option (Int)).bind (fun s => X12_least_j59 n σ11 a0 a1 a2 s)
  else
    some ((0, σ11))
def X12_least (n : Nat) (a0 : Int) (a1 : Int) (a2 : Int) (σ : SG) : Option (Int × SG) :=
  lt (up σ 57 0 0) fun σ1 =>
  bnd2 (X12_noSurfer n a0 σ1) fun v3 σ4 =>
  if w32 v3 = 0 then
    (X12_in n a1 0 6 σ4).bind fun v6 =>
    ((if w32 v6 = 0 then
      some (1)
    else
      (X12_in n a2 1 6 σ4).bind fun v36 =>
      if w32 v36 = 0 then
        some (1)
      else
        some (0)) : Option (Int)).bind (fun s => X12_least_j39 n σ4 a0 a1 a2 s)
  else
    some ((0, σ4))
set_option maxHeartbeats 4000000 in
set_option maxRecDepth 100000 in
theorem A_X12_least {Γ : GA} (hΓ : (gl Γ).stackTraces = false) {n : Nat} {a0 : Int} {a1 : Int} {a2 : Int} {σ : SG} {r : Int} {τ : SG}  (h : X12_least n a0 a1 a2 σ = some (r, τ)) : AM Γ mX12_least 23 0 0 [vR 57, vI a0, vI a1, vI a2] (85, σ) (0, r) (85, τ) := by
  refine AM.of pl_X12 rfl wC_X12_least (le45 rfl) hΓ ?_
  refine AW.to (ls'' := [some (vR 57), some (vI a0), some (vI a1), some (vI a2), none, none, none, none, none, none, none]) ?_ (lle_s rfl (lle_s rfl (lle_s rfl (lle_s rfl (lle_e (lle_e (lle_e (lle_e (lle_e (lle_e (lle_e (lle_z))))))))))))
  unfold X12_least at h
  refine AW.aload_n (n := 1) (dat D_X12_least 0 rfl) rfl rfl ?_
  refine AW.iconst (n := 2) (dat D_X12_least 1 rfl) rfl ?_
  refine AW.putI (n := 5) fX12_0 wF_X12_105 ly_57 (le45 rfl) rfl rfl rfl (dat D_X12_least 2 rfl) rfl ?_
  refine AW.ltS h (fun σ1 h => ?_)
  refine AW.aload_n (n := 6) (dat D_X12_least 3 rfl) rfl rfl ?_
  refine AW.iload_n (n := 7) (dat D_X12_least 4 rfl) rfl rfl ?_
  obtain ⟨v3, σ4, hc2, h⟩ := bnd2_some h
  refine AW.cV (n := 10) (as := [vI a0]) (st := []) (st' := [vI v3]) (uc' := 0) (us' := 0) (A_X12_noSurfer hΓ hc2) cf_X12_noSurfer ly_57 (le45 rfl) vc_12 (le45 rfl) wM_X12_435 (le45 rfl) (le45 rfl) (dat D_X12_least 5 rfl) rfl rfl (le45 rfl) (le45 rfl) rfl (fun _ => ?_) nlt0
  refine AW.if_neH (t := 66) (n := 13) h (dat D_X12_least 6 rfl) rfl rfl (fun h => ?_) (fun h => ?_)
  · refine AW.aload_n (n := 14) (dat D_X12_least 7 rfl) rfl rfl ?_
    refine AW.iload_n (n := 15) (dat D_X12_least 8 rfl) rfl rfl ?_
    refine AW.iconst (n := 16) (dat D_X12_least 9 rfl) rfl ?_
    refine AW.bipush (n := 18) (dat D_X12_least 10 rfl) rfl (by decide) ?_
    obtain ⟨v6, hc5, h⟩ := ob_some h
    refine AW.cS (n := 21) (as := [vI a1, vI 0, vI 6]) (st := [vR 57]) (st' := [vI v6, vR 57]) (uc' := 0) (us' := 0) (A_X12_in hΓ hc5) cf_X12_in rfl wM_X12_164 (le45 rfl) (le45 rfl) (dat D_X12_least 11 rfl) rfl rfl (le45 rfl) (le45 rfl) rfl (fun _ => ?_) nlt0
    obtain ⟨s8, h, hq8⟩ := ob_some h
    obtain ⟨y7, e8⟩ : ∃ z, z = s8 := ⟨_, rfl⟩
    subst e8
    have hJ8 : AW Γ mX12_least 23 (0, r) (85, τ) 0 0 39 [some (vR 57), some (vI a0), some (vI a1), some (vI a2), none, none, none, none, none, none, none] [vI y7, vR 57] (85, σ4) := by
      have h : X12_least_j39 n σ4 a0 a1 a2 y7 = some _ := hq8
      unfold X12_least_j39 at h
      refine AW.iconst (n := 40) (dat D_X12_least 21 rfl) rfl ?_
      obtain ⟨v10, σ11, hc9, h⟩ := bnd2_some h
      refine AW.cV (n := 43) (as := [vI y7, vI 2]) (st := []) (st' := [vI v10]) (uc' := 0) (us' := 0) (A_X12_throwsIf hΓ hc9) cf_X12_throwsIf ly_57 (le45 rfl) vc_12 (le45 rfl) wM_X12_230 (le45 rfl) (le45 rfl) (dat D_X12_least 22 rfl) rfl rfl (le45 rfl) (le45 rfl) rfl (fun _ => ?_) nlt0
      refine AW.if_neH (t := 66) (n := 46) h (dat D_X12_least 23 rfl) rfl rfl (fun h => ?_) (fun h => ?_)
      · refine AW.aload_n (n := 47) (dat D_X12_least 24 rfl) rfl rfl ?_
        refine AW.aload_n (n := 48) (dat D_X12_least 25 rfl) rfl rfl ?_
        refine AW.getI (n := 51) fX12_33 wF_X12_366 ly_57 (le45 rfl) rfl rfl (dat D_X12_least 26 rfl) rfl ?_
        obtain ⟨s13, h, hq13⟩ := ob_some h
        obtain ⟨y12, e13⟩ : ∃ z, z = s13 := ⟨_, rfl⟩
        subst e13
        have hJ13 : AW Γ mX12_least 23 (0, r) (85, τ) 0 0 59 [some (vR 57), some (vI a0), some (vI a1), some (vI a2), none, none, none, none, none, none, none] [vI y12, vR 57] (85, σ11) := by
          have h : X12_least_j59 n σ11 a0 a1 a2 y12 = some _ := hq13
          unfold X12_least_j59 at h
          refine AW.iconst (n := 60) (dat D_X12_least 31 rfl) rfl ?_
          obtain ⟨v15, σ16, hc14, h⟩ := bnd2_some h
          refine AW.cV (n := 63) (as := [vI y12, vI 3]) (st := []) (st' := [vI v15]) (uc' := 0) (us' := 0) (A_X12_throwsIf hΓ hc14) cf_X12_throwsIf ly_57 (le45 rfl) vc_12 (le45 rfl) wM_X12_230 (le45 rfl) (le45 rfl) (dat D_X12_least 32 rfl) rfl rfl (le45 rfl) (le45 rfl) rfl (fun _ => ?_) nlt0
          refine AW.if_eqH (t := 68) (n := 66) h (dat D_X12_least 33 rfl) rfl rfl (fun h => ?_) (fun h => ?_)
          · refine AW.aload_n (n := 69) (dat D_X12_least 36 rfl) rfl rfl ?_
            refine AW.iload_n (n := 70) (dat D_X12_least 37 rfl) rfl rfl ?_
            refine AW.iconst (n := 71) (dat D_X12_least 38 rfl) rfl ?_
            obtain ⟨v18, hc17, h⟩ := ob_some h
            refine AW.cV (n := 74) (as := [vI a0, vI 0]) (st := []) (st' := [vI v18]) (uc' := 0) (us' := 0) (A_X12_bestOf hΓ hc17) cf_X12_bestOf ly_57 (le45 rfl) vc_12 (le45 rfl) wM_X12_343 (le45 rfl) (le45 rfl) (dat D_X12_least 39 rfl) rfl rfl (le45 rfl) (le45 rfl) rfl (fun _ => ?_) nlt0
            refine AW.istore (n := 76) (ls' := [some (vR 57), some (vI a0), some (vI a1), some (vI a2), some (vI v18), none, none, none, none, none, none]) (dat D_X12_least 40 rfl) rfl (le45 rfl) (le45 rfl) rfl rfl ?_
            refine AW.aload_n (n := 77) (dat D_X12_least 41 rfl) rfl rfl ?_
            refine AW.iload_n (n := 78) (dat D_X12_least 42 rfl) rfl rfl ?_
            refine AW.iconst (n := 79) (dat D_X12_least 43 rfl) rfl ?_
            obtain ⟨v20, hc19, h⟩ := ob_some h
            refine AW.cV (n := 82) (as := [vI a0, vI 1]) (st := []) (st' := [vI v20]) (uc' := 0) (us' := 0) (A_X12_bestOf hΓ hc19) cf_X12_bestOf ly_57 (le45 rfl) vc_12 (le45 rfl) wM_X12_343 (le45 rfl) (le45 rfl) (dat D_X12_least 44 rfl) rfl rfl (le45 rfl) (le45 rfl) rfl (fun _ => ?_) nlt0
            refine AW.istore (n := 84) (ls' := [some (vR 57), some (vI a0), some (vI a1), some (vI a2), some (vI v18), some (vI v20), none, none, none, none, none]) (dat D_X12_least 45 rfl) rfl (le45 rfl) (le45 rfl) rfl rfl ?_
            refine AW.aload_n (n := 85) (dat D_X12_least 46 rfl) rfl rfl ?_
            refine AW.iload_n (n := 86) (dat D_X12_least 47 rfl) rfl rfl ?_
            refine AW.iload_n (n := 87) (dat D_X12_least 48 rfl) rfl rfl ?_
            refine AW.iload (n := 89) (dat D_X12_least 49 rfl) rfl rfl ?_
            refine AW.iload (n := 91) (dat D_X12_least 50 rfl) rfl rfl ?_
            obtain ⟨v22, hc21, h⟩ := ob_some h
            refine AW.cV (n := 94) (as := [vI a1, vI a2, vI v18, vI v20]) (st := []) (st' := [vL v22]) (uc' := 0) (us' := 0) (A_X12_worthOf hΓ 20 hc21) cf_X12_worthOf ly_57 (le45 rfl) vc_12 (le45 rfl) wM_X12_461 (le45 rfl) (le45 rfl) (dat D_X12_least 51 rfl) rfl rfl (le45 rfl) (le45 rfl) rfl (fun _ => ?_) nlt0
            refine AW.lstore (n := 96) (ls' := [some (vR 57), some (vI a0), some (vI a1), some (vI a2), some (vI v18), some (vI v20), some (vL v22), none, none, none, none]) (dat D_X12_least 52 rfl) rfl (le45 rfl) (le45 rfl) rfl rfl ?_
            refine AW.iconst (n := 97) (dat D_X12_least 53 rfl) rfl ?_
            refine AW.istore (n := 99) (ls' := [some (vR 57), some (vI a0), some (vI a1), some (vI a2), some (vI v18), some (vI v20), some (vL v22), none, some (vI 0), none, none]) (dat D_X12_least 54 rfl) rfl (le45 rfl) (le45 rfl) rfl rfl ?_
            refine AW.bipush (n := 101) (dat D_X12_least 55 rfl) rfl (by decide) ?_
            refine AW.istore (n := 103) (ls' := [some (vR 57), some (vI a0), some (vI a1), some (vI a2), some (vI v18), some (vI v20), some (vL v22), none, some (vI 0), some (vI 101), none]) (dat D_X12_least 56 rfl) rfl (le45 rfl) (le45 rfl) rfl rfl ?_
            obtain ⟨b25, hi25, hq25⟩ := ob_some h
            obtain ⟨e26, e25⟩ : ∃ z, z = b25 := ⟨_, rfl⟩
            subst e25
            have hR25 : AW Γ mX12_least 23 (0, r) (85, τ) 0 0 168 [none, none, none, none, none, none, none, none, some (vI e26), none, none] [] (85, σ16) := by
              have h : X12_least_e103 n σ16 e26 = some _ := hq25
              unfold X12_least_e103 at h
              refine AW.iload (n := 170) (dat D_X12_least 91 rfl) rfl rfl ?_
              refine AW.bipush (n := 172) (dat D_X12_least 92 rfl) rfl (by decide) ?_
              refine AW.icmp_leH (t := 179) (n := 175) h (dat D_X12_least 93 rfl) rfl rfl rfl (by decide) (fun h => ?_) (fun h => ?_)
              · refine AW.iload (n := 181) (dat D_X12_least 96 rfl) rfl rfl ?_
                cases h
                exact AW.iret rfl rfl rfl (dat D_X12_least 97 rfl)
              · refine AW.iconst (n := 176) (dat D_X12_least 94 rfl) rfl ?_
                refine AW.goto (t := 181) (dat D_X12_least 95 rfl) rfl ?_
                cases h
                exact AW.iret rfl rfl rfl (dat D_X12_least 97 rfl)
            refine AW.to (ls'' := [some (vR 57), none, some (vI a1), some (vI a2), some (vI v18), some (vI v20), some (vL v22), none, some (vI 0), some (vI 101), none]) ?_ (lle_s rfl (lle_n (lle_s rfl (lle_s rfl (lle_s rfl (lle_s rfl (lle_s rfl (lle_n (lle_s rfl (lle_s rfl (lle_n (lle_z))))))))))))
            refine aw_iter (fun s : Int × Int => AW Γ mX12_least 23 (0, r) (85, τ) 0 0 103 [some (vR 57), none, some (vI a1), some (vI a2), some (vI v18), some (vI v20), some (vL v22), none, some (vI (s.1)), some (vI (s.2)), none] [] (85, σ16)) (fun s y h hk25 hb25 => ?_) _ _ hi25
            obtain ⟨z23, z24⟩ := s
            show AW Γ mX12_least 23 (0, r) (85, τ) 0 0 103 [some (vR 57), none, some (vI a1), some (vI a2), some (vI v18), some (vI v20), some (vL v22), none, some (vI z23), some (vI z24), none] [] (85, σ16)
            have h : X12_least_l103 n a1 a2 v18 v20 σ16 v22 z23 z24 = some y := h
            unfold X12_least_l103 at h
            refine AW.iload (n := 105) (dat D_X12_least 57 rfl) rfl rfl ?_
            refine AW.iload (n := 107) (dat D_X12_least 58 rfl) rfl rfl ?_
            refine AW.icmp_geH (t := 168) (n := 110) h (dat D_X12_least 59 rfl) rfl rfl rfl rfl (fun h => ?_) (fun h => ?_)
            · cases h
              have hb := hb25 _ rfl
              cases hb
              exact AW.to hR25 (lle_n (lle_n (lle_n (lle_n (lle_n (lle_n (lle_n (lle_n (lle_s rfl (lle_n (lle_n (lle_z))))))))))))
            · refine AW.iload (n := 112) (dat D_X12_least 60 rfl) rfl rfl ?_
              refine AW.iload (n := 114) (dat D_X12_least 61 rfl) rfl rfl ?_
              refine AW.iadd (n := 115) (dat D_X12_least 62 rfl) rfl ?_
              refine AW.iconst (n := 116) (dat D_X12_least 63 rfl) rfl ?_
              obtain ⟨q27, h⟩ := ite_n h
              refine AW.idiv (n := 117) (dat D_X12_least 64 rfl) rfl q27 ?_
              refine AW.ltI h (fun x28 h => ?_)
              refine AW.istore (n := 119) (ls' := [some (vR 57), none, some (vI a1), some (vI a2), some (vI v18), some (vI v20), some (vL v22), none, some (vI z23), some (vI z24), some (vI x28)]) (dat D_X12_least 65 rfl) rfl (le45 rfl) (le45 rfl) rfl rfl ?_
              refine AW.aload_n (n := 120) (dat D_X12_least 66 rfl) rfl rfl ?_
              refine AW.iload_n (n := 121) (dat D_X12_least 67 rfl) rfl rfl ?_
              refine AW.iload_n (n := 122) (dat D_X12_least 68 rfl) rfl rfl ?_
              refine AW.iconst (n := 123) (dat D_X12_least 69 rfl) rfl ?_
              refine AW.isub (n := 124) (dat D_X12_least 70 rfl) rfl ?_
              refine AW.iload (n := 126) (dat D_X12_least 71 rfl) rfl rfl ?_
              refine AW.iload (n := 128) (dat D_X12_least 72 rfl) rfl rfl ?_
              refine AW.mmax (n := 131) wM_X12_427 (le45 rfl) (le45 rfl) (dat D_X12_least 73 rfl) rfl ?_
              refine AW.iload (n := 133) (dat D_X12_least 74 rfl) rfl rfl ?_
              refine AW.iload (n := 135) (dat D_X12_least 75 rfl) rfl rfl ?_
              refine AW.iload (n := 137) (dat D_X12_least 76 rfl) rfl rfl ?_
              refine AW.mmin (n := 140) wM_X12_315 (le45 rfl) (le45 rfl) (dat D_X12_least 77 rfl) rfl ?_
              refine AW.mmax (n := 143) wM_X12_427 (le45 rfl) (le45 rfl) (dat D_X12_least 78 rfl) rfl ?_
              obtain ⟨v30, hc29, h⟩ := ob_some h
              refine AW.cV (n := 146) (as := [vI a1, vI (a2 - 1), vI (mx32 v18 x28), vI (mx32 v20 (mn32 v18 x28))]) (st := []) (st' := [vL v30]) (uc' := 0) (us' := 0) (A_X12_worthOf hΓ 20 hc29) cf_X12_worthOf ly_57 (le45 rfl) vc_12 (le45 rfl) wM_X12_461 (le45 rfl) (le45 rfl) (dat D_X12_least 79 rfl) rfl rfl (le45 rfl) (le45 rfl) rfl (fun _ => ?_) nlt0
              refine AW.lload (n := 148) (dat D_X12_least 80 rfl) rfl rfl ?_
              refine AW.lcmp (n := 149) (dat D_X12_least 81 rfl) rfl ?_
              obtain ⟨s33, h, hq33⟩ := ob_some h
              obtain ⟨y31, y32⟩ := s33
              have hJ33 : AW Γ mX12_least 23 (0, r) (85, τ) 0 0 165 [some (vR 57), none, some (vI a1), some (vI a2), some (vI v18), some (vI v20), some (vL v22), none, some (vI y31), some (vI y32), none] [] (85, σ16) := by
                have h : X12_least_j165 n y31 y32 = some _ := hq33
                unfold X12_least_j165 at h
                refine AW.goto (t := 103) (dat D_X12_least 90 rfl) rfl ?_
                cases h
                exact AW.to (hk25 _ rfl) (lle_s rfl (lle_n (lle_s rfl (lle_s rfl (lle_s rfl (lle_s rfl (lle_s rfl (lle_n (lle_s rfl (lle_s rfl (lle_n (lle_z))))))))))))
              refine AW.if_ltH (t := 159) (n := 152) h (dat D_X12_least 82 rfl) rfl rfl (fun h => ?_) (fun h => ?_)
              · refine AW.iload (n := 161) (dat D_X12_least 86 rfl) rfl rfl ?_
                refine AW.iconst (n := 162) (dat D_X12_least 87 rfl) rfl ?_
                refine AW.iadd (n := 163) (dat D_X12_least 88 rfl) rfl ?_
                refine AW.ltI h (fun x34 h => ?_)
                refine AW.istore (n := 165) (ls' := [some (vR 57), none, some (vI a1), some (vI a2), some (vI v18), some (vI v20), some (vL v22), none, some (vI x34), some (vI z24), some (vI x28)]) (dat D_X12_least 89 rfl) rfl (le45 rfl) (le45 rfl) rfl rfl ?_
                cases h
                exact AW.to hJ33 (lle_s rfl (lle_n (lle_s rfl (lle_s rfl (lle_s rfl (lle_s rfl (lle_s rfl (lle_n (lle_s rfl (lle_s rfl (lle_n (lle_z))))))))))))
              · refine AW.iload (n := 154) (dat D_X12_least 83 rfl) rfl rfl ?_
                refine AW.istore (n := 156) (ls' := [some (vR 57), none, some (vI a1), some (vI a2), some (vI v18), some (vI v20), some (vL v22), none, some (vI z23), some (vI x28), some (vI x28)]) (dat D_X12_least 84 rfl) rfl (le45 rfl) (le45 rfl) rfl rfl ?_
                refine AW.goto (t := 165) (dat D_X12_least 85 rfl) rfl ?_
                cases h
                exact AW.to hJ33 (lle_s rfl (lle_n (lle_s rfl (lle_s rfl (lle_s rfl (lle_s rfl (lle_s rfl (lle_n (lle_s rfl (lle_s rfl (lle_n (lle_z))))))))))))
          · refine AW.iconst (n := 67) (dat D_X12_least 34 rfl) rfl ?_
            cases h
            exact AW.iret rfl rfl rfl (dat D_X12_least 35 rfl)
        refine AW.if_neH (t := 58) (n := 54) h (dat D_X12_least 27 rfl) rfl rfl (fun h => ?_) (fun h => ?_)
        · refine AW.iconst (n := 55) (dat D_X12_least 28 rfl) rfl ?_
          refine AW.goto (t := 59) (dat D_X12_least 29 rfl) rfl ?_
          cases h
          exact AW.to hJ13 (lle_s rfl (lle_s rfl (lle_s rfl (lle_s rfl (lle_n (lle_n (lle_n (lle_n (lle_n (lle_n (lle_n (lle_z))))))))))))
        · refine AW.iconst (n := 59) (dat D_X12_least 30 rfl) rfl ?_
          cases h
          exact AW.to hJ13 (lle_s rfl (lle_s rfl (lle_s rfl (lle_s rfl (lle_n (lle_n (lle_n (lle_n (lle_n (lle_n (lle_n (lle_z))))))))))))
      · refine AW.iconst (n := 67) (dat D_X12_least 34 rfl) rfl ?_
        cases h
        exact AW.iret rfl rfl rfl (dat D_X12_least 35 rfl)
    refine AW.if_eqH (t := 34) (n := 24) h (dat D_X12_least 12 rfl) rfl rfl (fun h => ?_) (fun h => ?_)
    · refine AW.iconst (n := 35) (dat D_X12_least 18 rfl) rfl ?_
      refine AW.goto (t := 39) (dat D_X12_least 19 rfl) rfl ?_
      cases h
      exact AW.to hJ8 (lle_s rfl (lle_s rfl (lle_s rfl (lle_s rfl (lle_n (lle_n (lle_n (lle_n (lle_n (lle_n (lle_n (lle_z))))))))))))
    · refine AW.iload_n (n := 25) (dat D_X12_least 13 rfl) rfl rfl ?_
      refine AW.iconst (n := 26) (dat D_X12_least 14 rfl) rfl ?_
      refine AW.bipush (n := 28) (dat D_X12_least 15 rfl) rfl (by decide) ?_
      obtain ⟨v36, hc35, h⟩ := ob_some h
      refine AW.cS (n := 31) (as := [vI a2, vI 1, vI 6]) (st := [vR 57]) (st' := [vI v36, vR 57]) (uc' := 0) (us' := 0) (A_X12_in hΓ hc35) cf_X12_in rfl wM_X12_164 (le45 rfl) (le45 rfl) (dat D_X12_least 16 rfl) rfl rfl (le45 rfl) (le45 rfl) rfl (fun _ => ?_) nlt0
      refine AW.if_neH (t := 38) (n := 34) h (dat D_X12_least 17 rfl) rfl rfl (fun h => ?_) (fun h => ?_)
      · refine AW.iconst (n := 35) (dat D_X12_least 18 rfl) rfl ?_
        refine AW.goto (t := 39) (dat D_X12_least 19 rfl) rfl ?_
        cases h
        exact AW.to hJ8 (lle_s rfl (lle_s rfl (lle_s rfl (lle_s rfl (lle_n (lle_n (lle_n (lle_n (lle_n (lle_n (lle_n (lle_z))))))))))))
      · refine AW.iconst (n := 39) (dat D_X12_least 20 rfl) rfl ?_
        cases h
        exact AW.to hJ8 (lle_s rfl (lle_s rfl (lle_s rfl (lle_s rfl (lle_n (lle_n (lle_n (lle_n (lle_n (lle_n (lle_n (lle_z))))))))))))
  · refine AW.iconst (n := 67) (dat D_X12_least 34 rfl) rfl ?_
    cases h
    exact AW.iret rfl rfl rfl (dat D_X12_least 35 rfl)
def L_X12_count : List (Nat × Instr × Nat) := [(0, .aload_n 0, 1), (1, .iconst 0, 1), (2, .putfield 105, 3), (5, .iload_n 1, 1), (6, .tableswitch 217 0 14 #[74, 79, 86, 91, 96, 115, 122, 127, 140, 153, 192, 197, 202, 207, 212], 74), (80, .aload_n 0, 1), (81, .invokevirtual 378, 3), (84, .ireturn, 1), (85, .aload_n 0, 1), (86, .getfield 21, 3), (89, .iconst 1, 1), (90, .iaload, 1), (91, .ireturn, 1), (92, .aload_n 0, 1), (93, .getfield 352, 3), (96, .ireturn, 1), (97, .aload_n 0, 1), (98, .getfield 340, 3), (101, .ireturn, 1), (102, .aload_n 0, 1), (103, .getfield 234, 3), (106, .ifCond .eq 12, 3), (109, .aload_n 0, 1), (110, .getfield 21, 3), (113, .iconst 2, 1), (114, .iaload, 1), (115, .goto 5, 3), (118, .bipush 30, 2), (120, .ireturn, 1), (121, .aload_n 0, 1), (122, .getfield 21, 3), (125, .iconst 3, 1), (126, .iaload, 1), (127, .ireturn, 1), (128, .aload_n 0, 1), (129, .getfield 49, 3), (132, .ireturn, 1), (133, .aload_n 0, 1), (134, .getfield 52, 3), (137, .ifCond .eq 7, 3), (140, .iconst 1, 1), (141, .goto 4, 3), (144, .iconst 0, 1), (145, .ireturn, 1), (146, .aload_n 0, 1), (147, .getfield 372, 3), (150, .ifCond .eq 7, 3), (153, .iconst 1, 1), (154, .goto 4, 3), (157, .iconst 0, 1), (158, .ireturn, 1), (159, .iconst 0, 1), (160, .istore_n 2, 1), (161, .iconst 0, 1), (162, .istore_n 3, 1), (163, .iload_n 3, 1), (164, .aload_n 0, 1), (165, .invokevirtual 378, 3), (168, .if_icmp .ge 28, 3), (171, .iload_n 2, 1), (172, .aload_n 0, 1), (173, .getfield 86, 3), (176, .iload_n 3, 1), (177, .baload, 1), (178, .ifCond .eq 9, 3), (181, .iconst 1, 1), (182, .iload_n 3, 1), (183, .ishl, 1), (184, .goto 4, 3), (187, .iconst 0, 1), (188, .ior, 1), (189, .istore_n 2, 1), (190, .iinc 3 1, 3), (193, .goto (-30), 3), (196, .iload_n 2, 1), (197, .ireturn, 1), (198, .aload_n 0, 1), (199, .getfield 357, 3), (202, .ireturn, 1), (203, .aload_n 0, 1), (204, .getfield 360, 3), (207, .ireturn, 1), (208, .aload_n 0, 1), (209, .getfield 363, 3), (212, .ireturn, 1), (213, .aload_n 0, 1), (214, .getfield 39, 3), (217, .ireturn, 1), (218, .aload_n 0, 1), (219, .getfield 349, 3), (222, .ireturn, 1), (223, .iconst (-1), 1), (224, .ireturn, 1)]
theorem D_X12_count : dOK cX12_count L_X12_count = true := by decide +kernel
theorem cf_X12_count : CFV mX12_count 1 := ⟨wI_X12_count, wS_X12_count, wN_WaveRightModel, wC_X12_count, rfl, ⟨by decide +kernel, by decide +kernel, by decide +kernel⟩, le45 rfl⟩
def X12_count_e163 (n : Nat) (σ1 : SG) (e19 : Int) : Option (Int × SG) :=
  some ((e19, σ1))
def X12_count_j188 (n : Nat) (z16 : Int) (z17 : Int) (y23 : Int) : Option ((Int × Int) ⊕ (Int)) :=
  lt (bOr z16 y23) fun x25 =>
  lt (z17 + 1) fun x26 =>
  some (.inl (x25, x26))
def X12_count_l163 (n : Nat) (σ1 : SG) (z16 : Int) (z17 : Int) : Option ((Int × Int) ⊕ (Int)) :=
  (X12_surfers n σ1).bind fun v21 =>
  if w32 v21 ≤ w32 z17 then
    some (.inr z16)
  else
    rdA 5 z17 fun j22 =>
    ((if w32 (σ1 78 j22) = 0 then
      some (0)
    else
      some ((bShl 1 z17))) : Option (Int)).bind (fun s => X12_count_j188 n z16 z17 s)
def X12_count (n : Nat) (a0 : Int) (σ : SG) : Option (Int × SG) :=
  lt (up σ 57 0 0) fun σ1 =>
  if w32 a0 = 0 then
    (X12_surfers n σ1).bind fun v3 =>
    some ((v3, σ1))
  else if w32 a0 = 1 then
    rdA 144 1 fun j5 =>
    some (((σ1 60 j5), σ1))
  else if w32 a0 = 2 then
    some (((σ1 57 25), σ1))
  else if w32 a0 = 3 then
    some (((σ1 57 26), σ1))
  else if w32 a0 = 4 then
    if w32 (σ1 57 11) = 0 then
      some ((30, σ1))
    else
      rdA 144 2 fun j9 =>
      some (((σ1 60 j9), σ1))
  else if w32 a0 = 5 then
    rdA 144 3 fun j11 =>
    some (((σ1 60 j11), σ1))
  else if w32 a0 = 6 then
    some (((σ1 57 27), σ1))
  else if w32 a0 = 7 then
    if w32 (σ1 57 35) = 0 then
      some ((0, σ1))
    else
      some ((1, σ1))
  else if w32 a0 = 8 then
    if w32 (σ1 57 36) = 0 then
      some ((0, σ1))
    else
      some ((1, σ1))
  else if w32 a0 = 9 then
    ((iter n (fun s : Int × Int => X12_count_l163 n σ1 s.1 s.2) (0, 0)) : Option (Int)).bind (fun s => X12_count_e163 n σ1 s)
  else if w32 a0 = 10 then
    some (((σ1 57 29), σ1))
  else if w32 a0 = 11 then
    some (((σ1 57 31), σ1))
  else if w32 a0 = 12 then
    some (((σ1 57 32), σ1))
  else if w32 a0 = 13 then
    some (((σ1 57 18), σ1))
  else if w32 a0 = 14 then
    some (((σ1 57 30), σ1))
  else 
    some (((-1), σ1))
set_option maxHeartbeats 4000000 in
set_option maxRecDepth 100000 in
theorem A_X12_count {Γ : GA} (hΓ : (gl Γ).stackTraces = false) {n : Nat} {a0 : Int} {σ : SG} {r : Int} {τ : SG}  (h : X12_count n a0 σ = some (r, τ)) : AM Γ mX12_count 2 0 0 [vR 57, vI a0] (85, σ) (0, r) (85, τ) := by
  refine AM.of pl_X12 rfl wC_X12_count (le45 rfl) hΓ ?_
  refine AW.to (ls'' := [some (vR 57), some (vI a0), none, none]) ?_ (lle_s rfl (lle_s rfl (lle_e (lle_e (lle_z)))))
  unfold X12_count at h
  refine AW.aload_n (n := 1) (dat D_X12_count 0 rfl) rfl rfl ?_
  refine AW.iconst (n := 2) (dat D_X12_count 1 rfl) rfl ?_
  refine AW.putI (n := 5) fX12_0 wF_X12_105 ly_57 (le45 rfl) rfl rfl rfl (dat D_X12_count 2 rfl) rfl ?_
  refine AW.ltS h (fun σ1 h => ?_)
  refine AW.iload_n (n := 6) (dat D_X12_count 3 rfl) rfl rfl ?_
  by_cases q4 : w32 a0 = 0
  · have h := ite_t h q4
    refine AW.tIn (dat D_X12_count 4 rfl) q4 (by decide) (by decide) (t := 80) rfl rfl ?_
    refine AW.aload_n (n := 81) (dat D_X12_count 5 rfl) rfl rfl ?_
    obtain ⟨v3, hc2, h⟩ := ob_some h
    refine AW.cV (n := 84) (as := []) (st := []) (st' := [vI v3]) (uc' := 0) (us' := 0) (A_X12_surfers hΓ hc2) cf_X12_surfers ly_57 (le45 rfl) vc_12 (le45 rfl) wM_X12_378 (le45 rfl) (le45 rfl) (dat D_X12_count 6 rfl) rfl rfl (le45 rfl) (le45 rfl) rfl (fun _ => ?_) nlt0
    cases h
    exact AW.iret rfl rfl rfl (dat D_X12_count 7 rfl)
  have h := ite_f h q4
  by_cases q6 : w32 a0 = 1
  · have h := ite_t h q6
    refine AW.tIn (dat D_X12_count 4 rfl) q6 (by decide) (by decide) (t := 85) rfl rfl ?_
    refine AW.aload_n (n := 86) (dat D_X12_count 8 rfl) rfl rfl ?_
    refine AW.getR (n := 89) (t := 60) fX12_9 wF_X12_21 ly_57 (le45 rfl) rfl (dat D_X12_count 9 rfl) rfl ?_
    refine AW.iconst (n := 90) (dat D_X12_count 10 rfl) rfl ?_
    refine AW.ialdH h (n := 91) rfl ly_60 (le45 rfl) (dat D_X12_count 11 rfl) rfl (fun j5 h => ?_)
    cases h
    exact AW.iret rfl rfl rfl (dat D_X12_count 12 rfl)
  have h := ite_f h q6
  by_cases q7 : w32 a0 = 2
  · have h := ite_t h q7
    refine AW.tIn (dat D_X12_count 4 rfl) q7 (by decide) (by decide) (t := 92) rfl rfl ?_
    refine AW.aload_n (n := 93) (dat D_X12_count 13 rfl) rfl rfl ?_
    refine AW.getI (n := 96) fX12_25 wF_X12_352 ly_57 (le45 rfl) rfl rfl (dat D_X12_count 14 rfl) rfl ?_
    cases h
    exact AW.iret rfl rfl rfl (dat D_X12_count 15 rfl)
  have h := ite_f h q7
  by_cases q8 : w32 a0 = 3
  · have h := ite_t h q8
    refine AW.tIn (dat D_X12_count 4 rfl) q8 (by decide) (by decide) (t := 97) rfl rfl ?_
    refine AW.aload_n (n := 98) (dat D_X12_count 16 rfl) rfl rfl ?_
    refine AW.getI (n := 101) fX12_26 wF_X12_340 ly_57 (le45 rfl) rfl rfl (dat D_X12_count 17 rfl) rfl ?_
    cases h
    exact AW.iret rfl rfl rfl (dat D_X12_count 18 rfl)
  have h := ite_f h q8
  by_cases q10 : w32 a0 = 4
  · have h := ite_t h q10
    refine AW.tIn (dat D_X12_count 4 rfl) q10 (by decide) (by decide) (t := 102) rfl rfl ?_
    refine AW.aload_n (n := 103) (dat D_X12_count 19 rfl) rfl rfl ?_
    refine AW.getI (n := 106) fX12_11 wF_X12_234 ly_57 (le45 rfl) rfl rfl (dat D_X12_count 20 rfl) rfl ?_
    refine AW.if_eqH (t := 118) (n := 109) h (dat D_X12_count 21 rfl) rfl rfl (fun h => ?_) (fun h => ?_)
    · refine AW.bipush (n := 120) (dat D_X12_count 27 rfl) rfl (by decide) ?_
      cases h
      exact AW.iret rfl rfl rfl (dat D_X12_count 28 rfl)
    · refine AW.aload_n (n := 110) (dat D_X12_count 22 rfl) rfl rfl ?_
      refine AW.getR (n := 113) (t := 60) fX12_9 wF_X12_21 ly_57 (le45 rfl) rfl (dat D_X12_count 23 rfl) rfl ?_
      refine AW.iconst (n := 114) (dat D_X12_count 24 rfl) rfl ?_
      refine AW.ialdH h (n := 115) rfl ly_60 (le45 rfl) (dat D_X12_count 25 rfl) rfl (fun j9 h => ?_)
      refine AW.goto (t := 120) (dat D_X12_count 26 rfl) rfl ?_
      cases h
      exact AW.iret rfl rfl rfl (dat D_X12_count 28 rfl)
  have h := ite_f h q10
  by_cases q12 : w32 a0 = 5
  · have h := ite_t h q12
    refine AW.tIn (dat D_X12_count 4 rfl) q12 (by decide) (by decide) (t := 121) rfl rfl ?_
    refine AW.aload_n (n := 122) (dat D_X12_count 29 rfl) rfl rfl ?_
    refine AW.getR (n := 125) (t := 60) fX12_9 wF_X12_21 ly_57 (le45 rfl) rfl (dat D_X12_count 30 rfl) rfl ?_
    refine AW.iconst (n := 126) (dat D_X12_count 31 rfl) rfl ?_
    refine AW.ialdH h (n := 127) rfl ly_60 (le45 rfl) (dat D_X12_count 32 rfl) rfl (fun j11 h => ?_)
    cases h
    exact AW.iret rfl rfl rfl (dat D_X12_count 33 rfl)
  have h := ite_f h q12
  by_cases q13 : w32 a0 = 6
  · have h := ite_t h q13
    refine AW.tIn (dat D_X12_count 4 rfl) q13 (by decide) (by decide) (t := 128) rfl rfl ?_
    refine AW.aload_n (n := 129) (dat D_X12_count 34 rfl) rfl rfl ?_
    refine AW.getI (n := 132) fX12_27 wF_X12_49 ly_57 (le45 rfl) rfl rfl (dat D_X12_count 35 rfl) rfl ?_
    cases h
    exact AW.iret rfl rfl rfl (dat D_X12_count 36 rfl)
  have h := ite_f h q13
  by_cases q14 : w32 a0 = 7
  · have h := ite_t h q14
    refine AW.tIn (dat D_X12_count 4 rfl) q14 (by decide) (by decide) (t := 133) rfl rfl ?_
    refine AW.aload_n (n := 134) (dat D_X12_count 37 rfl) rfl rfl ?_
    refine AW.getI (n := 137) fX12_35 wF_X12_52 ly_57 (le45 rfl) rfl rfl (dat D_X12_count 38 rfl) rfl ?_
    refine AW.if_eqH (t := 144) (n := 140) h (dat D_X12_count 39 rfl) rfl rfl (fun h => ?_) (fun h => ?_)
    · refine AW.iconst (n := 145) (dat D_X12_count 42 rfl) rfl ?_
      cases h
      exact AW.iret rfl rfl rfl (dat D_X12_count 43 rfl)
    · refine AW.iconst (n := 141) (dat D_X12_count 40 rfl) rfl ?_
      refine AW.goto (t := 145) (dat D_X12_count 41 rfl) rfl ?_
      cases h
      exact AW.iret rfl rfl rfl (dat D_X12_count 43 rfl)
  have h := ite_f h q14
  by_cases q15 : w32 a0 = 8
  · have h := ite_t h q15
    refine AW.tIn (dat D_X12_count 4 rfl) q15 (by decide) (by decide) (t := 146) rfl rfl ?_
    refine AW.aload_n (n := 147) (dat D_X12_count 44 rfl) rfl rfl ?_
    refine AW.getI (n := 150) fX12_36 wF_X12_372 ly_57 (le45 rfl) rfl rfl (dat D_X12_count 45 rfl) rfl ?_
    refine AW.if_eqH (t := 157) (n := 153) h (dat D_X12_count 46 rfl) rfl rfl (fun h => ?_) (fun h => ?_)
    · refine AW.iconst (n := 158) (dat D_X12_count 49 rfl) rfl ?_
      cases h
      exact AW.iret rfl rfl rfl (dat D_X12_count 50 rfl)
    · refine AW.iconst (n := 154) (dat D_X12_count 47 rfl) rfl ?_
      refine AW.goto (t := 158) (dat D_X12_count 48 rfl) rfl ?_
      cases h
      exact AW.iret rfl rfl rfl (dat D_X12_count 50 rfl)
  have h := ite_f h q15
  by_cases q27 : w32 a0 = 9
  · have h := ite_t h q27
    refine AW.tIn (dat D_X12_count 4 rfl) q27 (by decide) (by decide) (t := 159) rfl rfl ?_
    refine AW.iconst (n := 160) (dat D_X12_count 51 rfl) rfl ?_
    refine AW.istore_n (n := 161) (ls' := [some (vR 57), some (vI a0), some (vI 0), none]) (dat D_X12_count 52 rfl) rfl (le45 rfl) (le45 rfl) rfl rfl ?_
    refine AW.iconst (n := 162) (dat D_X12_count 53 rfl) rfl ?_
    refine AW.istore_n (n := 163) (ls' := [some (vR 57), some (vI a0), some (vI 0), some (vI 0)]) (dat D_X12_count 54 rfl) rfl (le45 rfl) (le45 rfl) rfl rfl ?_
    obtain ⟨b18, hi18, hq18⟩ := ob_some h
    obtain ⟨e19, e18⟩ : ∃ z, z = b18 := ⟨_, rfl⟩
    subst e18
    have hR18 : AW Γ mX12_count 2 (0, r) (85, τ) 0 0 196 [none, none, some (vI e19), none] [] (85, σ1) := by
      have h : X12_count_e163 n σ1 e19 = some _ := hq18
      unfold X12_count_e163 at h
      refine AW.iload_n (n := 197) (dat D_X12_count 74 rfl) rfl rfl ?_
      cases h
      exact AW.iret rfl rfl rfl (dat D_X12_count 75 rfl)
    refine AW.to (ls'' := [some (vR 57), none, some (vI 0), some (vI 0)]) ?_ (lle_s rfl (lle_n (lle_s rfl (lle_s rfl (lle_z)))))
    refine aw_iter (fun s : Int × Int => AW Γ mX12_count 2 (0, r) (85, τ) 0 0 163 [some (vR 57), none, some (vI (s.1)), some (vI (s.2))] [] (85, σ1)) (fun s y h hk18 hb18 => ?_) _ _ hi18
    obtain ⟨z16, z17⟩ := s
    show AW Γ mX12_count 2 (0, r) (85, τ) 0 0 163 [some (vR 57), none, some (vI z16), some (vI z17)] [] (85, σ1)
    have h : X12_count_l163 n σ1 z16 z17 = some y := h
    unfold X12_count_l163 at h
    refine AW.iload_n (n := 164) (dat D_X12_count 55 rfl) rfl rfl ?_
    refine AW.aload_n (n := 165) (dat D_X12_count 56 rfl) rfl rfl ?_
    obtain ⟨v21, hc20, h⟩ := ob_some h
    refine AW.cV (n := 168) (as := []) (st := [vI z17]) (st' := [vI v21, vI z17]) (uc' := 0) (us' := 0) (A_X12_surfers hΓ hc20) cf_X12_surfers ly_57 (le45 rfl) vc_12 (le45 rfl) wM_X12_378 (le45 rfl) (le45 rfl) (dat D_X12_count 57 rfl) rfl rfl (le45 rfl) (le45 rfl) rfl (fun _ => ?_) nlt0
    refine AW.icmp_geH (t := 196) (n := 171) h (dat D_X12_count 58 rfl) rfl rfl rfl rfl (fun h => ?_) (fun h => ?_)
    · cases h
      have hb := hb18 _ rfl
      cases hb
      exact AW.to hR18 (lle_n (lle_n (lle_s rfl (lle_n (lle_z)))))
    · refine AW.iload_n (n := 172) (dat D_X12_count 59 rfl) rfl rfl ?_
      refine AW.aload_n (n := 173) (dat D_X12_count 60 rfl) rfl rfl ?_
      refine AW.getR (n := 176) (t := 78) fX12_48 wF_X12_86 ly_57 (le45 rfl) rfl (dat D_X12_count 61 rfl) rfl ?_
      refine AW.iload_n (n := 177) (dat D_X12_count 62 rfl) rfl rfl ?_
      refine AW.zaldH h (n := 178) rfl ly_78 (le45 rfl) (dat D_X12_count 63 rfl) rfl (fun j22 h => ?_)
      obtain ⟨s24, h, hq24⟩ := ob_some h
      obtain ⟨y23, e24⟩ : ∃ z, z = s24 := ⟨_, rfl⟩
      subst e24
      have hJ24 : AW Γ mX12_count 2 (0, r) (85, τ) 0 0 188 [some (vR 57), none, none, some (vI z17)] [vI y23, vI z16] (85, σ1) := by
        have h : X12_count_j188 n z16 z17 y23 = some _ := hq24
        unfold X12_count_j188 at h
        refine AW.ior (n := 189) (dat D_X12_count 70 rfl) rfl ?_
        refine AW.ltI h (fun x25 h => ?_)
        refine AW.istore_n (n := 190) (ls' := [some (vR 57), none, some (vI x25), some (vI z17)]) (dat D_X12_count 71 rfl) rfl (le45 rfl) (le45 rfl) rfl rfl ?_
        refine AW.iincH h (n := 193) (dat D_X12_count 72 rfl) rfl rfl (le45 rfl) rfl (fun x26 h => ?_)
        refine AW.lq (ls' := [some (vR 57), none, some (vI x25), some (vI x26)]) rfl ?_
        refine AW.goto (t := 163) (dat D_X12_count 73 rfl) rfl ?_
        cases h
        exact AW.to (hk18 _ rfl) (lle_s rfl (lle_n (lle_s rfl (lle_s rfl (lle_z)))))
      refine AW.if_eqH (t := 187) (n := 181) h (dat D_X12_count 64 rfl) rfl rfl (fun h => ?_) (fun h => ?_)
      · refine AW.iconst (n := 188) (dat D_X12_count 69 rfl) rfl ?_
        cases h
        exact AW.to hJ24 (lle_s rfl (lle_n (lle_n (lle_s rfl (lle_z)))))
      · refine AW.iconst (n := 182) (dat D_X12_count 65 rfl) rfl ?_
        refine AW.iload_n (n := 183) (dat D_X12_count 66 rfl) rfl rfl ?_
        refine AW.ishl (n := 184) (dat D_X12_count 67 rfl) rfl ?_
        refine AW.goto (t := 188) (dat D_X12_count 68 rfl) rfl ?_
        cases h
        exact AW.to hJ24 (lle_s rfl (lle_n (lle_n (lle_s rfl (lle_z)))))
  have h := ite_f h q27
  by_cases q28 : w32 a0 = 10
  · have h := ite_t h q28
    refine AW.tIn (dat D_X12_count 4 rfl) q28 (by decide) (by decide) (t := 198) rfl rfl ?_
    refine AW.aload_n (n := 199) (dat D_X12_count 76 rfl) rfl rfl ?_
    refine AW.getI (n := 202) fX12_29 wF_X12_357 ly_57 (le45 rfl) rfl rfl (dat D_X12_count 77 rfl) rfl ?_
    cases h
    exact AW.iret rfl rfl rfl (dat D_X12_count 78 rfl)
  have h := ite_f h q28
  by_cases q29 : w32 a0 = 11
  · have h := ite_t h q29
    refine AW.tIn (dat D_X12_count 4 rfl) q29 (by decide) (by decide) (t := 203) rfl rfl ?_
    refine AW.aload_n (n := 204) (dat D_X12_count 79 rfl) rfl rfl ?_
    refine AW.getI (n := 207) fX12_31 wF_X12_360 ly_57 (le45 rfl) rfl rfl (dat D_X12_count 80 rfl) rfl ?_
    cases h
    exact AW.iret rfl rfl rfl (dat D_X12_count 81 rfl)
  have h := ite_f h q29
  by_cases q30 : w32 a0 = 12
  · have h := ite_t h q30
    refine AW.tIn (dat D_X12_count 4 rfl) q30 (by decide) (by decide) (t := 208) rfl rfl ?_
    refine AW.aload_n (n := 209) (dat D_X12_count 82 rfl) rfl rfl ?_
    refine AW.getI (n := 212) fX12_32 wF_X12_363 ly_57 (le45 rfl) rfl rfl (dat D_X12_count 83 rfl) rfl ?_
    cases h
    exact AW.iret rfl rfl rfl (dat D_X12_count 84 rfl)
  have h := ite_f h q30
  by_cases q31 : w32 a0 = 13
  · have h := ite_t h q31
    refine AW.tIn (dat D_X12_count 4 rfl) q31 (by decide) (by decide) (t := 213) rfl rfl ?_
    refine AW.aload_n (n := 214) (dat D_X12_count 85 rfl) rfl rfl ?_
    refine AW.getI (n := 217) fX12_18 wF_X12_39 ly_57 (le45 rfl) rfl rfl (dat D_X12_count 86 rfl) rfl ?_
    cases h
    exact AW.iret rfl rfl rfl (dat D_X12_count 87 rfl)
  have h := ite_f h q31
  by_cases q32 : w32 a0 = 14
  · have h := ite_t h q32
    refine AW.tIn (dat D_X12_count 4 rfl) q32 (by decide) (by decide) (t := 218) rfl rfl ?_
    refine AW.aload_n (n := 219) (dat D_X12_count 88 rfl) rfl rfl ?_
    refine AW.getI (n := 222) fX12_30 wF_X12_349 ly_57 (le45 rfl) rfl rfl (dat D_X12_count 89 rfl) rfl ?_
    cases h
    exact AW.iret rfl rfl rfl (dat D_X12_count 90 rfl)
  have h := ite_f h q32
  refine AW.tOut (dat D_X12_count 4 rfl) (by omega) (t := 223) rfl ?_
  refine AW.iconst (n := 224) (dat D_X12_count 91 rfl) rfl ?_
  cases h
  exact AW.iret rfl rfl rfl (dat D_X12_count 92 rfl)
