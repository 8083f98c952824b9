/-! ===== methods as functions, and their bytecode beside them (printed by wip/whole/gen/emit.py) ===== -/
def L_X12_judge : List (Nat × Instr × Nat) := [(0, .aload_n 0, 1), (1, .iconst 0, 1), (2, .putfield 105, 3), (5, .aload_n 0, 1), (6, .invokevirtual 224, 3), (9, .aload_n 0, 1), (10, .iconst 0, 1), (11, .putfield 292, 3), (14, .aload_n 0, 1), (15, .iconst 0, 1), (16, .putfield 240, 3), (19, .aload_n 0, 1), (20, .iconst 0, 1), (21, .putfield 256, 3), (24, .aload_n 0, 1), (25, .invokevirtual 301, 3), (28, .aload_n 0, 1), (29, .bipush 59, 2), (31, .invokevirtual 138, 3), (34, .ifCond .eq 10, 3), (37, .aload_n 0, 1), (38, .invokevirtual 301, 3), (41, .goto (-13), 3), (44, .aload_n 0, 1), (45, .invokevirtual 127, 3), (48, .aload_n 0, 1), (49, .invokevirtual 130, 3), (52, .ifCond .ne 18, 3), (55, .aload_n 0, 1), (56, .getfield 114, 3), (59, .aload_n 0, 1), (60, .getfield 111, 3), (63, .if_icmp .ge 7, 3), (66, .aload_n 0, 1), (67, .invokevirtual 141, 3), (70, .aload_n 0, 1), (71, .aload_n 0, 1), (72, .getfield 117, 3), (75, .putfield 17, 3), (78, .aload_n 0, 1), (79, .aload_n 0, 1), (80, .invokevirtual 130, 3), (83, .iconst 1, 1), (84, .invokevirtual 230, 3), (87, .ifCond .eq 5, 3), (90, .iconst 0, 1), (91, .ireturn, 1), (92, .iconst 0, 1), (93, .istore_n 1, 1), (94, .iload_n 1, 1), (95, .aload_n 0, 1), (96, .getfield 240, 3), (99, .if_icmp .ge 21, 3), (102, .aload_n 0, 1), (103, .getfield 27, 3), (106, .iload_n 1, 1), (107, .aload_n 0, 1), (108, .getfield 30, 3), (111, .iload_n 1, 1), (112, .iaload, 1), (113, .iastore, 1), (114, .iinc 1 1, 3), (117, .goto (-23), 3), (120, .iconst 0, 1), (121, .istore_n 1, 1), (122, .iload_n 1, 1), (123, .iconst 4, 1), (124, .aload_n 0, 1), (125, .getfield 292, 3), (128, .imul, 1), (129, .if_icmp .ge 21, 3), (132, .aload_n 0, 1), (133, .getfield 33, 3), (136, .iload_n 1, 1), (137, .aload_n 0, 1), (138, .getfield 36, 3), (141, .iload_n 1, 1), (142, .iaload, 1), (143, .iastore, 1), (144, .iinc 1 1, 3), (147, .goto (-25), 3), (150, .aload_n 0, 1), (151, .aload_n 0, 1), (152, .getfield 292, 3), (155, .putfield 39, 3), (158, .aload_n 0, 1), (159, .getfield 39, 3), (162, .ireturn, 1)]
theorem D_X12_judge : dOK cX12_judge L_X12_judge = true := by decide +kernel
theorem cf_X12_judge : CFV mX12_judge 0 := ⟨wI_X12_judge, wS_X12_judge, wN_WaveRightModel, wC_X12_judge, rfl, ⟨by decide +kernel, by decide +kernel, by decide +kernel⟩, le45 rfl⟩
def X12_judge_e122 (n : Nat) (σ31 : SG) : Option (Int × SG) :=
  lt (up σ31 57 18 (σ31 57 19)) fun σ32 =>
  some (((σ32 57 18), σ32))
def X12_judge_l122 (n : Nat) (z28 : Int) (σ29 : SG) : Option ((Int × SG) ⊕ (SG)) :=
  if w32 (4 * (σ29 57 19)) ≤ w32 z28 then
    some (.inr σ29)
  else
    rdA 40 z28 fun j33 =>
    rdA 40 z28 fun j34 => lt (up σ29 64 j34 (σ29 65 j33)) fun σ35 =>
    lt (z28 + 1) fun x36 =>
    some (.inl (x36, σ35))
def X12_judge_e94 (n : Nat) (σ27 : SG) : Option (Int × SG) :=
  ((iter n (fun s : Int × SG => X12_judge_l122 n s.1 s.2) (0, σ27)) : Option (SG)).bind (fun s => X12_judge_e122 n s)
def X12_judge_l94 (n : Nat) (z24 : Int) (σ25 : SG) : Option ((Int × SG) ⊕ (SG)) :=
  if w32 (σ25 57 20) ≤ w32 z24 then
    some (.inr σ25)
  else
    rdA 900 z24 fun j37 =>
    rdA 900 z24 fun j38 => lt (up σ25 62 j38 (σ25 63 j37)) fun σ39 =>
    lt (z24 + 1) fun x40 =>
    some (.inl (x40, σ39))
def X12_judge_j70 (n : Nat) (σ16 : SG) : Option (Int × SG) :=
  lt (up σ16 57 8 (σ16 57 7)) fun σ18 =>
  (X12_hasFailed n σ18).bind fun v20 =>
  bnd2 (X12_throwsIf n v20 1 σ18) fun v22 σ23 =>
  if w32 v22 = 0 then
    ((iter n (fun s : Int × SG => X12_judge_l94 n s.1 s.2) (0, σ23)) : Option (SG)).bind (fun s => X12_judge_e94 n s)
  else
    some ((0, σ23))
def X12_judge_e28 (n : Nat) (σ11 : SG) : Option (Int × SG) :=
  (X12_blanks n σ11).bind fun σ13 =>
  (X12_hasFailed n σ13).bind fun v15 =>
  ((if w32 v15 = 0 then
    if w32 (σ13 57 6) ≤ w32 (σ13 57 4) then
      some (σ13)
    else
      (X12_fails n σ13).bind fun σ42 =>
      some (σ42)
  else
    some (σ13)) : Option (SG)).bind (fun s => X12_judge_j70 n s)
def X12_judge_l28 (n : Nat) (σ9 : SG) : Option ((SG) ⊕ (SG)) :=
  bnd2 (X12_takes n 59 σ9) fun v44 σ45 =>
  if w32 v44 = 0 then
    some (.inr σ45)
  else
    (X12_judgeLine n σ45).bind fun σ47 =>
    some (.inl σ47)
def X12_judge (n : Nat) (σ : SG) : Option (Int × SG) :=
  lt (up σ 57 0 0) fun σ1 =>
  (X12_begins n σ1).bind fun σ3 =>
  lt (up σ3 57 19 0) fun σ4 =>
  lt (up σ4 57 20 0) fun σ5 =>
  lt (up σ5 57 21 0) fun σ6 =>
  (X12_judgeLine n σ6).bind fun σ8 =>
  ((iter n (fun s : SG => X12_judge_l28 n s) σ8) : Option (SG)).bind (fun s => X12_judge_e28 n s)
set_option maxHeartbeats 4000000 in
set_option maxRecDepth 100000 in
theorem A_X12_judge {Γ : GA} (hΓ : (gl Γ).stackTraces = false) {n : Nat} {σ : SG} {r : Int} {τ : SG}  (h : X12_judge n σ = some (r, τ)) : AM Γ mX12_judge 214 0 0 [vR 57] (85, σ) (0, r) (85, τ) := by
  refine AM.of pl_X12 rfl wC_X12_judge (le45 rfl) hΓ ?_
  refine AW.to (ls'' := [some (vR 57), none]) ?_ (lle_s rfl (lle_e (lle_z)))
  unfold X12_judge at h
  refine AW.aload_n (n := 1) (dat D_X12_judge 0 rfl) rfl rfl ?_
  refine AW.iconst (n := 2) (dat D_X12_judge 1 rfl) rfl ?_
  refine AW.putI (n := 5) fX12_0 wF_X12_105 ly_57 (le45 rfl) rfl rfl rfl (dat D_X12_judge 2 rfl) rfl ?_
  refine AW.ltS h (fun σ1 h => ?_)
  refine AW.aload_n (n := 6) (dat D_X12_judge 3 rfl) rfl rfl ?_
  obtain ⟨σ3, hc2, h⟩ := ob_some h
  refine AW.cV (n := 9) (as := []) (st := []) (st' := []) (uc' := 0) (us' := 0) (A_X12_begins hΓ hc2) cf_X12_begins ly_57 (le45 rfl) vc_12 (le45 rfl) wM_X12_224 (le45 rfl) (le45 rfl) (dat D_X12_judge 4 rfl) rfl rfl (le45 rfl) (le45 rfl) rfl (fun _ => ?_) nlt0
  refine AW.aload_n (n := 10) (dat D_X12_judge 5 rfl) rfl rfl ?_
  refine AW.iconst (n := 11) (dat D_X12_judge 6 rfl) rfl ?_
  refine AW.putI (n := 14) fX12_19 wF_X12_292 ly_57 (le45 rfl) rfl rfl rfl (dat D_X12_judge 7 rfl) rfl ?_
  refine AW.ltS h (fun σ4 h => ?_)
  refine AW.aload_n (n := 15) (dat D_X12_judge 8 rfl) rfl rfl ?_
  refine AW.iconst (n := 16) (dat D_X12_judge 9 rfl) rfl ?_
  refine AW.putI (n := 19) fX12_20 wF_X12_240 ly_57 (le45 rfl) rfl rfl rfl (dat D_X12_judge 10 rfl) rfl ?_
  refine AW.ltS h (fun σ5 h => ?_)
  refine AW.aload_n (n := 20) (dat D_X12_judge 11 rfl) rfl rfl ?_
  refine AW.iconst (n := 21) (dat D_X12_judge 12 rfl) rfl ?_
  refine AW.putI (n := 24) fX12_21 wF_X12_256 ly_57 (le45 rfl) rfl rfl rfl (dat D_X12_judge 13 rfl) rfl ?_
  refine AW.ltS h (fun σ6 h => ?_)
  refine AW.aload_n (n := 25) (dat D_X12_judge 14 rfl) rfl rfl ?_
  obtain ⟨σ8, hc7, h⟩ := ob_some h
  refine AW.cV (n := 28) (as := []) (st := []) (st' := []) (uc' := 0) (us' := 0) (A_X12_judgeLine hΓ hc7) cf_X12_judgeLine ly_57 (le45 rfl) vc_12 (le45 rfl) wM_X12_301 (le45 rfl) (le45 rfl) (dat D_X12_judge 15 rfl) rfl rfl (le45 rfl) (le45 rfl) rfl (fun _ => ?_) nlt0
  obtain ⟨b10, hi10, hq10⟩ := ob_some h
  obtain ⟨σ11, e10⟩ : ∃ z, z = b10 := ⟨_, rfl⟩
  subst e10
  have hR10 : AW Γ mX12_judge 214 (0, r) (85, τ) 0 0 44 [some (vR 57), none] [] (85, σ11) := by
    have h : X12_judge_e28 n σ11 = some _ := hq10
    unfold X12_judge_e28 at h
    refine AW.aload_n (n := 45) (dat D_X12_judge 23 rfl) rfl rfl ?_
    obtain ⟨σ13, hc12, h⟩ := ob_some h
    refine AW.cV (n := 48) (as := []) (st := []) (st' := []) (uc' := 0) (us' := 0) (A_X12_blanks hΓ hc12) cf_X12_blanks ly_57 (le45 rfl) vc_12 (le45 rfl) wM_X12_127 (le45 rfl) (le45 rfl) (dat D_X12_judge 24 rfl) rfl rfl (le45 rfl) (le45 rfl) rfl (fun _ => ?_) nlt0
    refine AW.aload_n (n := 49) (dat D_X12_judge 25 rfl) rfl rfl ?_
    obtain ⟨v15, hc14, h⟩ := ob_some h
    refine AW.cV (n := 52) (as := []) (st := []) (st' := [vI v15]) (uc' := 0) (us' := 0) (A_X12_hasFailed hΓ hc14) cf_X12_hasFailed ly_57 (le45 rfl) vc_12 (le45 rfl) wM_X12_130 (le45 rfl) (le45 rfl) (dat D_X12_judge 26 rfl) rfl rfl (le45 rfl) (le45 rfl) rfl (fun _ => ?_) nlt0
    obtain ⟨s17, h, hq17⟩ := ob_some h
    obtain ⟨σ16, e17⟩ : ∃ z, z = s17 := ⟨_, rfl⟩
    subst e17
    have hJ17 : AW Γ mX12_judge 214 (0, r) (85, τ) 0 0 70 [some (vR 57), none] [] (85, σ16) := by
      have h : X12_judge_j70 n σ16 = some _ := hq17
      unfold X12_judge_j70 at h
      refine AW.aload_n (n := 71) (dat D_X12_judge 35 rfl) rfl rfl ?_
      refine AW.aload_n (n := 72) (dat D_X12_judge 36 rfl) rfl rfl ?_
      refine AW.getI (n := 75) fX12_7 wF_X12_117 ly_57 (le45 rfl) rfl rfl (dat D_X12_judge 37 rfl) rfl ?_
      refine AW.putI (n := 78) fX12_8 wF_X12_17 ly_57 (le45 rfl) rfl rfl rfl (dat D_X12_judge 38 rfl) rfl ?_
      refine AW.ltS h (fun σ18 h => ?_)
      refine AW.aload_n (n := 79) (dat D_X12_judge 39 rfl) rfl rfl ?_
      refine AW.aload_n (n := 80) (dat D_X12_judge 40 rfl) rfl rfl ?_
      obtain ⟨v20, hc19, h⟩ := ob_some h
      refine AW.cV (n := 83) (as := []) (st := [vR 57]) (st' := [vI v20, vR 57]) (uc' := 0) (us' := 0) (A_X12_hasFailed hΓ hc19) cf_X12_hasFailed ly_57 (le45 rfl) vc_12 (le45 rfl) wM_X12_130 (le45 rfl) (le45 rfl) (dat D_X12_judge 41 rfl) rfl rfl (le45 rfl) (le45 rfl) rfl (fun _ => ?_) nlt0
      refine AW.iconst (n := 84) (dat D_X12_judge 42 rfl) rfl ?_
      obtain ⟨v22, σ23, hc21, h⟩ := bnd2_some h
      refine AW.cV (n := 87) (as := [vI v20, vI 1]) (st := []) (st' := [vI v22]) (uc' := 0) (us' := 0) (A_X12_throwsIf hΓ hc21) cf_X12_throwsIf ly_57 (le45 rfl) vc_12 (le45 rfl) wM_X12_230 (le45 rfl) (le45 rfl) (dat D_X12_judge 43 rfl) rfl rfl (le45 rfl) (le45 rfl) rfl (fun _ => ?_) nlt0
      refine AW.if_eqH (t := 92) (n := 90) h (dat D_X12_judge 44 rfl) rfl rfl (fun h => ?_) (fun h => ?_)
      · refine AW.iconst (n := 93) (dat D_X12_judge 47 rfl) rfl ?_
        refine AW.istore_n (n := 94) (ls' := [some (vR 57), some (vI 0)]) (dat D_X12_judge 48 rfl) rfl (le45 rfl) (le45 rfl) rfl rfl ?_
        obtain ⟨b26, hi26, hq26⟩ := ob_some h
        obtain ⟨σ27, e26⟩ : ∃ z, z = b26 := ⟨_, rfl⟩
        subst e26
        have hR26 : AW Γ mX12_judge 214 (0, r) (85, τ) 0 0 120 [some (vR 57), none] [] (85, σ27) := by
          have h : X12_judge_e94 n σ27 = some _ := hq26
          unfold X12_judge_e94 at h
          refine AW.iconst (n := 121) (dat D_X12_judge 63 rfl) rfl ?_
          refine AW.istore_n (n := 122) (ls' := [some (vR 57), some (vI 0)]) (dat D_X12_judge 64 rfl) rfl (le45 rfl) (le45 rfl) rfl rfl ?_
          obtain ⟨b30, hi30, hq30⟩ := ob_some h
          obtain ⟨σ31, e30⟩ : ∃ z, z = b30 := ⟨_, rfl⟩
          subst e30
          have hR30 : AW Γ mX12_judge 214 (0, r) (85, τ) 0 0 150 [some (vR 57), none] [] (85, σ31) := by
            have h : X12_judge_e122 n σ31 = some _ := hq30
            unfold X12_judge_e122 at h
            refine AW.aload_n (n := 151) (dat D_X12_judge 81 rfl) rfl rfl ?_
            refine AW.aload_n (n := 152) (dat D_X12_judge 82 rfl) rfl rfl ?_
            refine AW.getI (n := 155) fX12_19 wF_X12_292 ly_57 (le45 rfl) rfl rfl (dat D_X12_judge 83 rfl) rfl ?_
            refine AW.putI (n := 158) fX12_18 wF_X12_39 ly_57 (le45 rfl) rfl rfl rfl (dat D_X12_judge 84 rfl) rfl ?_
            refine AW.ltS h (fun σ32 h => ?_)
            refine AW.aload_n (n := 159) (dat D_X12_judge 85 rfl) rfl rfl ?_
            refine AW.getI (n := 162) fX12_18 wF_X12_39 ly_57 (le45 rfl) rfl rfl (dat D_X12_judge 86 rfl) rfl ?_
            cases h
            exact AW.iret rfl rfl rfl (dat D_X12_judge 87 rfl)
          refine AW.to (ls'' := [some (vR 57), some (vI 0)]) ?_ (lle_s rfl (lle_s rfl (lle_z)))
          refine aw_iter (fun s : Int × SG => AW Γ mX12_judge 214 (0, r) (85, τ) 0 0 122 [some (vR 57), some (vI (s.1))] [] (85, s.2)) (fun s y h hk30 hb30 => ?_) _ _ hi30
          obtain ⟨z28, σ29⟩ := s
          show AW Γ mX12_judge 214 (0, r) (85, τ) 0 0 122 [some (vR 57), some (vI z28)] [] (85, σ29)
          have h : X12_judge_l122 n z28 σ29 = some y := h
          unfold X12_judge_l122 at h
          refine AW.iload_n (n := 123) (dat D_X12_judge 65 rfl) rfl rfl ?_
          refine AW.iconst (n := 124) (dat D_X12_judge 66 rfl) rfl ?_
          refine AW.aload_n (n := 125) (dat D_X12_judge 67 rfl) rfl rfl ?_
          refine AW.getI (n := 128) fX12_19 wF_X12_292 ly_57 (le45 rfl) rfl rfl (dat D_X12_judge 68 rfl) rfl ?_
          refine AW.imul (n := 129) (dat D_X12_judge 69 rfl) rfl ?_
          refine AW.icmp_geH (t := 150) (n := 132) h (dat D_X12_judge 70 rfl) rfl rfl rfl rfl (fun h => ?_) (fun h => ?_)
          · cases h
            have hb := hb30 _ rfl
            cases hb
            exact AW.to hR30 (lle_s rfl (lle_n (lle_z)))
          · refine AW.aload_n (n := 133) (dat D_X12_judge 71 rfl) rfl rfl ?_
            refine AW.getR (n := 136) (t := 64) fX12_16 wF_X12_33 ly_57 (le45 rfl) rfl (dat D_X12_judge 72 rfl) rfl ?_
            refine AW.iload_n (n := 137) (dat D_X12_judge 73 rfl) rfl rfl ?_
            refine AW.aload_n (n := 138) (dat D_X12_judge 74 rfl) rfl rfl ?_
            refine AW.getR (n := 141) (t := 65) fX12_17 wF_X12_36 ly_57 (le45 rfl) rfl (dat D_X12_judge 75 rfl) rfl ?_
            refine AW.iload_n (n := 142) (dat D_X12_judge 76 rfl) rfl rfl ?_
            refine AW.ialdH h (n := 143) rfl ly_65 (le45 rfl) (dat D_X12_judge 77 rfl) rfl (fun j33 h => ?_)
            refine AW.iastH h (n := 144) rfl ly_64 (le45 rfl) (dat D_X12_judge 78 rfl) rfl (fun j34 h => ?_)
            refine AW.ltS h (fun σ35 h => ?_)
            refine AW.iincH h (n := 147) (dat D_X12_judge 79 rfl) rfl rfl (le45 rfl) rfl (fun x36 h => ?_)
            refine AW.lq (ls' := [some (vR 57), some (vI x36)]) rfl ?_
            refine AW.goto (t := 122) (dat D_X12_judge 80 rfl) rfl ?_
            cases h
            exact AW.to (hk30 _ rfl) (lle_s rfl (lle_s rfl (lle_z)))
        refine AW.to (ls'' := [some (vR 57), some (vI 0)]) ?_ (lle_s rfl (lle_s rfl (lle_z)))
        refine aw_iter (fun s : Int × SG => AW Γ mX12_judge 214 (0, r) (85, τ) 0 0 94 [some (vR 57), some (vI (s.1))] [] (85, s.2)) (fun s y h hk26 hb26 => ?_) _ _ hi26
        obtain ⟨z24, σ25⟩ := s
        show AW Γ mX12_judge 214 (0, r) (85, τ) 0 0 94 [some (vR 57), some (vI z24)] [] (85, σ25)
        have h : X12_judge_l94 n z24 σ25 = some y := h
        unfold X12_judge_l94 at h
        refine AW.iload_n (n := 95) (dat D_X12_judge 49 rfl) rfl rfl ?_
        refine AW.aload_n (n := 96) (dat D_X12_judge 50 rfl) rfl rfl ?_
        refine AW.getI (n := 99) fX12_20 wF_X12_240 ly_57 (le45 rfl) rfl rfl (dat D_X12_judge 51 rfl) rfl ?_
        refine AW.icmp_geH (t := 120) (n := 102) h (dat D_X12_judge 52 rfl) rfl rfl rfl rfl (fun h => ?_) (fun h => ?_)
        · cases h
          have hb := hb26 _ rfl
          cases hb
          exact AW.to hR26 (lle_s rfl (lle_n (lle_z)))
        · refine AW.aload_n (n := 103) (dat D_X12_judge 53 rfl) rfl rfl ?_
          refine AW.getR (n := 106) (t := 62) fX12_14 wF_X12_27 ly_57 (le45 rfl) rfl (dat D_X12_judge 54 rfl) rfl ?_
          refine AW.iload_n (n := 107) (dat D_X12_judge 55 rfl) rfl rfl ?_
          refine AW.aload_n (n := 108) (dat D_X12_judge 56 rfl) rfl rfl ?_
          refine AW.getR (n := 111) (t := 63) fX12_15 wF_X12_30 ly_57 (le45 rfl) rfl (dat D_X12_judge 57 rfl) rfl ?_
          refine AW.iload_n (n := 112) (dat D_X12_judge 58 rfl) rfl rfl ?_
          refine AW.ialdH h (n := 113) rfl ly_63 (le45 rfl) (dat D_X12_judge 59 rfl) rfl (fun j37 h => ?_)
          refine AW.iastH h (n := 114) rfl ly_62 (le45 rfl) (dat D_X12_judge 60 rfl) rfl (fun j38 h => ?_)
          refine AW.ltS h (fun σ39 h => ?_)
          refine AW.iincH h (n := 117) (dat D_X12_judge 61 rfl) rfl rfl (le45 rfl) rfl (fun x40 h => ?_)
          refine AW.lq (ls' := [some (vR 57), some (vI x40)]) rfl ?_
          refine AW.goto (t := 94) (dat D_X12_judge 62 rfl) rfl ?_
          cases h
          exact AW.to (hk26 _ rfl) (lle_s rfl (lle_s rfl (lle_z)))
      · refine AW.iconst (n := 91) (dat D_X12_judge 45 rfl) rfl ?_
        cases h
        exact AW.iret rfl rfl rfl (dat D_X12_judge 46 rfl)
    refine AW.if_neH (t := 70) (n := 55) h (dat D_X12_judge 27 rfl) rfl rfl (fun h => ?_) (fun h => ?_)
    · refine AW.aload_n (n := 56) (dat D_X12_judge 28 rfl) rfl rfl ?_
      refine AW.getI (n := 59) fX12_4 wF_X12_114 ly_57 (le45 rfl) rfl rfl (dat D_X12_judge 29 rfl) rfl ?_
      refine AW.aload_n (n := 60) (dat D_X12_judge 30 rfl) rfl rfl ?_
      refine AW.getI (n := 63) fX12_6 wF_X12_111 ly_57 (le45 rfl) rfl rfl (dat D_X12_judge 31 rfl) rfl ?_
      refine AW.icmp_geH (t := 70) (n := 66) h (dat D_X12_judge 32 rfl) rfl rfl rfl rfl (fun h => ?_) (fun h => ?_)
      · cases h
        exact AW.to hJ17 (lle_s rfl (lle_n (lle_z)))
      · refine AW.aload_n (n := 67) (dat D_X12_judge 33 rfl) rfl rfl ?_
        obtain ⟨σ42, hc41, h⟩ := ob_some h
        refine AW.cV (n := 70) (as := []) (st := []) (st' := []) (uc' := 0) (us' := 0) (A_X12_fails hΓ hc41) cf_X12_fails ly_57 (le45 rfl) vc_12 (le45 rfl) wM_X12_141 (le45 rfl) (le45 rfl) (dat D_X12_judge 34 rfl) rfl rfl (le45 rfl) (le45 rfl) rfl (fun _ => ?_) nlt0
        cases h
        exact AW.to hJ17 (lle_s rfl (lle_n (lle_z)))
    · cases h
      exact AW.to hJ17 (lle_s rfl (lle_n (lle_z)))
  refine AW.to (ls'' := [some (vR 57), none]) ?_ (lle_s rfl (lle_n (lle_z)))
  refine aw_iter (fun s : SG => AW Γ mX12_judge 214 (0, r) (85, τ) 0 0 28 [some (vR 57), none] [] (85, s)) (fun s y h hk10 hb10 => ?_) _ _ hi10
  obtain ⟨σ9, e10⟩ : ∃ z, z = s := ⟨_, rfl⟩
  subst e10
  show AW Γ mX12_judge 214 (0, r) (85, τ) 0 0 28 [some (vR 57), none] [] (85, σ9)
  have h : X12_judge_l28 n σ9 = some y := h
  unfold X12_judge_l28 at h
  refine AW.aload_n (n := 29) (dat D_X12_judge 16 rfl) rfl rfl ?_
  refine AW.bipush (n := 31) (dat D_X12_judge 17 rfl) rfl (by decide) ?_
  obtain ⟨v44, σ45, hc43, h⟩ := bnd2_some h
  refine AW.cV (n := 34) (as := [vI 59]) (st := []) (st' := [vI v44]) (uc' := 0) (us' := 0) (A_X12_takes hΓ hc43) cf_X12_takes ly_57 (le45 rfl) vc_12 (le45 rfl) wM_X12_138 (le45 rfl) (le45 rfl) (dat D_X12_judge 18 rfl) rfl rfl (le45 rfl) (le45 rfl) rfl (fun _ => ?_) nlt0
  refine AW.if_eqH (t := 44) (n := 37) h (dat D_X12_judge 19 rfl) rfl rfl (fun h => ?_) (fun h => ?_)
  · cases h
    have hb := hb10 _ rfl
    cases hb
    exact AW.to hR10 (lle_s rfl (lle_n (lle_z)))
  · refine AW.aload_n (n := 38) (dat D_X12_judge 20 rfl) rfl rfl ?_
    obtain ⟨σ47, hc46, h⟩ := ob_some h
    refine AW.cV (n := 41) (as := []) (st := []) (st' := []) (uc' := 0) (us' := 0) (A_X12_judgeLine hΓ hc46) cf_X12_judgeLine ly_57 (le45 rfl) vc_12 (le45 rfl) wM_X12_301 (le45 rfl) (le45 rfl) (dat D_X12_judge 21 rfl) rfl rfl (le45 rfl) (le45 rfl) rfl (fun _ => ?_) nlt0
    refine AW.goto (t := 28) (dat D_X12_judge 22 rfl) rfl ?_
    cases h
    exact AW.to (hk10 _ rfl) (lle_s rfl (lle_n (lle_z)))
def L_X12_checked : List (Nat × Instr × Nat) := [(0, .aload_n 0, 1), (1, .getfield 304, 3), (4, .ifCond .ne 16, 3), (7, .lload_n 1, 1), (8, .lload_n 1, 1), (9, .l2i, 1), (10, .i2l, 1), (11, .lcmp, 1), (12, .ifCond .eq 8, 3), (15, .aload_n 0, 1), (16, .iconst 1, 1), (17, .putfield 304, 3), (20, .aload_n 0, 1), (21, .getfield 304, 3), (24, .ifCond .ne 7, 3), (27, .lload_n 1, 1), (28, .goto 4, 3), (31, .lconst 0, 1), (32, .lreturn, 1)]
theorem D_X12_checked : dOK cX12_checked L_X12_checked = true := by decide +kernel
theorem cf_X12_checked : CFV mX12_checked 1 := ⟨wI_X12_checked, wS_X12_checked, wN_WaveRightModel, wC_X12_checked, rfl, ⟨by decide +kernel, by decide +kernel, by decide +kernel⟩, le45 rfl⟩
def X12_checked_j20 (n : Nat) (a0 : Int) (σ1 : SG) : Option (Int × SG) :=
  if w32 (σ1 57 23) = 0 then
    some ((a0, σ1))
  else
    some ((0, σ1))
def X12_checked (n : Nat) (a0 : Int) (σ : SG) : Option (Int × SG) :=
  ((if w32 (σ 57 23) = 0 then
    if w32 (cmpL a0 (w32 a0)) = 0 then
      some (σ)
    else
      lt (up σ 57 23 1) fun σ3 =>
      some (σ3)
  else
    some (σ)) : Option (SG)).bind (fun s => X12_checked_j20 n a0 s)
set_option maxHeartbeats 4000000 in
set_option maxRecDepth 100000 in
theorem A_X12_checked {Γ : GA} (hΓ : (gl Γ).stackTraces = false) {n : Nat} {a0 : Int} {σ : SG} {r : Int} {τ : SG}  (h : X12_checked n a0 σ = some (r, τ)) : AM Γ mX12_checked 1 0 0 [vR 57, vL a0] (85, σ) (0, r) (85, τ) := by
  refine AM.of pl_X12 rfl wC_X12_checked (le45 rfl) hΓ ?_
  refine AW.to (ls'' := [some (vR 57), some (vL a0), none]) ?_ (lle_s rfl (lle_s rfl (lle_n (lle_z))))
  unfold X12_checked at h
  refine AW.aload_n (n := 1) (dat D_X12_checked 0 rfl) rfl rfl ?_
  refine AW.getI (n := 4) fX12_23 wF_X12_304 ly_57 (le45 rfl) rfl rfl (dat D_X12_checked 1 rfl) rfl ?_
  obtain ⟨s2, h, hq2⟩ := ob_some h
  obtain ⟨σ1, e2⟩ : ∃ z, z = s2 := ⟨_, rfl⟩
  subst e2
  have hJ2 : AW Γ mX12_checked 1 (0, r) (85, τ) 0 0 20 [some (vR 57), some (vL a0), none] [] (85, σ1) := by
    have h : X12_checked_j20 n a0 σ1 = some _ := hq2
    unfold X12_checked_j20 at h
    refine AW.aload_n (n := 21) (dat D_X12_checked 12 rfl) rfl rfl ?_
    refine AW.getI (n := 24) fX12_23 wF_X12_304 ly_57 (le45 rfl) rfl rfl (dat D_X12_checked 13 rfl) rfl ?_
    refine AW.if_neH (t := 31) (n := 27) h (dat D_X12_checked 14 rfl) rfl rfl (fun h => ?_) (fun h => ?_)
    · refine AW.lload_n (n := 28) (dat D_X12_checked 15 rfl) rfl rfl ?_
      refine AW.goto (t := 32) (dat D_X12_checked 16 rfl) rfl ?_
      cases h
      exact AW.lret rfl rfl rfl (dat D_X12_checked 18 rfl)
    · refine AW.lconst (n := 32) (x := 0) (dat D_X12_checked 17 rfl) rfl (by decide) ?_
      cases h
      exact AW.lret rfl rfl rfl (dat D_X12_checked 18 rfl)
  refine AW.if_neH (t := 20) (n := 7) h (dat D_X12_checked 2 rfl) rfl rfl (fun h => ?_) (fun h => ?_)
  · refine AW.lload_n (n := 8) (dat D_X12_checked 3 rfl) rfl rfl ?_
    refine AW.lload_n (n := 9) (dat D_X12_checked 4 rfl) rfl rfl ?_
    refine AW.l2i (n := 10) (dat D_X12_checked 5 rfl) rfl ?_
    refine AW.i2l (n := 11) (dat D_X12_checked 6 rfl) rfl ?_
    refine AW.lcmp (n := 12) (dat D_X12_checked 7 rfl) rfl ?_
    refine AW.if_eqH (t := 20) (n := 15) h (dat D_X12_checked 8 rfl) rfl rfl (fun h => ?_) (fun h => ?_)
    · cases h
      exact AW.to hJ2 (lle_s rfl (lle_s rfl (lle_n (lle_z))))
    · refine AW.aload_n (n := 16) (dat D_X12_checked 9 rfl) rfl rfl ?_
      refine AW.iconst (n := 17) (dat D_X12_checked 10 rfl) rfl ?_
      refine AW.putI (n := 20) fX12_23 wF_X12_304 ly_57 (le45 rfl) rfl rfl rfl (dat D_X12_checked 11 rfl) rfl ?_
      refine AW.ltS h (fun σ3 h => ?_)
      cases h
      exact AW.to hJ2 (lle_s rfl (lle_s rfl (lle_n (lle_z))))
  · cases h
    exact AW.to hJ2 (lle_s rfl (lle_s rfl (lle_n (lle_z))))
def L_X12_joined : List (Nat × Instr × Nat) := [(0, .iload_n 1, 1), (1, .tableswitch 131 20 25 #[39, 48, 57, 66, 105, 118], 39), (40, .aload_n 0, 1), (41, .lload_n 2, 1), (42, .lload 4, 2), (44, .ladd, 1), (45, .invokevirtual 307, 3), (48, .lreturn, 1), (49, .aload_n 0, 1), (50, .lload_n 2, 1), (51, .lload 4, 2), (53, .lsub, 1), (54, .invokevirtual 307, 3), (57, .lreturn, 1), (58, .aload_n 0, 1), (59, .lload_n 2, 1), (60, .lload 4, 2), (62, .lmul, 1), (63, .invokevirtual 307, 3), (66, .lreturn, 1), (67, .lload 4, 2), (69, .lconst 0, 1), (70, .lcmp, 1), (71, .ifCond .ne 15, 3), (74, .aload_n 0, 1), (75, .getfield 304, 3), (78, .ifCond .ne 8, 3), (81, .aload_n 0, 1), (82, .iconst 2, 1), (83, .putfield 304, 3), (86, .aload_n 0, 1), (87, .getfield 304, 3), (90, .ifCond .le 7, 3), (93, .lconst 0, 1), (94, .goto 11, 3), (97, .aload_n 0, 1), (98, .lload_n 2, 1), (99, .lload 4, 2), (101, .ldiv, 1), (102, .invokevirtual 307, 3), (105, .lreturn, 1), (106, .lload_n 2, 1), (107, .lload 4, 2), (109, .lcmp, 1), (110, .ifCond .ge 7, 3), (113, .lconst 1, 1), (114, .goto 4, 3), (117, .lconst 0, 1), (118, .lreturn, 1), (119, .lload_n 2, 1), (120, .lload 4, 2), (122, .lcmp, 1), (123, .ifCond .ne 7, 3), (126, .lconst 1, 1), (127, .goto 4, 3), (130, .lconst 0, 1), (131, .lreturn, 1), (132, .lload_n 2, 1), (133, .lload 4, 2), (135, .lcmp, 1), (136, .ifCond .le 7, 3), (139, .lconst 1, 1), (140, .goto 4, 3), (143, .lconst 0, 1), (144, .lreturn, 1)]
theorem D_X12_joined : dOK cX12_joined L_X12_joined = true := by decide +kernel
theorem cf_X12_joined : CFV mX12_joined 3 := ⟨wI_X12_joined, wS_X12_joined, wN_WaveRightModel, wC_X12_joined, rfl, ⟨by decide +kernel, by decide +kernel, by decide +kernel⟩, le45 rfl⟩
def X12_joined_j86 (n : Nat) (a2 : Int) (a1 : Int) (σ13 : SG) : Option (Int × SG) :=
  if w32 (σ13 57 23) ≤ 0 then
    if w64 a2 = 0 then none else
    bnd2 (X12_checked n (dv64 a1 a2) σ13) fun v17 σ18 =>
    some ((v17, σ18))
  else
    some ((0, σ13))
def X12_joined (n : Nat) (a0 : Int) (a1 : Int) (a2 : Int) (σ : SG) : Option (Int × SG) :=
  if w32 a0 = 20 then
    bnd2 (X12_checked n (a1 + a2) σ) fun v2 σ3 =>
    some ((v2, σ3))
  else if w32 a0 = 21 then
    bnd2 (X12_checked n (a1 - a2) σ) fun v6 σ7 =>
    some ((v6, σ7))
  else if w32 a0 = 22 then
    bnd2 (X12_checked n (a1 * a2) σ) fun v10 σ11 =>
    some ((v10, σ11))
  else if w32 a0 = 23 then
    ((if w32 (cmpL a2 0) = 0 then
      if w32 (σ 57 23) = 0 then
        lt (up σ 57 23 2) fun σ19 =>
        some (σ19)
      else
        some (σ)
    else
      some (σ)) : Option (SG)).bind (fun s => X12_joined_j86 n a2 a1 s)
  else if w32 a0 = 24 then
    if 0 ≤ w32 (cmpL a1 a2) then
      some ((0, σ))
    else
      some ((1, σ))
  else if w32 a0 = 25 then
    if w32 (cmpL a1 a2) = 0 then
      some ((1, σ))
    else
      some ((0, σ))
  else 
    if w32 (cmpL a1 a2) ≤ 0 then
      some ((0, σ))
    else
      some ((1, σ))
set_option maxHeartbeats 4000000 in
set_option maxRecDepth 100000 in
theorem A_X12_joined {Γ : GA} (hΓ : (gl Γ).stackTraces = false) {n : Nat} {a0 : Int} {a1 : Int} {a2 : Int} {σ : SG} {r : Int} {τ : SG}  (h : X12_joined n a0 a1 a2 σ = some (r, τ)) : AM Γ mX12_joined 2 0 0 [vR 57, vI a0, vL a1, vL a2] (85, σ) (0, r) (85, τ) := by
  refine AM.of pl_X12 rfl wC_X12_joined (le45 rfl) hΓ ?_
  refine AW.to (ls'' := [some (vR 57), some (vI a0), some (vL a1), none, some (vL a2), none]) ?_ (lle_s rfl (lle_s rfl (lle_s rfl (lle_n (lle_s rfl (lle_n (lle_z)))))))
  unfold X12_joined at h
  refine AW.iload_n (n := 1) (dat D_X12_joined 0 rfl) rfl rfl ?_
  by_cases q4 : w32 a0 = 20
  · have h := ite_t h q4
    refine AW.tIn (dat D_X12_joined 1 rfl) q4 (by decide) (by decide) (t := 40) rfl rfl ?_
    refine AW.aload_n (n := 41) (dat D_X12_joined 2 rfl) rfl rfl ?_
    refine AW.lload_n (n := 42) (dat D_X12_joined 3 rfl) rfl rfl ?_
    refine AW.lload (n := 44) (dat D_X12_joined 4 rfl) rfl rfl ?_
    refine AW.ladd (n := 45) (dat D_X12_joined 5 rfl) rfl ?_
    obtain ⟨v2, σ3, hc1, h⟩ := bnd2_some h
    refine AW.cV (n := 48) (as := [vL (a1 + a2)]) (st := []) (st' := [vL v2]) (uc' := 0) (us' := 0) (A_X12_checked hΓ hc1) cf_X12_checked ly_57 (le45 rfl) vc_12 (le45 rfl) wM_X12_307 (le45 rfl) (le45 rfl) (dat D_X12_joined 6 rfl) rfl rfl (le45 rfl) (le45 rfl) rfl (fun _ => ?_) nlt0
    cases h
    exact AW.lret rfl rfl rfl (dat D_X12_joined 7 rfl)
  have h := ite_f h q4
  by_cases q8 : w32 a0 = 21
  · have h := ite_t h q8
    refine AW.tIn (dat D_X12_joined 1 rfl) q8 (by decide) (by decide) (t := 49) rfl rfl ?_
    refine AW.aload_n (n := 50) (dat D_X12_joined 8 rfl) rfl rfl ?_
    refine AW.lload_n (n := 51) (dat D_X12_joined 9 rfl) rfl rfl ?_
    refine AW.lload (n := 53) (dat D_X12_joined 10 rfl) rfl rfl ?_
    refine AW.lsub (n := 54) (dat D_X12_joined 11 rfl) rfl ?_
    obtain ⟨v6, σ7, hc5, h⟩ := bnd2_some h
    refine AW.cV (n := 57) (as := [vL (a1 - a2)]) (st := []) (st' := [vL v6]) (uc' := 0) (us' := 0) (A_X12_checked hΓ hc5) cf_X12_checked ly_57 (le45 rfl) vc_12 (le45 rfl) wM_X12_307 (le45 rfl) (le45 rfl) (dat D_X12_joined 12 rfl) rfl rfl (le45 rfl) (le45 rfl) rfl (fun _ => ?_) nlt0
    cases h
    exact AW.lret rfl rfl rfl (dat D_X12_joined 13 rfl)
  have h := ite_f h q8
  by_cases q12 : w32 a0 = 22
  · have h := ite_t h q12
    refine AW.tIn (dat D_X12_joined 1 rfl) q12 (by decide) (by decide) (t := 58) rfl rfl ?_
    refine AW.aload_n (n := 59) (dat D_X12_joined 14 rfl) rfl rfl ?_
    refine AW.lload_n (n := 60) (dat D_X12_joined 15 rfl) rfl rfl ?_
    refine AW.lload (n := 62) (dat D_X12_joined 16 rfl) rfl rfl ?_
    refine AW.lmul (n := 63) (dat D_X12_joined 17 rfl) rfl ?_
    obtain ⟨v10, σ11, hc9, h⟩ := bnd2_some h
    refine AW.cV (n := 66) (as := [vL (a1 * a2)]) (st := []) (st' := [vL v10]) (uc' := 0) (us' := 0) (A_X12_checked hΓ hc9) cf_X12_checked ly_57 (le45 rfl) vc_12 (le45 rfl) wM_X12_307 (le45 rfl) (le45 rfl) (dat D_X12_joined 18 rfl) rfl rfl (le45 rfl) (le45 rfl) rfl (fun _ => ?_) nlt0
    cases h
    exact AW.lret rfl rfl rfl (dat D_X12_joined 19 rfl)
  have h := ite_f h q12
  by_cases q20 : w32 a0 = 23
  · have h := ite_t h q20
    refine AW.tIn (dat D_X12_joined 1 rfl) q20 (by decide) (by decide) (t := 67) rfl rfl ?_
    refine AW.lload (n := 69) (dat D_X12_joined 20 rfl) rfl rfl ?_
    refine AW.lconst (n := 70) (x := 0) (dat D_X12_joined 21 rfl) rfl (by decide) ?_
    refine AW.lcmp (n := 71) (dat D_X12_joined 22 rfl) rfl ?_
    obtain ⟨s14, h, hq14⟩ := ob_some h
    obtain ⟨σ13, e14⟩ : ∃ z, z = s14 := ⟨_, rfl⟩
    subst e14
    have hJ14 : AW Γ mX12_joined 2 (0, r) (85, τ) 0 0 86 [some (vR 57), none, some (vL a1), none, some (vL a2), none] [] (85, σ13) := by
      have h : X12_joined_j86 n a2 a1 σ13 = some _ := hq14
      unfold X12_joined_j86 at h
      refine AW.aload_n (n := 87) (dat D_X12_joined 30 rfl) rfl rfl ?_
      refine AW.getI (n := 90) fX12_23 wF_X12_304 ly_57 (le45 rfl) rfl rfl (dat D_X12_joined 31 rfl) rfl ?_
      refine AW.if_leH (t := 97) (n := 93) h (dat D_X12_joined 32 rfl) rfl rfl (fun h => ?_) (fun h => ?_)
      · refine AW.aload_n (n := 98) (dat D_X12_joined 35 rfl) rfl rfl ?_
        refine AW.lload_n (n := 99) (dat D_X12_joined 36 rfl) rfl rfl ?_
        refine AW.lload (n := 101) (dat D_X12_joined 37 rfl) rfl rfl ?_
        obtain ⟨q15, h⟩ := ite_n h
        refine AW.ldiv (n := 102) (dat D_X12_joined 38 rfl) rfl q15 ?_
        obtain ⟨v17, σ18, hc16, h⟩ := bnd2_some h
        refine AW.cV (n := 105) (as := [vL (dv64 a1 a2)]) (st := []) (st' := [vL v17]) (uc' := 0) (us' := 0) (A_X12_checked hΓ hc16) cf_X12_checked ly_57 (le45 rfl) vc_12 (le45 rfl) wM_X12_307 (le45 rfl) (le45 rfl) (dat D_X12_joined 39 rfl) rfl rfl (le45 rfl) (le45 rfl) rfl (fun _ => ?_) nlt0
        cases h
        exact AW.lret rfl rfl rfl (dat D_X12_joined 40 rfl)
      · refine AW.lconst (n := 94) (x := 0) (dat D_X12_joined 33 rfl) rfl (by decide) ?_
        refine AW.goto (t := 105) (dat D_X12_joined 34 rfl) rfl ?_
        cases h
        exact AW.lret rfl rfl rfl (dat D_X12_joined 40 rfl)
    refine AW.if_neH (t := 86) (n := 74) h (dat D_X12_joined 23 rfl) rfl rfl (fun h => ?_) (fun h => ?_)
    · refine AW.aload_n (n := 75) (dat D_X12_joined 24 rfl) rfl rfl ?_
      refine AW.getI (n := 78) fX12_23 wF_X12_304 ly_57 (le45 rfl) rfl rfl (dat D_X12_joined 25 rfl) rfl ?_
      refine AW.if_neH (t := 86) (n := 81) h (dat D_X12_joined 26 rfl) rfl rfl (fun h => ?_) (fun h => ?_)
      · refine AW.aload_n (n := 82) (dat D_X12_joined 27 rfl) rfl rfl ?_
        refine AW.iconst (n := 83) (dat D_X12_joined 28 rfl) rfl ?_
        refine AW.putI (n := 86) fX12_23 wF_X12_304 ly_57 (le45 rfl) rfl rfl rfl (dat D_X12_joined 29 rfl) rfl ?_
        refine AW.ltS h (fun σ19 h => ?_)
        cases h
        exact AW.to hJ14 (lle_s rfl (lle_n (lle_s rfl (lle_n (lle_s rfl (lle_n (lle_z)))))))
      · cases h
        exact AW.to hJ14 (lle_s rfl (lle_n (lle_s rfl (lle_n (lle_s rfl (lle_n (lle_z)))))))
    · cases h
      exact AW.to hJ14 (lle_s rfl (lle_n (lle_s rfl (lle_n (lle_s rfl (lle_n (lle_z)))))))
  have h := ite_f h q20
  by_cases q21 : w32 a0 = 24
  · have h := ite_t h q21
    refine AW.tIn (dat D_X12_joined 1 rfl) q21 (by decide) (by decide) (t := 106) rfl rfl ?_
    refine AW.lload_n (n := 107) (dat D_X12_joined 41 rfl) rfl rfl ?_
    refine AW.lload (n := 109) (dat D_X12_joined 42 rfl) rfl rfl ?_
    refine AW.lcmp (n := 110) (dat D_X12_joined 43 rfl) rfl ?_
    refine AW.if_geH (t := 117) (n := 113) h (dat D_X12_joined 44 rfl) rfl rfl (fun h => ?_) (fun h => ?_)
    · refine AW.lconst (n := 118) (x := 0) (dat D_X12_joined 47 rfl) rfl (by decide) ?_
      cases h
      exact AW.lret rfl rfl rfl (dat D_X12_joined 48 rfl)
    · refine AW.lconst (n := 114) (x := 1) (dat D_X12_joined 45 rfl) rfl (by decide) ?_
      refine AW.goto (t := 118) (dat D_X12_joined 46 rfl) rfl ?_
      cases h
      exact AW.lret rfl rfl rfl (dat D_X12_joined 48 rfl)
  have h := ite_f h q21
  by_cases q22 : w32 a0 = 25
  · have h := ite_t h q22
    refine AW.tIn (dat D_X12_joined 1 rfl) q22 (by decide) (by decide) (t := 119) rfl rfl ?_
    refine AW.lload_n (n := 120) (dat D_X12_joined 49 rfl) rfl rfl ?_
    refine AW.lload (n := 122) (dat D_X12_joined 50 rfl) rfl rfl ?_
    refine AW.lcmp (n := 123) (dat D_X12_joined 51 rfl) rfl ?_
    refine AW.if_neH (t := 130) (n := 126) h (dat D_X12_joined 52 rfl) rfl rfl (fun h => ?_) (fun h => ?_)
    · refine AW.lconst (n := 127) (x := 1) (dat D_X12_joined 53 rfl) rfl (by decide) ?_
      refine AW.goto (t := 131) (dat D_X12_joined 54 rfl) rfl ?_
      cases h
      exact AW.lret rfl rfl rfl (dat D_X12_joined 56 rfl)
    · refine AW.lconst (n := 131) (x := 0) (dat D_X12_joined 55 rfl) rfl (by decide) ?_
      cases h
      exact AW.lret rfl rfl rfl (dat D_X12_joined 56 rfl)
  have h := ite_f h q22
  refine AW.tOut (dat D_X12_joined 1 rfl) (by omega) (t := 132) rfl ?_
  refine AW.lload_n (n := 133) (dat D_X12_joined 57 rfl) rfl rfl ?_
  refine AW.lload (n := 135) (dat D_X12_joined 58 rfl) rfl rfl ?_
  refine AW.lcmp (n := 136) (dat D_X12_joined 59 rfl) rfl ?_
  refine AW.if_leH (t := 143) (n := 139) h (dat D_X12_joined 60 rfl) rfl rfl (fun h => ?_) (fun h => ?_)
  · refine AW.lconst (n := 144) (x := 0) (dat D_X12_joined 63 rfl) rfl (by decide) ?_
    cases h
    exact AW.lret rfl rfl rfl (dat D_X12_joined 64 rfl)
  · refine AW.lconst (n := 140) (x := 1) (dat D_X12_joined 61 rfl) rfl (by decide) ?_
    refine AW.goto (t := 144) (dat D_X12_joined 62 rfl) rfl ?_
    cases h
    exact AW.lret rfl rfl rfl (dat D_X12_joined 64 rfl)
def L_X12_worked : List (Nat × Instr × Nat) := [(0, .iconst 0, 1), (1, .istore_n 3, 1), (2, .iload_n 1, 1), (3, .istore 4, 2), (5, .iload 4, 2), (7, .iload_n 2, 1), (8, .if_icmp .ge 223, 3), (11, .aload_n 0, 1), (12, .getfield 304, 3), (15, .ifCond .ne 216, 3), (18, .aload_n 0, 1), (19, .getfield 27, 3), (22, .iload 4, 2), (24, .iaload, 1), (25, .istore 5, 2), (27, .iinc 4 1, 3), (30, .iload 5, 2), (32, .sipush 1000, 3), (35, .if_icmp .ge 10, 3), (38, .iload 5, 2), (40, .bipush 20, 2), (42, .if_icmp .ge 41, 3), (45, .aload_n 0, 1), (46, .getfield 45, 3), (49, .iload_n 3, 1), (50, .iload 5, 2), (52, .sipush 1000, 3), (55, .if_icmp .lt 13, 3), (58, .iload 5, 2), (60, .sipush 1000, 3), (63, .isub, 1), (64, .i2l, 1), (65, .goto 11, 3), (68, .aload_n 0, 1), (69, .getfield 42, 3), (72, .iload 5, 2), (74, .iaload, 1), (75, .i2l, 1), (76, .lastore, 1), (77, .iinc 3 1, 3), (80, .goto 148, 3), (83, .iload 5, 2), (85, .bipush 27, 2), (87, .if_icmp .ne 24, 3), (90, .aload_n 0, 1), (91, .getfield 45, 3), (94, .iload_n 3, 1), (95, .iconst 1, 1), (96, .isub, 1), (97, .lconst 1, 1), (98, .aload_n 0, 1), (99, .getfield 45, 3), (102, .iload_n 3, 1), (103, .iconst 1, 1), (104, .isub, 1), (105, .laload, 1), (106, .lsub, 1), (107, .lastore, 1), (108, .goto 120, 3), (111, .iload 5, 2), (113, .bipush 28, 2), (115, .if_icmp .eq 10, 3), (118, .iload 5, 2), (120, .bipush 29, 2), (122, .if_icmp .ne 75, 3), (125, .aload_n 0, 1), (126, .getfield 45, 3), (129, .iload_n 3, 1), (130, .iconst 1, 1), (131, .isub, 1), (132, .laload, 1), (133, .iload 5, 2), (135, .bipush 28, 2), (137, .if_icmp .ne 7, 3), (140, .lconst 0, 1), (141, .goto 4, 3), (144, .lconst 1, 1), (145, .lcmp, 1), (146, .ifCond .ne 7, 3), (149, .iconst 1, 1), (150, .goto 4, 3), (153, .iconst 0, 1), (154, .istore 6, 2), (156, .aload_n 0, 1), (157, .getfield 27, 3), (160, .iload 4, 2), (162, .iaload, 1), (163, .istore 7, 2), (165, .iload 6, 2), (167, .ifCond .eq 8, 3), (170, .iload 7, 2), (172, .goto 7, 3), (175, .iload 4, 2), (177, .iconst 1, 1), (178, .iadd, 1), (179, .istore 4, 2), (181, .iload_n 3, 1), (182, .iload 6, 2), (184, .ifCond .eq 7, 3), (187, .iconst 0, 1), (188, .goto 4, 3), (191, .iconst 1, 1), (192, .isub, 1), (193, .istore_n 3, 1), (194, .goto 34, 3), (197, .iinc 3 (-1), 3), (200, .aload_n 0, 1), (201, .getfield 45, 3), (204, .iload_n 3, 1), (205, .iconst 1, 1), (206, .isub, 1), (207, .aload_n 0, 1), (208, .iload 5, 2), (210, .aload_n 0, 1), (211, .getfield 45, 3), (214, .iload_n 3, 1), (215, .iconst 1, 1), (216, .isub, 1), (217, .laload, 1), (218, .aload_n 0, 1), (219, .getfield 45, 3), (222, .iload_n 3, 1), (223, .laload, 1), (224, .invokevirtual 311, 3), (227, .lastore, 1), (228, .goto (-223), 3), (231, .aload_n 0, 1), (232, .getfield 304, 3), (235, .ifCond .le 7, 3), (238, .lconst 0, 1), (239, .goto 9, 3), (242, .aload_n 0, 1), (243, .getfield 45, 3), (246, .iconst 0, 1), (247, .laload, 1), (248, .lreturn, 1)]
theorem D_X12_worked : dOK cX12_worked L_X12_worked = true := by decide +kernel
theorem cf_X12_worked : CFV mX12_worked 2 := ⟨wI_X12_worked, wS_X12_worked, wN_WaveRightModel, wC_X12_worked, rfl, ⟨by decide +kernel, by decide +kernel, by decide +kernel⟩, le45 rfl⟩
def X12_worked_e5 (n : Nat) (σ5 : SG) : Option (Int × SG) :=
  if w32 (σ5 57 23) ≤ 0 then
    rdA 400 0 fun j6 =>
    some (((σ5 67 j6), σ5))
  else
    some ((0, σ5))
def X12_worked_j228 (n : Nat) (y10 : Int) (y11 : Int) (σ12 : SG) : Option ((Int × Int × SG) ⊕ (SG)) :=
  some (.inl (y10, y11, σ12))
def X12_worked_j76 (n : Nat) (z1 : Int) (σ3 : SG) (x9 : Int) (y14 : Int) : Option (Int × Int × SG) :=
  rdA 400 z1 fun j16 => lt (up σ3 67 j16 y14) fun σ17 =>
  lt (z1 + 1) fun x18 =>
  some ((x18, x9, σ17))
def X12_worked_j192 (n : Nat) (z1 : Int) (y27 : Int) (σ3 : SG) (y29 : Int) : Option (Int × Int × SG) :=
  lt (z1 - y29) fun x31 =>
  some ((x31, y27, σ3))
def X12_worked_j179 (n : Nat) (y23 : Int) (z1 : Int) (σ3 : SG) (y27 : Int) : Option (Int × Int × SG) :=
  ((if w32 y23 = 0 then
    some (1)
  else
    some (0)) : Option (Int)).bind (fun s => X12_worked_j192 n z1 y27 σ3 s)
def X12_worked_j154 (n : Nat) (x9 : Int) (σ3 : SG) (z1 : Int) (y23 : Int) : Option (Int × Int × SG) :=
  rdA 900 x9 fun j25 =>
  lt (σ3 62 j25) fun x26 =>
  ((if w32 y23 = 0 then
    some ((x9 + 1))
  else
    some (x26)) : Option (Int)).bind (fun s => X12_worked_j179 n y23 z1 σ3 s)
def X12_worked_j145 (n : Nat) (σ3 : SG) (j20 : Nat) (x9 : Int) (z1 : Int) (y21 : Int) : Option (Int × Int × SG) :=
  ((if w32 (cmpL (σ3 67 j20) y21) = 0 then
    some (1)
  else
    some (0)) : Option (Int)).bind (fun s => X12_worked_j154 n x9 σ3 z1 s)
def X12_worked_j192x (n : Nat) (z1 : Int) (y47 : Int) (σ3 : SG) (y49 : Int) : Option (Int × Int × SG) :=
  lt (z1 - y49) fun x51 =>
  some ((x51, y47, σ3))
def X12_worked_j179x (n : Nat) (y43 : Int) (z1 : Int) (σ3 : SG) (y47 : Int) : Option (Int × Int × SG) :=
  ((if w32 y43 = 0 then
    some (1)
  else
    some (0)) : Option (Int)).bind (fun s => X12_worked_j192x n z1 y47 σ3 s)
def X12_worked_j154x (n : Nat) (x9 : Int) (σ3 : SG) (z1 : Int) (y43 : Int) : Option (Int × Int × SG) :=
  rdA 900 x9 fun j45 =>
  lt (σ3 62 j45) fun x46 =>
  ((if w32 y43 = 0 then
    some ((x9 + 1))
  else
    some (x46)) : Option (Int)).bind (fun s => X12_worked_j179x n y43 z1 σ3 s)
def X12_worked_j145x (n : Nat) (σ3 : SG) (j40 : Nat) (x9 : Int) (z1 : Int) (y41 : Int) : Option (Int × Int × SG) :=
  ((if w32 (cmpL (σ3 67 j40) y41) = 0 then
    some (1)
  else
    some (0)) : Option (Int)).bind (fun s => X12_worked_j154x n x9 σ3 z1 s)
def X12_worked_j76x (n : Nat) (z1 : Int) (σ3 : SG) (x9 : Int) (y55 : Int) : Option (Int × Int × SG) :=
  rdA 400 z1 fun j57 => lt (up σ3 67 j57 y55) fun σ58 =>
  lt (z1 + 1) fun x59 =>
  some ((x59, x9, σ58))
def X12_worked_l5 (n : Nat) (a1 : Int) (z1 : Int) (z2 : Int) (σ3 : SG) : Option ((Int × Int × SG) ⊕ (SG)) :=
  if w32 a1 ≤ w32 z2 then
    some (.inr σ3)
  else
    if w32 (σ3 57 23) = 0 then
      rdA 900 z2 fun j7 =>
      lt (σ3 62 j7) fun x8 =>
      lt (z2 + 1) fun x9 =>
      ((if 1000 ≤ w32 x8 then
        ((if w32 x8 < 1000 then
          rdA 8 x8 fun j19 =>
          some ((w32 (σ3 66 j19)))
        else
          some ((w32 (x8 - 1000)))) : Option (Int)).bind (fun s => X12_worked_j76 n z1 σ3 x9 s)
      else
        if 20 ≤ w32 x8 then
          if w32 x8 = 27 then
            rdA 400 (z1 - 1) fun j52 =>
            rdA 400 (z1 - 1) fun j53 => lt (up σ3 67 j53 (1 - (σ3 67 j52))) fun σ54 =>
            some ((z1, x9, σ54))
          else
            if w32 x8 = 28 then
              rdA 400 (z1 - 1) fun j20 =>
              ((if w32 x8 = 28 then
                some (0)
              else
                some (1)) : Option (Int)).bind (fun s => X12_worked_j145 n σ3 j20 x9 z1 s)
            else
              if w32 x8 = 29 then
                rdA 400 (z1 - 1) fun j40 =>
                ((if w32 x8 = 28 then
                  some (0)
                else
                  some (1)) : Option (Int)).bind (fun s => X12_worked_j145x n σ3 j40 x9 z1 s)
              else
                lt (z1 + (-1)) fun x32 =>
                rdA 400 (x32 - 1) fun j33 =>
                rdA 400 x32 fun j34 =>
                bnd2 (X12_joined n x8 (σ3 67 j33) (σ3 67 j34) σ3) fun v36 σ37 =>
                rdA 400 (x32 - 1) fun j38 => lt (up σ37 67 j38 v36) fun σ39 =>
                some ((x32, x9, σ39))
        else
          ((if w32 x8 < 1000 then
            rdA 8 x8 fun j60 =>
            some ((w32 (σ3 66 j60)))
          else
            some ((w32 (x8 - 1000)))) : Option (Int)).bind (fun s => X12_worked_j76x n z1 σ3 x9 s)) : Option (Int × Int × SG)).bind (fun s => X12_worked_j228 n s.1 s.2.1 s.2.2)
    else
      some (.inr σ3)
def X12_worked (n : Nat) (a0 : Int) (a1 : Int) (σ : SG) : Option (Int × SG) :=
  ((iter n (fun s : Int × Int × SG => X12_worked_l5 n a1 s.1 s.2.1 s.2.2) (0, a0, σ)) : Option (SG)).bind (fun s => X12_worked_e5 n s)
set_option maxHeartbeats 4000000 in
set_option maxRecDepth 100000 in
theorem A_X12_worked {Γ : GA} (hΓ : (gl Γ).stackTraces = false) {n : Nat} {a0 : Int} {a1 : Int} {σ : SG} {r : Int} {τ : SG}  (h : X12_worked n a0 a1 σ = some (r, τ)) : AM Γ mX12_worked 3 0 0 [vR 57, vI a0, vI a1] (85, σ) (0, r) (85, τ) := by
  refine AM.of pl_X12 rfl wC_X12_worked (le45 rfl) hΓ ?_
  refine AW.to (ls'' := [some (vR 57), some (vI a0), some (vI a1), none, none, none, none, none]) ?_ (lle_s rfl (lle_s rfl (lle_s rfl (lle_e (lle_e (lle_e (lle_e (lle_e (lle_z)))))))))
  unfold X12_worked at h
  refine AW.iconst (n := 1) (dat D_X12_worked 0 rfl) rfl ?_
  refine AW.istore_n (n := 2) (ls' := [some (vR 57), some (vI a0), some (vI a1), some (vI 0), none, none, none, none]) (dat D_X12_worked 1 rfl) rfl (le45 rfl) (le45 rfl) rfl rfl ?_
  refine AW.iload_n (n := 3) (dat D_X12_worked 2 rfl) rfl rfl ?_
  refine AW.istore (n := 5) (ls' := [some (vR 57), some (vI a0), some (vI a1), some (vI 0), some (vI a0), none, none, none]) (dat D_X12_worked 3 rfl) rfl (le45 rfl) (le45 rfl) rfl rfl ?_
  obtain ⟨b4, hi4, hq4⟩ := ob_some h
  obtain ⟨σ5, e4⟩ : ∃ z, z = b4 := ⟨_, rfl⟩
  subst e4
  have hR4 : AW Γ mX12_worked 3 (0, r) (85, τ) 0 0 231 [some (vR 57), none, none, none, none, none, none, none] [] (85, σ5) := by
    have h : X12_worked_e5 n σ5 = some _ := hq4
    unfold X12_worked_e5 at h
    refine AW.aload_n (n := 232) (dat D_X12_worked 126 rfl) rfl rfl ?_
    refine AW.getI (n := 235) fX12_23 wF_X12_304 ly_57 (le45 rfl) rfl rfl (dat D_X12_worked 127 rfl) rfl ?_
    refine AW.if_leH (t := 242) (n := 238) h (dat D_X12_worked 128 rfl) rfl rfl (fun h => ?_) (fun h => ?_)
    · refine AW.aload_n (n := 243) (dat D_X12_worked 131 rfl) rfl rfl ?_
      refine AW.getR (n := 246) (t := 67) fX12_24 wF_X12_45 ly_57 (le45 rfl) rfl (dat D_X12_worked 132 rfl) rfl ?_
      refine AW.iconst (n := 247) (dat D_X12_worked 133 rfl) rfl ?_
      refine AW.laldH h (n := 248) rfl ly_67 (le45 rfl) (dat D_X12_worked 134 rfl) rfl (fun j6 h => ?_)
      cases h
      exact AW.lret rfl rfl rfl (dat D_X12_worked 135 rfl)
    · refine AW.lconst (n := 239) (x := 0) (dat D_X12_worked 129 rfl) rfl (by decide) ?_
      refine AW.goto (t := 248) (dat D_X12_worked 130 rfl) rfl ?_
      cases h
      exact AW.lret rfl rfl rfl (dat D_X12_worked 135 rfl)
  refine AW.to (ls'' := [some (vR 57), none, some (vI a1), some (vI 0), some (vI a0), none, none, none]) ?_ (lle_s rfl (lle_n (lle_s rfl (lle_s rfl (lle_s rfl (lle_n (lle_n (lle_n (lle_z)))))))))
  refine aw_iter (fun s : Int × Int × SG => AW Γ mX12_worked 3 (0, r) (85, τ) 0 0 5 [some (vR 57), none, some (vI a1), some (vI (s.1)), some (vI (s.2.1)), none, none, none] [] (85, s.2.2)) (fun s y h hk4 hb4 => ?_) _ _ hi4
  obtain ⟨z1, z2, σ3⟩ := s
  show AW Γ mX12_worked 3 (0, r) (85, τ) 0 0 5 [some (vR 57), none, some (vI a1), some (vI z1), some (vI z2), none, none, none] [] (85, σ3)
  have h : X12_worked_l5 n a1 z1 z2 σ3 = some y := h
  unfold X12_worked_l5 at h
  refine AW.iload (n := 7) (dat D_X12_worked 4 rfl) rfl rfl ?_
  refine AW.iload_n (n := 8) (dat D_X12_worked 5 rfl) rfl rfl ?_
  refine AW.icmp_geH (t := 231) (n := 11) h (dat D_X12_worked 6 rfl) rfl rfl rfl rfl (fun h => ?_) (fun h => ?_)
  · cases h
    have hb := hb4 _ rfl
    cases hb
    exact AW.to hR4 (lle_s rfl (lle_n (lle_n (lle_n (lle_n (lle_n (lle_n (lle_n (lle_z)))))))))
  · refine AW.aload_n (n := 12) (dat D_X12_worked 7 rfl) rfl rfl ?_
    refine AW.getI (n := 15) fX12_23 wF_X12_304 ly_57 (le45 rfl) rfl rfl (dat D_X12_worked 8 rfl) rfl ?_
    refine AW.if_neH (t := 231) (n := 18) h (dat D_X12_worked 9 rfl) rfl rfl (fun h => ?_) (fun h => ?_)
    · refine AW.aload_n (n := 19) (dat D_X12_worked 10 rfl) rfl rfl ?_
      refine AW.getR (n := 22) (t := 62) fX12_14 wF_X12_27 ly_57 (le45 rfl) rfl (dat D_X12_worked 11 rfl) rfl ?_
      refine AW.iload (n := 24) (dat D_X12_worked 12 rfl) rfl rfl ?_
      refine AW.ialdH h (n := 25) rfl ly_62 (le45 rfl) (dat D_X12_worked 13 rfl) rfl (fun j7 h => ?_)
      refine AW.ltI h (fun x8 h => ?_)
      refine AW.istore (n := 27) (ls' := [some (vR 57), none, some (vI a1), some (vI z1), some (vI z2), some (vI x8), none, none]) (dat D_X12_worked 14 rfl) rfl (le45 rfl) (le45 rfl) rfl rfl ?_
      refine AW.iincH h (n := 30) (dat D_X12_worked 15 rfl) rfl rfl (le45 rfl) rfl (fun x9 h => ?_)
      refine AW.lq (ls' := [some (vR 57), none, some (vI a1), some (vI z1), some (vI x9), some (vI x8), none, none]) rfl ?_
      refine AW.iload (n := 32) (dat D_X12_worked 16 rfl) rfl rfl ?_
      refine AW.sipush (n := 35) (dat D_X12_worked 17 rfl) rfl (by decide) ?_
      obtain ⟨s13, h, hq13⟩ := ob_some h
      obtain ⟨y10, y11, σ12⟩ := s13
      have hJ13 : AW Γ mX12_worked 3 (0, r) (85, τ) 0 0 228 [some (vR 57), none, some (vI a1), some (vI y10), some (vI y11), none, none, none] [] (85, σ12) := by
        have h : X12_worked_j228 n y10 y11 σ12 = some _ := hq13
        unfold X12_worked_j228 at h
        refine AW.goto (t := 5) (dat D_X12_worked 125 rfl) rfl ?_
        cases h
        exact AW.to (hk4 _ rfl) (lle_s rfl (lle_n (lle_s rfl (lle_s rfl (lle_s rfl (lle_n (lle_n (lle_n (lle_z)))))))))
      refine AW.icmp_geH (t := 45) (n := 38) h (dat D_X12_worked 18 rfl) rfl rfl rfl (by decide) (fun h => ?_) (fun h => ?_)
      · refine AW.aload_n (n := 46) (dat D_X12_worked 22 rfl) rfl rfl ?_
        refine AW.getR (n := 49) (t := 67) fX12_24 wF_X12_45 ly_57 (le45 rfl) rfl (dat D_X12_worked 23 rfl) rfl ?_
        refine AW.iload_n (n := 50) (dat D_X12_worked 24 rfl) rfl rfl ?_
        refine AW.iload (n := 52) (dat D_X12_worked 25 rfl) rfl rfl ?_
        refine AW.sipush (n := 55) (dat D_X12_worked 26 rfl) rfl (by decide) ?_
        obtain ⟨s15, h, hq15⟩ := ob_some h
        obtain ⟨y14, e15⟩ : ∃ z, z = s15 := ⟨_, rfl⟩
        subst e15
        have hJ15 : AW Γ mX12_worked 3 (0, r) (85, τ) 0 0 76 [some (vR 57), none, some (vI a1), some (vI z1), some (vI x9), none, none, none] [vL y14, vI z1, vR 67] (85, σ3) := by
          have h : X12_worked_j76 n z1 σ3 x9 y14 = some _ := hq15
          unfold X12_worked_j76 at h
          refine AW.lastH h (n := 77) rfl ly_67 (le45 rfl) (dat D_X12_worked 38 rfl) rfl (fun j16 h => ?_)
          refine AW.ltS h (fun σ17 h => ?_)
          refine AW.iincH h (n := 80) (dat D_X12_worked 39 rfl) rfl rfl (le45 rfl) rfl (fun x18 h => ?_)
          refine AW.lq (ls' := [some (vR 57), none, some (vI a1), some (vI x18), some (vI x9), none, none, none]) rfl ?_
          refine AW.goto (t := 228) (dat D_X12_worked 40 rfl) rfl ?_
          cases h
          exact AW.to hJ13 (lle_s rfl (lle_n (lle_s rfl (lle_s rfl (lle_s rfl (lle_n (lle_n (lle_n (lle_z)))))))))
        refine AW.icmp_ltH (t := 68) (n := 58) h (dat D_X12_worked 27 rfl) rfl rfl rfl (by decide) (fun h => ?_) (fun h => ?_)
        · refine AW.aload_n (n := 69) (dat D_X12_worked 33 rfl) rfl rfl ?_
          refine AW.getR (n := 72) (t := 66) fX12_22 wF_X12_42 ly_57 (le45 rfl) rfl (dat D_X12_worked 34 rfl) rfl ?_
          refine AW.iload (n := 74) (dat D_X12_worked 35 rfl) rfl rfl ?_
          refine AW.ialdH h (n := 75) rfl ly_66 (le45 rfl) (dat D_X12_worked 36 rfl) rfl (fun j19 h => ?_)
          refine AW.i2l (n := 76) (dat D_X12_worked 37 rfl) rfl ?_
          cases h
          exact AW.to hJ15 (lle_s rfl (lle_n (lle_s rfl (lle_s rfl (lle_s rfl (lle_n (lle_n (lle_n (lle_z)))))))))
        · refine AW.iload (n := 60) (dat D_X12_worked 28 rfl) rfl rfl ?_
          refine AW.sipush (n := 63) (dat D_X12_worked 29 rfl) rfl (by decide) ?_
          refine AW.isub (n := 64) (dat D_X12_worked 30 rfl) rfl ?_
          refine AW.i2l (n := 65) (dat D_X12_worked 31 rfl) rfl ?_
          refine AW.goto (t := 76) (dat D_X12_worked 32 rfl) rfl ?_
          cases h
          exact AW.to hJ15 (lle_s rfl (lle_n (lle_s rfl (lle_s rfl (lle_s rfl (lle_n (lle_n (lle_n (lle_z)))))))))
      · refine AW.iload (n := 40) (dat D_X12_worked 19 rfl) rfl rfl ?_
        refine AW.bipush (n := 42) (dat D_X12_worked 20 rfl) rfl (by decide) ?_
        refine AW.icmp_geH (t := 83) (n := 45) h (dat D_X12_worked 21 rfl) rfl rfl rfl (by decide) (fun h => ?_) (fun h => ?_)
        · refine AW.iload (n := 85) (dat D_X12_worked 41 rfl) rfl rfl ?_
          refine AW.bipush (n := 87) (dat D_X12_worked 42 rfl) rfl (by decide) ?_
          refine AW.icmp_neH (t := 111) (n := 90) h (dat D_X12_worked 43 rfl) rfl rfl rfl (by decide) (fun h => ?_) (fun h => ?_)
          · refine AW.aload_n (n := 91) (dat D_X12_worked 44 rfl) rfl rfl ?_
            refine AW.getR (n := 94) (t := 67) fX12_24 wF_X12_45 ly_57 (le45 rfl) rfl (dat D_X12_worked 45 rfl) rfl ?_
            refine AW.iload_n (n := 95) (dat D_X12_worked 46 rfl) rfl rfl ?_
            refine AW.iconst (n := 96) (dat D_X12_worked 47 rfl) rfl ?_
            refine AW.isub (n := 97) (dat D_X12_worked 48 rfl) rfl ?_
            refine AW.lconst (n := 98) (x := 1) (dat D_X12_worked 49 rfl) rfl (by decide) ?_
            refine AW.aload_n (n := 99) (dat D_X12_worked 50 rfl) rfl rfl ?_
            refine AW.getR (n := 102) (t := 67) fX12_24 wF_X12_45 ly_57 (le45 rfl) rfl (dat D_X12_worked 51 rfl) rfl ?_
            refine AW.iload_n (n := 103) (dat D_X12_worked 52 rfl) rfl rfl ?_
            refine AW.iconst (n := 104) (dat D_X12_worked 53 rfl) rfl ?_
            refine AW.isub (n := 105) (dat D_X12_worked 54 rfl) rfl ?_
            refine AW.laldH h (n := 106) rfl ly_67 (le45 rfl) (dat D_X12_worked 55 rfl) rfl (fun j52 h => ?_)
            refine AW.lsub (n := 107) (dat D_X12_worked 56 rfl) rfl ?_
            refine AW.lastH h (n := 108) rfl ly_67 (le45 rfl) (dat D_X12_worked 57 rfl) rfl (fun j53 h => ?_)
            refine AW.ltS h (fun σ54 h => ?_)
            refine AW.goto (t := 228) (dat D_X12_worked 58 rfl) rfl ?_
            cases h
            exact AW.to hJ13 (lle_s rfl (lle_n (lle_s rfl (lle_s rfl (lle_s rfl (lle_n (lle_n (lle_n (lle_z)))))))))
          · refine AW.iload (n := 113) (dat D_X12_worked 59 rfl) rfl rfl ?_
            refine AW.bipush (n := 115) (dat D_X12_worked 60 rfl) rfl (by decide) ?_
            refine AW.icmp_eqH (t := 125) (n := 118) h (dat D_X12_worked 61 rfl) rfl rfl rfl (by decide) (fun h => ?_) (fun h => ?_)
            · refine AW.aload_n (n := 126) (dat D_X12_worked 65 rfl) rfl rfl ?_
              refine AW.getR (n := 129) (t := 67) fX12_24 wF_X12_45 ly_57 (le45 rfl) rfl (dat D_X12_worked 66 rfl) rfl ?_
              refine AW.iload_n (n := 130) (dat D_X12_worked 67 rfl) rfl rfl ?_
              refine AW.iconst (n := 131) (dat D_X12_worked 68 rfl) rfl ?_
              refine AW.isub (n := 132) (dat D_X12_worked 69 rfl) rfl ?_
              refine AW.laldH h (n := 133) rfl ly_67 (le45 rfl) (dat D_X12_worked 70 rfl) rfl (fun j20 h => ?_)
              refine AW.iload (n := 135) (dat D_X12_worked 71 rfl) rfl rfl ?_
              refine AW.bipush (n := 137) (dat D_X12_worked 72 rfl) rfl (by decide) ?_
              obtain ⟨s22, h, hq22⟩ := ob_some h
              obtain ⟨y21, e22⟩ : ∃ z, z = s22 := ⟨_, rfl⟩
              subst e22
              have hJ22 : AW Γ mX12_worked 3 (0, r) (85, τ) 0 0 145 [some (vR 57), none, some (vI a1), some (vI z1), some (vI x9), none, none, none] [vL y21, vL (σ3 67 j20)] (85, σ3) := by
                have h : X12_worked_j145 n σ3 j20 x9 z1 y21 = some _ := hq22
                unfold X12_worked_j145 at h
                refine AW.lcmp (n := 146) (dat D_X12_worked 77 rfl) rfl ?_
                obtain ⟨s24, h, hq24⟩ := ob_some h
                obtain ⟨y23, e24⟩ : ∃ z, z = s24 := ⟨_, rfl⟩
                subst e24
                have hJ24 : AW Γ mX12_worked 3 (0, r) (85, τ) 0 0 154 [some (vR 57), none, some (vI a1), some (vI z1), some (vI x9), none, none, none] [vI y23] (85, σ3) := by
                  have h : X12_worked_j154 n x9 σ3 z1 y23 = some _ := hq24
                  unfold X12_worked_j154 at h
                  refine AW.istore (n := 156) (ls' := [some (vR 57), none, some (vI a1), some (vI z1), some (vI x9), none, some (vI y23), none]) (dat D_X12_worked 82 rfl) rfl (le45 rfl) (le45 rfl) rfl rfl ?_
                  refine AW.aload_n (n := 157) (dat D_X12_worked 83 rfl) rfl rfl ?_
                  refine AW.getR (n := 160) (t := 62) fX12_14 wF_X12_27 ly_57 (le45 rfl) rfl (dat D_X12_worked 84 rfl) rfl ?_
                  refine AW.iload (n := 162) (dat D_X12_worked 85 rfl) rfl rfl ?_
                  refine AW.ialdH h (n := 163) rfl ly_62 (le45 rfl) (dat D_X12_worked 86 rfl) rfl (fun j25 h => ?_)
                  refine AW.ltI h (fun x26 h => ?_)
                  refine AW.istore (n := 165) (ls' := [some (vR 57), none, some (vI a1), some (vI z1), some (vI x9), none, some (vI y23), some (vI x26)]) (dat D_X12_worked 87 rfl) rfl (le45 rfl) (le45 rfl) rfl rfl ?_
                  refine AW.iload (n := 167) (dat D_X12_worked 88 rfl) rfl rfl ?_
                  obtain ⟨s28, h, hq28⟩ := ob_some h
                  obtain ⟨y27, e28⟩ : ∃ z, z = s28 := ⟨_, rfl⟩
                  subst e28
                  have hJ28 : AW Γ mX12_worked 3 (0, r) (85, τ) 0 0 179 [some (vR 57), none, some (vI a1), some (vI z1), none, none, some (vI y23), none] [vI y27] (85, σ3) := by
                    have h : X12_worked_j179 n y23 z1 σ3 y27 = some _ := hq28
                    unfold X12_worked_j179 at h
                    refine AW.istore (n := 181) (ls' := [some (vR 57), none, some (vI a1), some (vI z1), some (vI y27), none, some (vI y23), none]) (dat D_X12_worked 95 rfl) rfl (le45 rfl) (le45 rfl) rfl rfl ?_
                    refine AW.iload_n (n := 182) (dat D_X12_worked 96 rfl) rfl rfl ?_
                    refine AW.iload (n := 184) (dat D_X12_worked 97 rfl) rfl rfl ?_
                    obtain ⟨s30, h, hq30⟩ := ob_some h
                    obtain ⟨y29, e30⟩ : ∃ z, z = s30 := ⟨_, rfl⟩
                    subst e30
                    have hJ30 : AW Γ mX12_worked 3 (0, r) (85, τ) 0 0 192 [some (vR 57), none, some (vI a1), none, some (vI y27), none, none, none] [vI y29, vI z1] (85, σ3) := by
                      have h : X12_worked_j192 n z1 y27 σ3 y29 = some _ := hq30
                      unfold X12_worked_j192 at h
                      refine AW.isub (n := 193) (dat D_X12_worked 102 rfl) rfl ?_
                      refine AW.ltI h (fun x31 h => ?_)
                      refine AW.istore_n (n := 194) (ls' := [some (vR 57), none, some (vI a1), some (vI x31), some (vI y27), none, none, none]) (dat D_X12_worked 103 rfl) rfl (le45 rfl) (le45 rfl) rfl rfl ?_
                      refine AW.goto (t := 228) (dat D_X12_worked 104 rfl) rfl ?_
                      cases h
                      exact AW.to hJ13 (lle_s rfl (lle_n (lle_s rfl (lle_s rfl (lle_s rfl (lle_n (lle_n (lle_n (lle_z)))))))))
                    refine AW.if_eqH (t := 191) (n := 187) h (dat D_X12_worked 98 rfl) rfl rfl (fun h => ?_) (fun h => ?_)
                    · refine AW.iconst (n := 192) (dat D_X12_worked 101 rfl) rfl ?_
                      cases h
                      exact AW.to hJ30 (lle_s rfl (lle_n (lle_s rfl (lle_n (lle_s rfl (lle_n (lle_n (lle_n (lle_z)))))))))
                    · refine AW.iconst (n := 188) (dat D_X12_worked 99 rfl) rfl ?_
                      refine AW.goto (t := 192) (dat D_X12_worked 100 rfl) rfl ?_
                      cases h
                      exact AW.to hJ30 (lle_s rfl (lle_n (lle_s rfl (lle_n (lle_s rfl (lle_n (lle_n (lle_n (lle_z)))))))))
                  refine AW.if_eqH (t := 175) (n := 170) h (dat D_X12_worked 89 rfl) rfl rfl (fun h => ?_) (fun h => ?_)
                  · refine AW.iload (n := 177) (dat D_X12_worked 92 rfl) rfl rfl ?_
                    refine AW.iconst (n := 178) (dat D_X12_worked 93 rfl) rfl ?_
                    refine AW.iadd (n := 179) (dat D_X12_worked 94 rfl) rfl ?_
                    cases h
                    exact AW.to hJ28 (lle_s rfl (lle_n (lle_s rfl (lle_s rfl (lle_n (lle_n (lle_s rfl (lle_n (lle_z)))))))))
                  · refine AW.iload (n := 172) (dat D_X12_worked 90 rfl) rfl rfl ?_
                    refine AW.goto (t := 179) (dat D_X12_worked 91 rfl) rfl ?_
                    cases h
                    exact AW.to hJ28 (lle_s rfl (lle_n (lle_s rfl (lle_s rfl (lle_n (lle_n (lle_s rfl (lle_n (lle_z)))))))))
                refine AW.if_neH (t := 153) (n := 149) h (dat D_X12_worked 78 rfl) rfl rfl (fun h => ?_) (fun h => ?_)
                · refine AW.iconst (n := 150) (dat D_X12_worked 79 rfl) rfl ?_
                  refine AW.goto (t := 154) (dat D_X12_worked 80 rfl) rfl ?_
                  cases h
                  exact AW.to hJ24 (lle_s rfl (lle_n (lle_s rfl (lle_s rfl (lle_s rfl (lle_n (lle_n (lle_n (lle_z)))))))))
                · refine AW.iconst (n := 154) (dat D_X12_worked 81 rfl) rfl ?_
                  cases h
                  exact AW.to hJ24 (lle_s rfl (lle_n (lle_s rfl (lle_s rfl (lle_s rfl (lle_n (lle_n (lle_n (lle_z)))))))))
              refine AW.icmp_neH (t := 144) (n := 140) h (dat D_X12_worked 73 rfl) rfl rfl rfl (by decide) (fun h => ?_) (fun h => ?_)
              · refine AW.lconst (n := 141) (x := 0) (dat D_X12_worked 74 rfl) rfl (by decide) ?_
                refine AW.goto (t := 145) (dat D_X12_worked 75 rfl) rfl ?_
                cases h
                exact AW.to hJ22 (lle_s rfl (lle_n (lle_s rfl (lle_s rfl (lle_s rfl (lle_n (lle_n (lle_n (lle_z)))))))))
              · refine AW.lconst (n := 145) (x := 1) (dat D_X12_worked 76 rfl) rfl (by decide) ?_
                cases h
                exact AW.to hJ22 (lle_s rfl (lle_n (lle_s rfl (lle_s rfl (lle_s rfl (lle_n (lle_n (lle_n (lle_z)))))))))
            · refine AW.iload (n := 120) (dat D_X12_worked 62 rfl) rfl rfl ?_
              refine AW.bipush (n := 122) (dat D_X12_worked 63 rfl) rfl (by decide) ?_
              refine AW.icmp_neH (t := 197) (n := 125) h (dat D_X12_worked 64 rfl) rfl rfl rfl (by decide) (fun h => ?_) (fun h => ?_)
              · refine AW.aload_n (n := 126) (dat D_X12_worked 65 rfl) rfl rfl ?_
                refine AW.getR (n := 129) (t := 67) fX12_24 wF_X12_45 ly_57 (le45 rfl) rfl (dat D_X12_worked 66 rfl) rfl ?_
                refine AW.iload_n (n := 130) (dat D_X12_worked 67 rfl) rfl rfl ?_
                refine AW.iconst (n := 131) (dat D_X12_worked 68 rfl) rfl ?_
                refine AW.isub (n := 132) (dat D_X12_worked 69 rfl) rfl ?_
                refine AW.laldH h (n := 133) rfl ly_67 (le45 rfl) (dat D_X12_worked 70 rfl) rfl (fun j40 h => ?_)
                refine AW.iload (n := 135) (dat D_X12_worked 71 rfl) rfl rfl ?_
                refine AW.bipush (n := 137) (dat D_X12_worked 72 rfl) rfl (by decide) ?_
                obtain ⟨s42, h, hq42⟩ := ob_some h
                obtain ⟨y41, e42⟩ : ∃ z, z = s42 := ⟨_, rfl⟩
                subst e42
                have hJ42 : AW Γ mX12_worked 3 (0, r) (85, τ) 0 0 145 [some (vR 57), none, some (vI a1), some (vI z1), some (vI x9), none, none, none] [vL y41, vL (σ3 67 j40)] (85, σ3) := by
                  have h : X12_worked_j145x n σ3 j40 x9 z1 y41 = some _ := hq42
                  unfold X12_worked_j145x at h
                  refine AW.lcmp (n := 146) (dat D_X12_worked 77 rfl) rfl ?_
                  obtain ⟨s44, h, hq44⟩ := ob_some h
                  obtain ⟨y43, e44⟩ : ∃ z, z = s44 := ⟨_, rfl⟩
                  subst e44
                  have hJ44 : AW Γ mX12_worked 3 (0, r) (85, τ) 0 0 154 [some (vR 57), none, some (vI a1), some (vI z1), some (vI x9), none, none, none] [vI y43] (85, σ3) := by
                    have h : X12_worked_j154x n x9 σ3 z1 y43 = some _ := hq44
                    unfold X12_worked_j154x at h
                    refine AW.istore (n := 156) (ls' := [some (vR 57), none, some (vI a1), some (vI z1), some (vI x9), none, some (vI y43), none]) (dat D_X12_worked 82 rfl) rfl (le45 rfl) (le45 rfl) rfl rfl ?_
                    refine AW.aload_n (n := 157) (dat D_X12_worked 83 rfl) rfl rfl ?_
                    refine AW.getR (n := 160) (t := 62) fX12_14 wF_X12_27 ly_57 (le45 rfl) rfl (dat D_X12_worked 84 rfl) rfl ?_
                    refine AW.iload (n := 162) (dat D_X12_worked 85 rfl) rfl rfl ?_
                    refine AW.ialdH h (n := 163) rfl ly_62 (le45 rfl) (dat D_X12_worked 86 rfl) rfl (fun j45 h => ?_)
                    refine AW.ltI h (fun x46 h => ?_)
                    refine AW.istore (n := 165) (ls' := [some (vR 57), none, some (vI a1), some (vI z1), some (vI x9), none, some (vI y43), some (vI x46)]) (dat D_X12_worked 87 rfl) rfl (le45 rfl) (le45 rfl) rfl rfl ?_
                    refine AW.iload (n := 167) (dat D_X12_worked 88 rfl) rfl rfl ?_
                    obtain ⟨s48, h, hq48⟩ := ob_some h
                    obtain ⟨y47, e48⟩ : ∃ z, z = s48 := ⟨_, rfl⟩
                    subst e48
                    have hJ48 : AW Γ mX12_worked 3 (0, r) (85, τ) 0 0 179 [some (vR 57), none, some (vI a1), some (vI z1), none, none, some (vI y43), none] [vI y47] (85, σ3) := by
                      have h : X12_worked_j179x n y43 z1 σ3 y47 = some _ := hq48
                      unfold X12_worked_j179x at h
                      refine AW.istore (n := 181) (ls' := [some (vR 57), none, some (vI a1), some (vI z1), some (vI y47), none, some (vI y43), none]) (dat D_X12_worked 95 rfl) rfl (le45 rfl) (le45 rfl) rfl rfl ?_
                      refine AW.iload_n (n := 182) (dat D_X12_worked 96 rfl) rfl rfl ?_
                      refine AW.iload (n := 184) (dat D_X12_worked 97 rfl) rfl rfl ?_
                      obtain ⟨s50, h, hq50⟩ := ob_some h
                      obtain ⟨y49, e50⟩ : ∃ z, z = s50 := ⟨_, rfl⟩
                      subst e50
                      have hJ50 : AW Γ mX12_worked 3 (0, r) (85, τ) 0 0 192 [some (vR 57), none, some (vI a1), none, some (vI y47), none, none, none] [vI y49, vI z1] (85, σ3) := by
                        have h : X12_worked_j192x n z1 y47 σ3 y49 = some _ := hq50
                        unfold X12_worked_j192x at h
                        refine AW.isub (n := 193) (dat D_X12_worked 102 rfl) rfl ?_
                        refine AW.ltI h (fun x51 h => ?_)
                        refine AW.istore_n (n := 194) (ls' := [some (vR 57), none, some (vI a1), some (vI x51), some (vI y47), none, none, none]) (dat D_X12_worked 103 rfl) rfl (le45 rfl) (le45 rfl) rfl rfl ?_
                        refine AW.goto (t := 228) (dat D_X12_worked 104 rfl) rfl ?_
                        cases h
                        exact AW.to hJ13 (lle_s rfl (lle_n (lle_s rfl (lle_s rfl (lle_s rfl (lle_n (lle_n (lle_n (lle_z)))))))))
                      refine AW.if_eqH (t := 191) (n := 187) h (dat D_X12_worked 98 rfl) rfl rfl (fun h => ?_) (fun h => ?_)
                      · refine AW.iconst (n := 192) (dat D_X12_worked 101 rfl) rfl ?_
                        cases h
                        exact AW.to hJ50 (lle_s rfl (lle_n (lle_s rfl (lle_n (lle_s rfl (lle_n (lle_n (lle_n (lle_z)))))))))
                      · refine AW.iconst (n := 188) (dat D_X12_worked 99 rfl) rfl ?_
                        refine AW.goto (t := 192) (dat D_X12_worked 100 rfl) rfl ?_
                        cases h
                        exact AW.to hJ50 (lle_s rfl (lle_n (lle_s rfl (lle_n (lle_s rfl (lle_n (lle_n (lle_n (lle_z)))))))))
                    refine AW.if_eqH (t := 175) (n := 170) h (dat D_X12_worked 89 rfl) rfl rfl (fun h => ?_) (fun h => ?_)
                    · refine AW.iload (n := 177) (dat D_X12_worked 92 rfl) rfl rfl ?_
                      refine AW.iconst (n := 178) (dat D_X12_worked 93 rfl) rfl ?_
                      refine AW.iadd (n := 179) (dat D_X12_worked 94 rfl) rfl ?_
                      cases h
                      exact AW.to hJ48 (lle_s rfl (lle_n (lle_s rfl (lle_s rfl (lle_n (lle_n (lle_s rfl (lle_n (lle_z)))))))))
                    · refine AW.iload (n := 172) (dat D_X12_worked 90 rfl) rfl rfl ?_
                      refine AW.goto (t := 179) (dat D_X12_worked 91 rfl) rfl ?_
                      cases h
                      exact AW.to hJ48 (lle_s rfl (lle_n (lle_s rfl (lle_s rfl (lle_n (lle_n (lle_s rfl (lle_n (lle_z)))))))))
                  refine AW.if_neH (t := 153) (n := 149) h (dat D_X12_worked 78 rfl) rfl rfl (fun h => ?_) (fun h => ?_)
                  · refine AW.iconst (n := 150) (dat D_X12_worked 79 rfl) rfl ?_
                    refine AW.goto (t := 154) (dat D_X12_worked 80 rfl) rfl ?_
                    cases h
                    exact AW.to hJ44 (lle_s rfl (lle_n (lle_s rfl (lle_s rfl (lle_s rfl (lle_n (lle_n (lle_n (lle_z)))))))))
                  · refine AW.iconst (n := 154) (dat D_X12_worked 81 rfl) rfl ?_
                    cases h
                    exact AW.to hJ44 (lle_s rfl (lle_n (lle_s rfl (lle_s rfl (lle_s rfl (lle_n (lle_n (lle_n (lle_z)))))))))
                refine AW.icmp_neH (t := 144) (n := 140) h (dat D_X12_worked 73 rfl) rfl rfl rfl (by decide) (fun h => ?_) (fun h => ?_)
                · refine AW.lconst (n := 141) (x := 0) (dat D_X12_worked 74 rfl) rfl (by decide) ?_
                  refine AW.goto (t := 145) (dat D_X12_worked 75 rfl) rfl ?_
                  cases h
                  exact AW.to hJ42 (lle_s rfl (lle_n (lle_s rfl (lle_s rfl (lle_s rfl (lle_n (lle_n (lle_n (lle_z)))))))))
                · refine AW.lconst (n := 145) (x := 1) (dat D_X12_worked 76 rfl) rfl (by decide) ?_
                  cases h
                  exact AW.to hJ42 (lle_s rfl (lle_n (lle_s rfl (lle_s rfl (lle_s rfl (lle_n (lle_n (lle_n (lle_z)))))))))
              · refine AW.iincH h (n := 200) (dat D_X12_worked 105 rfl) rfl rfl (le45 rfl) rfl (fun x32 h => ?_)
                refine AW.lq (ls' := [some (vR 57), none, some (vI a1), some (vI x32), some (vI x9), some (vI x8), none, none]) rfl ?_
                refine AW.aload_n (n := 201) (dat D_X12_worked 106 rfl) rfl rfl ?_
                refine AW.getR (n := 204) (t := 67) fX12_24 wF_X12_45 ly_57 (le45 rfl) rfl (dat D_X12_worked 107 rfl) rfl ?_
                refine AW.iload_n (n := 205) (dat D_X12_worked 108 rfl) rfl rfl ?_
                refine AW.iconst (n := 206) (dat D_X12_worked 109 rfl) rfl ?_
                refine AW.isub (n := 207) (dat D_X12_worked 110 rfl) rfl ?_
                refine AW.aload_n (n := 208) (dat D_X12_worked 111 rfl) rfl rfl ?_
                refine AW.iload (n := 210) (dat D_X12_worked 112 rfl) rfl rfl ?_
                refine AW.aload_n (n := 211) (dat D_X12_worked 113 rfl) rfl rfl ?_
                refine AW.getR (n := 214) (t := 67) fX12_24 wF_X12_45 ly_57 (le45 rfl) rfl (dat D_X12_worked 114 rfl) rfl ?_
                refine AW.iload_n (n := 215) (dat D_X12_worked 115 rfl) rfl rfl ?_
                refine AW.iconst (n := 216) (dat D_X12_worked 116 rfl) rfl ?_
                refine AW.isub (n := 217) (dat D_X12_worked 117 rfl) rfl ?_
                refine AW.laldH h (n := 218) rfl ly_67 (le45 rfl) (dat D_X12_worked 118 rfl) rfl (fun j33 h => ?_)
                refine AW.aload_n (n := 219) (dat D_X12_worked 119 rfl) rfl rfl ?_
                refine AW.getR (n := 222) (t := 67) fX12_24 wF_X12_45 ly_57 (le45 rfl) rfl (dat D_X12_worked 120 rfl) rfl ?_
                refine AW.iload_n (n := 223) (dat D_X12_worked 121 rfl) rfl rfl ?_
                refine AW.laldH h (n := 224) rfl ly_67 (le45 rfl) (dat D_X12_worked 122 rfl) rfl (fun j34 h => ?_)
                obtain ⟨v36, σ37, hc35, h⟩ := bnd2_some h
                refine AW.cV (n := 227) (as := [vI x8, vL (σ3 67 j33), vL (σ3 67 j34)]) (st := [vI (x32 - 1), vR 67]) (st' := [vL v36, vI (x32 - 1), vR 67]) (uc' := 0) (us' := 0) (A_X12_joined hΓ hc35) cf_X12_joined ly_57 (le45 rfl) vc_12 (le45 rfl) wM_X12_311 (le45 rfl) (le45 rfl) (dat D_X12_worked 123 rfl) rfl rfl (le45 rfl) (le45 rfl) rfl (fun _ => ?_) nlt0
                refine AW.lastH h (n := 228) rfl ly_67 (le45 rfl) (dat D_X12_worked 124 rfl) rfl (fun j38 h => ?_)
                refine AW.ltS h (fun σ39 h => ?_)
                cases h
                exact AW.to hJ13 (lle_s rfl (lle_n (lle_s rfl (lle_s rfl (lle_s rfl (lle_n (lle_n (lle_n (lle_z)))))))))
        · refine AW.aload_n (n := 46) (dat D_X12_worked 22 rfl) rfl rfl ?_
          refine AW.getR (n := 49) (t := 67) fX12_24 wF_X12_45 ly_57 (le45 rfl) rfl (dat D_X12_worked 23 rfl) rfl ?_
          refine AW.iload_n (n := 50) (dat D_X12_worked 24 rfl) rfl rfl ?_
          refine AW.iload (n := 52) (dat D_X12_worked 25 rfl) rfl rfl ?_
          refine AW.sipush (n := 55) (dat D_X12_worked 26 rfl) rfl (by decide) ?_
          obtain ⟨s56, h, hq56⟩ := ob_some h
          obtain ⟨y55, e56⟩ : ∃ z, z = s56 := ⟨_, rfl⟩
          subst e56
          have hJ56 : AW Γ mX12_worked 3 (0, r) (85, τ) 0 0 76 [some (vR 57), none, some (vI a1), some (vI z1), some (vI x9), none, none, none] [vL y55, vI z1, vR 67] (85, σ3) := by
            have h : X12_worked_j76x n z1 σ3 x9 y55 = some _ := hq56
            unfold X12_worked_j76x at h
            refine AW.lastH h (n := 77) rfl ly_67 (le45 rfl) (dat D_X12_worked 38 rfl) rfl (fun j57 h => ?_)
            refine AW.ltS h (fun σ58 h => ?_)
            refine AW.iincH h (n := 80) (dat D_X12_worked 39 rfl) rfl rfl (le45 rfl) rfl (fun x59 h => ?_)
            refine AW.lq (ls' := [some (vR 57), none, some (vI a1), some (vI x59), some (vI x9), none, none, none]) rfl ?_
            refine AW.goto (t := 228) (dat D_X12_worked 40 rfl) rfl ?_
            cases h
            exact AW.to hJ13 (lle_s rfl (lle_n (lle_s rfl (lle_s rfl (lle_s rfl (lle_n (lle_n (lle_n (lle_z)))))))))
          refine AW.icmp_ltH (t := 68) (n := 58) h (dat D_X12_worked 27 rfl) rfl rfl rfl (by decide) (fun h => ?_) (fun h => ?_)
          · refine AW.aload_n (n := 69) (dat D_X12_worked 33 rfl) rfl rfl ?_
            refine AW.getR (n := 72) (t := 66) fX12_22 wF_X12_42 ly_57 (le45 rfl) rfl (dat D_X12_worked 34 rfl) rfl ?_
            refine AW.iload (n := 74) (dat D_X12_worked 35 rfl) rfl rfl ?_
            refine AW.ialdH h (n := 75) rfl ly_66 (le45 rfl) (dat D_X12_worked 36 rfl) rfl (fun j60 h => ?_)
            refine AW.i2l (n := 76) (dat D_X12_worked 37 rfl) rfl ?_
            cases h
            exact AW.to hJ56 (lle_s rfl (lle_n (lle_s rfl (lle_s rfl (lle_s rfl (lle_n (lle_n (lle_n (lle_z)))))))))
          · refine AW.iload (n := 60) (dat D_X12_worked 28 rfl) rfl rfl ?_
            refine AW.sipush (n := 63) (dat D_X12_worked 29 rfl) rfl (by decide) ?_
            refine AW.isub (n := 64) (dat D_X12_worked 30 rfl) rfl ?_
            refine AW.i2l (n := 65) (dat D_X12_worked 31 rfl) rfl ?_
            refine AW.goto (t := 76) (dat D_X12_worked 32 rfl) rfl ?_
            cases h
            exact AW.to hJ56 (lle_s rfl (lle_n (lle_s rfl (lle_s rfl (lle_s rfl (lle_n (lle_n (lle_n (lle_z)))))))))
    · cases h
      have hb := hb4 _ rfl
      cases hb
      exact AW.to hR4 (lle_s rfl (lle_n (lle_n (lle_n (lle_n (lle_n (lle_n (lle_n (lle_z)))))))))
def L_X12_scored : List (Nat × Instr × Nat) := [(0, .aload_n 0, 1), (1, .iconst 0, 1), (2, .putfield 304, 3), (5, .aload_n 0, 1), (6, .getfield 39, 3), (9, .iconst (-1), 1), (10, .if_icmp .ne 22, 3), (13, .bipush 100, 2), (15, .aload_n 0, 1), (16, .getfield 42, 3), (19, .iconst 0, 1), (20, .iaload, 1), (21, .aload_n 0, 1), (22, .getfield 42, 3), (25, .iconst 2, 1), (26, .iaload, 1), (27, .imul, 1), (28, .invokestatic 315, 3), (31, .ireturn, 1), (32, .lconst 0, 1), (33, .lstore_n 1, 1), (34, .iconst 0, 1), (35, .istore_n 3, 1), (36, .iload_n 3, 1), (37, .aload_n 0, 1), (38, .getfield 39, 3), (41, .if_icmp .ge 140, 3), (44, .aload_n 0, 1), (45, .getfield 304, 3), (48, .ifCond .ne 133, 3), (51, .iconst 4, 1), (52, .iload_n 3, 1), (53, .imul, 1), (54, .istore 4, 2), (56, .aload_n 0, 1), (57, .getfield 33, 3), (60, .iload 4, 2), (62, .iconst 2, 1), (63, .iadd, 1), (64, .iaload, 1), (65, .aload_n 0, 1), (66, .getfield 33, 3), (69, .iload 4, 2), (71, .iconst 3, 1), (72, .iadd, 1), (73, .iaload, 1), (74, .if_icmp .eq 30, 3), (77, .aload_n 0, 1), (78, .aload_n 0, 1), (79, .getfield 33, 3), (82, .iload 4, 2), (84, .iconst 2, 1), (85, .iadd, 1), (86, .iaload, 1), (87, .aload_n 0, 1), (88, .getfield 33, 3), (91, .iload 4, 2), (93, .iconst 3, 1), (94, .iadd, 1), (95, .iaload, 1), (96, .invokevirtual 321, 3), (99, .lconst 1, 1), (100, .lcmp, 1), (101, .ifCond .ne 7, 3), (104, .iconst 1, 1), (105, .goto 4, 3), (108, .iconst 0, 1), (109, .istore 5, 2), (111, .aload_n 0, 1), (112, .getfield 304, 3), (115, .ifCond .gt 60, 3), (118, .iload 5, 2), (120, .ifCond .ne 6, 3), (123, .goto 52, 3), (126, .aload_n 0, 1), (127, .aload_n 0, 1), (128, .getfield 33, 3), (131, .iload 4, 2), (133, .iconst 1, 1), (134, .iadd, 1), (135, .iaload, 1), (136, .aload_n 0, 1), (137, .getfield 33, 3), (140, .iload 4, 2), (142, .iconst 2, 1), (143, .iadd, 1), (144, .iaload, 1), (145, .invokevirtual 321, 3), (148, .lstore 6, 2), (150, .aload_n 0, 1), (151, .getfield 304, 3), (154, .ifCond .ne 21, 3), (157, .aload_n 0, 1), (158, .lload_n 1, 1), (159, .aload_n 0, 1), (160, .getfield 33, 3), (163, .iload 4, 2), (165, .iaload, 1), (166, .i2l, 1), (167, .lload 6, 2), (169, .lmul, 1), (170, .ladd, 1), (171, .invokevirtual 307, 3), (174, .lstore_n 1, 1), (175, .iinc 3 1, 3), (178, .goto (-142), 3), (181, .aload_n 0, 1), (182, .getfield 304, 3), (185, .ifCond .le 7, 3), (188, .iconst 0, 1), (189, .goto 15, 3), (192, .lconst 0, 1), (193, .ldc2_w 325, 3), (196, .lload_n 1, 1), (197, .invokestatic 327, 3), (200, .invokestatic 330, 3), (203, .l2i, 1), (204, .ireturn, 1)]
theorem D_X12_scored : dOK cX12_scored L_X12_scored = true := by decide +kernel
theorem cf_X12_scored : CFV mX12_scored 0 := ⟨wI_X12_scored, wS_X12_scored, wN_WaveRightModel, wC_X12_scored, rfl, ⟨by decide +kernel, by decide +kernel, by decide +kernel⟩, le45 rfl⟩
def X12_scored_e36 (n : Nat) (e6 : Int) (σ7 : SG) : Option (Int × SG) :=
  if w32 (σ7 57 23) ≤ 0 then
    some (((mx64 0 (mn64 e6 100)), σ7))
  else
    some ((0, σ7))
def X12_scored_j175 (n : Nat) (z3 : Int) (y14 : Int) (σ15 : SG) : Option ((Int × Int × SG) ⊕ (Int × SG)) :=
  lt (z3 + 1) fun x17 =>
  some (.inl (y14, x17, σ15))
def X12_scored_j109 (n : Nat) (z2 : Int) (x8 : Int) (z3 : Int) (y11 : Int) (σ12 : SG) : Option ((Int × Int × SG) ⊕ (Int × SG)) :=
  ((if 0 < w32 (σ12 57 23) then
    some ((z2, σ12))
  else
    if w32 y11 = 0 then
      some ((z2, σ12))
    else
      rdA 40 (x8 + 1) fun j18 =>
      rdA 40 (x8 + 2) fun j19 =>
      bnd2 (X12_worked n (σ12 64 j18) (σ12 64 j19) σ12) fun v21 σ22 =>
      if w32 (σ22 57 23) = 0 then
        rdA 40 x8 fun j23 =>
        bnd2 (X12_checked n (z2 + ((w32 (σ22 64 j23)) * v21)) σ22) fun v25 σ26 =>
        some ((v25, σ26))
      else
        some ((z2, σ22))) : Option (Int × SG)).bind (fun s => X12_scored_j175 n z3 s.1 s.2)
def X12_scored_l36 (n : Nat) (z2 : Int) (z3 : Int) (σ4 : SG) : Option ((Int × Int × SG) ⊕ (Int × SG)) :=
  if w32 (σ4 57 18) ≤ w32 z3 then
    some (.inr (z2, σ4))
  else
    if w32 (σ4 57 23) = 0 then
      lt (4 * z3) fun x8 =>
      rdA 40 (x8 + 2) fun j9 =>
      rdA 40 (x8 + 3) fun j10 =>
      ((if w32 (σ4 64 j9) = w32 (σ4 64 j10) then
        some ((1, σ4))
      else
        rdA 40 (x8 + 2) fun j27 =>
        rdA 40 (x8 + 3) fun j28 =>
        bnd2 (X12_worked n (σ4 64 j27) (σ4 64 j28) σ4) fun v30 σ31 =>
        if w32 (cmpL v30 1) = 0 then
          some ((1, σ31))
        else
          some ((0, σ31))) : Option (Int × SG)).bind (fun s => X12_scored_j109 n z2 x8 z3 s.1 s.2)
    else
      some (.inr (z2, σ4))
def X12_scored (n : Nat) (σ : SG) : Option (Int × SG) :=
  lt (up σ 57 23 0) fun σ1 =>
  if w32 (σ1 57 18) = (-1) then
    rdA 8 0 fun j32 =>
    rdA 8 2 fun j33 =>
    some (((mn32 100 ((σ1 66 j32) * (σ1 66 j33))), σ1))
  else
    ((iter n (fun s : Int × Int × SG => X12_scored_l36 n s.1 s.2.1 s.2.2) (0, 0, σ1)) : Option (Int × SG)).bind (fun s => X12_scored_e36 n s.1 s.2)
set_option maxHeartbeats 4000000 in
set_option maxRecDepth 100000 in
theorem A_X12_scored {Γ : GA} (hΓ : (gl Γ).stackTraces = false) {n : Nat} {σ : SG} {r : Int} {τ : SG}  (h : X12_scored n σ = some (r, τ)) : AM Γ mX12_scored 4 0 0 [vR 57] (85, σ) (0, r) (85, τ) := by
  refine AM.of pl_X12 rfl wC_X12_scored (le45 rfl) hΓ ?_
  refine AW.to (ls'' := [some (vR 57), none, none, none, none, none, none, none]) ?_ (lle_s rfl (lle_e (lle_e (lle_e (lle_e (lle_e (lle_e (lle_e (lle_z)))))))))
  unfold X12_scored at h
  refine AW.aload_n (n := 1) (dat D_X12_scored 0 rfl) rfl rfl ?_
  refine AW.iconst (n := 2) (dat D_X12_scored 1 rfl) rfl ?_
  refine AW.putI (n := 5) fX12_23 wF_X12_304 ly_57 (le45 rfl) rfl rfl rfl (dat D_X12_scored 2 rfl) rfl ?_
  refine AW.ltS h (fun σ1 h => ?_)
  refine AW.aload_n (n := 6) (dat D_X12_scored 3 rfl) rfl rfl ?_
  refine AW.getI (n := 9) fX12_18 wF_X12_39 ly_57 (le45 rfl) rfl rfl (dat D_X12_scored 4 rfl) rfl ?_
  refine AW.iconst (n := 10) (dat D_X12_scored 5 rfl) rfl ?_
  refine AW.icmp_neH (t := 32) (n := 13) h (dat D_X12_scored 6 rfl) rfl rfl rfl (by decide) (fun h => ?_) (fun h => ?_)
  · refine AW.bipush (n := 15) (dat D_X12_scored 7 rfl) rfl (by decide) ?_
    refine AW.aload_n (n := 16) (dat D_X12_scored 8 rfl) rfl rfl ?_
    refine AW.getR (n := 19) (t := 66) fX12_22 wF_X12_42 ly_57 (le45 rfl) rfl (dat D_X12_scored 9 rfl) rfl ?_
    refine AW.iconst (n := 20) (dat D_X12_scored 10 rfl) rfl ?_
    refine AW.ialdH h (n := 21) rfl ly_66 (le45 rfl) (dat D_X12_scored 11 rfl) rfl (fun j32 h => ?_)
    refine AW.aload_n (n := 22) (dat D_X12_scored 12 rfl) rfl rfl ?_
    refine AW.getR (n := 25) (t := 66) fX12_22 wF_X12_42 ly_57 (le45 rfl) rfl (dat D_X12_scored 13 rfl) rfl ?_
    refine AW.iconst (n := 26) (dat D_X12_scored 14 rfl) rfl ?_
    refine AW.ialdH h (n := 27) rfl ly_66 (le45 rfl) (dat D_X12_scored 15 rfl) rfl (fun j33 h => ?_)
    refine AW.imul (n := 28) (dat D_X12_scored 16 rfl) rfl ?_
    refine AW.mmin (n := 31) wM_X12_315 (le45 rfl) (le45 rfl) (dat D_X12_scored 17 rfl) rfl ?_
    cases h
    exact AW.iret rfl rfl rfl (dat D_X12_scored 18 rfl)
  · refine AW.lconst (n := 33) (x := 0) (dat D_X12_scored 19 rfl) rfl (by decide) ?_
    refine AW.lstore_n (n := 34) (ls' := [some (vR 57), some (vL 0), none, none, none, none, none, none]) (dat D_X12_scored 20 rfl) rfl (le45 rfl) (le45 rfl) rfl rfl ?_
    refine AW.iconst (n := 35) (dat D_X12_scored 21 rfl) rfl ?_
    refine AW.istore_n (n := 36) (ls' := [some (vR 57), some (vL 0), none, some (vI 0), none, none, none, none]) (dat D_X12_scored 22 rfl) rfl (le45 rfl) (le45 rfl) rfl rfl ?_
    obtain ⟨b5, hi5, hq5⟩ := ob_some h
    obtain ⟨e6, σ7⟩ := b5
    have hR5 : AW Γ mX12_scored 4 (0, r) (85, τ) 0 0 181 [some (vR 57), some (vL e6), none, none, none, none, none, none] [] (85, σ7) := by
      have h : X12_scored_e36 n e6 σ7 = some _ := hq5
      unfold X12_scored_e36 at h
      refine AW.aload_n (n := 182) (dat D_X12_scored 106 rfl) rfl rfl ?_
      refine AW.getI (n := 185) fX12_23 wF_X12_304 ly_57 (le45 rfl) rfl rfl (dat D_X12_scored 107 rfl) rfl ?_
      refine AW.if_leH (t := 192) (n := 188) h (dat D_X12_scored 108 rfl) rfl rfl (fun h => ?_) (fun h => ?_)
      · refine AW.lconst (n := 193) (x := 0) (dat D_X12_scored 111 rfl) rfl (by decide) ?_
        refine AW.ldc2 (n := 196) (x := 100) (dat D_X12_scored 112 rfl) rfl wK_X12_325 (by decide) ?_
        refine AW.lload_n (n := 197) (dat D_X12_scored 113 rfl) rfl rfl ?_
        refine AW.lmin (n := 200) wM_X12_327 (le45 rfl) (le45 rfl) (dat D_X12_scored 114 rfl) rfl ?_
        refine AW.lmax (n := 203) wM_X12_330 (le45 rfl) (le45 rfl) (dat D_X12_scored 115 rfl) rfl ?_
        refine AW.l2i (n := 204) (dat D_X12_scored 116 rfl) rfl ?_
        cases h
        exact AW.iret rfl rfl rfl (dat D_X12_scored 117 rfl)
      · refine AW.iconst (n := 189) (dat D_X12_scored 109 rfl) rfl ?_
        refine AW.goto (t := 204) (dat D_X12_scored 110 rfl) rfl ?_
        cases h
        exact AW.iret rfl rfl rfl (dat D_X12_scored 117 rfl)
    refine AW.to (ls'' := [some (vR 57), some (vL 0), none, some (vI 0), none, none, none, none]) ?_ (lle_s rfl (lle_s rfl (lle_n (lle_s rfl (lle_n (lle_n (lle_n (lle_n (lle_z)))))))))
    refine aw_iter (fun s : Int × Int × SG => AW Γ mX12_scored 4 (0, r) (85, τ) 0 0 36 [some (vR 57), some (vL (s.1)), none, some (vI (s.2.1)), none, none, none, none] [] (85, s.2.2)) (fun s y h hk5 hb5 => ?_) _ _ hi5
    obtain ⟨z2, z3, σ4⟩ := s
    show AW Γ mX12_scored 4 (0, r) (85, τ) 0 0 36 [some (vR 57), some (vL z2), none, some (vI z3), none, none, none, none] [] (85, σ4)
    have h : X12_scored_l36 n z2 z3 σ4 = some y := h
    unfold X12_scored_l36 at h
    refine AW.iload_n (n := 37) (dat D_X12_scored 23 rfl) rfl rfl ?_
    refine AW.aload_n (n := 38) (dat D_X12_scored 24 rfl) rfl rfl ?_
    refine AW.getI (n := 41) fX12_18 wF_X12_39 ly_57 (le45 rfl) rfl rfl (dat D_X12_scored 25 rfl) rfl ?_
    refine AW.icmp_geH (t := 181) (n := 44) h (dat D_X12_scored 26 rfl) rfl rfl rfl rfl (fun h => ?_) (fun h => ?_)
    · cases h
      have hb := hb5 _ rfl
      cases hb
      exact AW.to hR5 (lle_s rfl (lle_s rfl (lle_n (lle_n (lle_n (lle_n (lle_n (lle_n (lle_z)))))))))
    · refine AW.aload_n (n := 45) (dat D_X12_scored 27 rfl) rfl rfl ?_
      refine AW.getI (n := 48) fX12_23 wF_X12_304 ly_57 (le45 rfl) rfl rfl (dat D_X12_scored 28 rfl) rfl ?_
      refine AW.if_neH (t := 181) (n := 51) h (dat D_X12_scored 29 rfl) rfl rfl (fun h => ?_) (fun h => ?_)
      · refine AW.iconst (n := 52) (dat D_X12_scored 30 rfl) rfl ?_
        refine AW.iload_n (n := 53) (dat D_X12_scored 31 rfl) rfl rfl ?_
        refine AW.imul (n := 54) (dat D_X12_scored 32 rfl) rfl ?_
        refine AW.ltI h (fun x8 h => ?_)
        refine AW.istore (n := 56) (ls' := [some (vR 57), some (vL z2), none, some (vI z3), some (vI x8), none, none, none]) (dat D_X12_scored 33 rfl) rfl (le45 rfl) (le45 rfl) rfl rfl ?_
        refine AW.aload_n (n := 57) (dat D_X12_scored 34 rfl) rfl rfl ?_
        refine AW.getR (n := 60) (t := 64) fX12_16 wF_X12_33 ly_57 (le45 rfl) rfl (dat D_X12_scored 35 rfl) rfl ?_
        refine AW.iload (n := 62) (dat D_X12_scored 36 rfl) rfl rfl ?_
        refine AW.iconst (n := 63) (dat D_X12_scored 37 rfl) rfl ?_
        refine AW.iadd (n := 64) (dat D_X12_scored 38 rfl) rfl ?_
        refine AW.ialdH h (n := 65) rfl ly_64 (le45 rfl) (dat D_X12_scored 39 rfl) rfl (fun j9 h => ?_)
        refine AW.aload_n (n := 66) (dat D_X12_scored 40 rfl) rfl rfl ?_
        refine AW.getR (n := 69) (t := 64) fX12_16 wF_X12_33 ly_57 (le45 rfl) rfl (dat D_X12_scored 41 rfl) rfl ?_
        refine AW.iload (n := 71) (dat D_X12_scored 42 rfl) rfl rfl ?_
        refine AW.iconst (n := 72) (dat D_X12_scored 43 rfl) rfl ?_
        refine AW.iadd (n := 73) (dat D_X12_scored 44 rfl) rfl ?_
        refine AW.ialdH h (n := 74) rfl ly_64 (le45 rfl) (dat D_X12_scored 45 rfl) rfl (fun j10 h => ?_)
        obtain ⟨s13, h, hq13⟩ := ob_some h
        obtain ⟨y11, σ12⟩ := s13
        have hJ13 : AW Γ mX12_scored 4 (0, r) (85, τ) 0 0 109 [some (vR 57), some (vL z2), none, some (vI z3), some (vI x8), none, none, none] [vI y11] (85, σ12) := by
          have h : X12_scored_j109 n z2 x8 z3 y11 σ12 = some _ := hq13
          unfold X12_scored_j109 at h
          refine AW.istore (n := 111) (ls' := [some (vR 57), some (vL z2), none, some (vI z3), some (vI x8), some (vI y11), none, none]) (dat D_X12_scored 67 rfl) rfl (le45 rfl) (le45 rfl) rfl rfl ?_
          refine AW.aload_n (n := 112) (dat D_X12_scored 68 rfl) rfl rfl ?_
          refine AW.getI (n := 115) fX12_23 wF_X12_304 ly_57 (le45 rfl) rfl rfl (dat D_X12_scored 69 rfl) rfl ?_
          obtain ⟨s16, h, hq16⟩ := ob_some h
          obtain ⟨y14, σ15⟩ := s16
          have hJ16 : AW Γ mX12_scored 4 (0, r) (85, τ) 0 0 175 [some (vR 57), some (vL y14), none, some (vI z3), none, none, none, none] [] (85, σ15) := by
            have h : X12_scored_j175 n z3 y14 σ15 = some _ := hq16
            unfold X12_scored_j175 at h
            refine AW.iincH h (n := 178) (dat D_X12_scored 104 rfl) rfl rfl (le45 rfl) rfl (fun x17 h => ?_)
            refine AW.lq (ls' := [some (vR 57), some (vL y14), none, some (vI x17), none, none, none, none]) rfl ?_
            refine AW.goto (t := 36) (dat D_X12_scored 105 rfl) rfl ?_
            cases h
            exact AW.to (hk5 _ rfl) (lle_s rfl (lle_s rfl (lle_n (lle_s rfl (lle_n (lle_n (lle_n (lle_n (lle_z)))))))))
          refine AW.if_gtH (t := 175) (n := 118) h (dat D_X12_scored 70 rfl) rfl rfl (fun h => ?_) (fun h => ?_)
          · cases h
            exact AW.to hJ16 (lle_s rfl (lle_s rfl (lle_n (lle_s rfl (lle_n (lle_n (lle_n (lle_n (lle_z)))))))))
          · refine AW.iload (n := 120) (dat D_X12_scored 71 rfl) rfl rfl ?_
            refine AW.if_neH (t := 126) (n := 123) h (dat D_X12_scored 72 rfl) rfl rfl (fun h => ?_) (fun h => ?_)
            · refine AW.goto (t := 175) (dat D_X12_scored 73 rfl) rfl ?_
              cases h
              exact AW.to hJ16 (lle_s rfl (lle_s rfl (lle_n (lle_s rfl (lle_n (lle_n (lle_n (lle_n (lle_z)))))))))
            · refine AW.aload_n (n := 127) (dat D_X12_scored 74 rfl) rfl rfl ?_
              refine AW.aload_n (n := 128) (dat D_X12_scored 75 rfl) rfl rfl ?_
              refine AW.getR (n := 131) (t := 64) fX12_16 wF_X12_33 ly_57 (le45 rfl) rfl (dat D_X12_scored 76 rfl) rfl ?_
              refine AW.iload (n := 133) (dat D_X12_scored 77 rfl) rfl rfl ?_
              refine AW.iconst (n := 134) (dat D_X12_scored 78 rfl) rfl ?_
              refine AW.iadd (n := 135) (dat D_X12_scored 79 rfl) rfl ?_
              refine AW.ialdH h (n := 136) rfl ly_64 (le45 rfl) (dat D_X12_scored 80 rfl) rfl (fun j18 h => ?_)
              refine AW.aload_n (n := 137) (dat D_X12_scored 81 rfl) rfl rfl ?_
              refine AW.getR (n := 140) (t := 64) fX12_16 wF_X12_33 ly_57 (le45 rfl) rfl (dat D_X12_scored 82 rfl) rfl ?_
              refine AW.iload (n := 142) (dat D_X12_scored 83 rfl) rfl rfl ?_
              refine AW.iconst (n := 143) (dat D_X12_scored 84 rfl) rfl ?_
              refine AW.iadd (n := 144) (dat D_X12_scored 85 rfl) rfl ?_
              refine AW.ialdH h (n := 145) rfl ly_64 (le45 rfl) (dat D_X12_scored 86 rfl) rfl (fun j19 h => ?_)
              obtain ⟨v21, σ22, hc20, h⟩ := bnd2_some h
              refine AW.cV (n := 148) (as := [vI (σ12 64 j18), vI (σ12 64 j19)]) (st := []) (st' := [vL v21]) (uc' := 0) (us' := 0) (A_X12_worked hΓ hc20) cf_X12_worked ly_57 (le45 rfl) vc_12 (le45 rfl) wM_X12_321 (le45 rfl) (le45 rfl) (dat D_X12_scored 87 rfl) rfl rfl (le45 rfl) (le45 rfl) rfl (fun _ => ?_) nlt0
              refine AW.lstore (n := 150) (ls' := [some (vR 57), some (vL z2), none, some (vI z3), some (vI x8), some (vI y11), some (vL v21), none]) (dat D_X12_scored 88 rfl) rfl (le45 rfl) (le45 rfl) rfl rfl ?_
              refine AW.aload_n (n := 151) (dat D_X12_scored 89 rfl) rfl rfl ?_
              refine AW.getI (n := 154) fX12_23 wF_X12_304 ly_57 (le45 rfl) rfl rfl (dat D_X12_scored 90 rfl) rfl ?_
              refine AW.if_neH (t := 175) (n := 157) h (dat D_X12_scored 91 rfl) rfl rfl (fun h => ?_) (fun h => ?_)
              · refine AW.aload_n (n := 158) (dat D_X12_scored 92 rfl) rfl rfl ?_
                refine AW.lload_n (n := 159) (dat D_X12_scored 93 rfl) rfl rfl ?_
                refine AW.aload_n (n := 160) (dat D_X12_scored 94 rfl) rfl rfl ?_
                refine AW.getR (n := 163) (t := 64) fX12_16 wF_X12_33 ly_57 (le45 rfl) rfl (dat D_X12_scored 95 rfl) rfl ?_
                refine AW.iload (n := 165) (dat D_X12_scored 96 rfl) rfl rfl ?_
                refine AW.ialdH h (n := 166) rfl ly_64 (le45 rfl) (dat D_X12_scored 97 rfl) rfl (fun j23 h => ?_)
                refine AW.i2l (n := 167) (dat D_X12_scored 98 rfl) rfl ?_
                refine AW.lload (n := 169) (dat D_X12_scored 99 rfl) rfl rfl ?_
                refine AW.lmul (n := 170) (dat D_X12_scored 100 rfl) rfl ?_
                refine AW.ladd (n := 171) (dat D_X12_scored 101 rfl) rfl ?_
                obtain ⟨v25, σ26, hc24, h⟩ := bnd2_some h
                refine AW.cV (n := 174) (as := [vL (z2 + ((w32 (σ22 64 j23)) * v21))]) (st := []) (st' := [vL v25]) (uc' := 0) (us' := 0) (A_X12_checked hΓ hc24) cf_X12_checked ly_57 (le45 rfl) vc_12 (le45 rfl) wM_X12_307 (le45 rfl) (le45 rfl) (dat D_X12_scored 102 rfl) rfl rfl (le45 rfl) (le45 rfl) rfl (fun _ => ?_) nlt0
                refine AW.lstore_n (n := 175) (ls' := [some (vR 57), some (vL v25), none, some (vI z3), some (vI x8), some (vI y11), some (vL v21), none]) (dat D_X12_scored 103 rfl) rfl (le45 rfl) (le45 rfl) rfl rfl ?_
                cases h
                exact AW.to hJ16 (lle_s rfl (lle_s rfl (lle_n (lle_s rfl (lle_n (lle_n (lle_n (lle_n (lle_z)))))))))
              · cases h
                exact AW.to hJ16 (lle_s rfl (lle_s rfl (lle_n (lle_s rfl (lle_n (lle_n (lle_n (lle_n (lle_z)))))))))
        refine AW.icmp_eqH (t := 104) (n := 77) h (dat D_X12_scored 46 rfl) rfl rfl rfl rfl (fun h => ?_) (fun h => ?_)
        · refine AW.iconst (n := 105) (dat D_X12_scored 64 rfl) rfl ?_
          refine AW.goto (t := 109) (dat D_X12_scored 65 rfl) rfl ?_
          cases h
          exact AW.to hJ13 (lle_s rfl (lle_s rfl (lle_n (lle_s rfl (lle_s rfl (lle_n (lle_n (lle_n (lle_z)))))))))
        · refine AW.aload_n (n := 78) (dat D_X12_scored 47 rfl) rfl rfl ?_
          refine AW.aload_n (n := 79) (dat D_X12_scored 48 rfl) rfl rfl ?_
          refine AW.getR (n := 82) (t := 64) fX12_16 wF_X12_33 ly_57 (le45 rfl) rfl (dat D_X12_scored 49 rfl) rfl ?_
          refine AW.iload (n := 84) (dat D_X12_scored 50 rfl) rfl rfl ?_
          refine AW.iconst (n := 85) (dat D_X12_scored 51 rfl) rfl ?_
          refine AW.iadd (n := 86) (dat D_X12_scored 52 rfl) rfl ?_
          refine AW.ialdH h (n := 87) rfl ly_64 (le45 rfl) (dat D_X12_scored 53 rfl) rfl (fun j27 h => ?_)
          refine AW.aload_n (n := 88) (dat D_X12_scored 54 rfl) rfl rfl ?_
          refine AW.getR (n := 91) (t := 64) fX12_16 wF_X12_33 ly_57 (le45 rfl) rfl (dat D_X12_scored 55 rfl) rfl ?_
          refine AW.iload (n := 93) (dat D_X12_scored 56 rfl) rfl rfl ?_
          refine AW.iconst (n := 94) (dat D_X12_scored 57 rfl) rfl ?_
          refine AW.iadd (n := 95) (dat D_X12_scored 58 rfl) rfl ?_
          refine AW.ialdH h (n := 96) rfl ly_64 (le45 rfl) (dat D_X12_scored 59 rfl) rfl (fun j28 h => ?_)
          obtain ⟨v30, σ31, hc29, h⟩ := bnd2_some h
          refine AW.cV (n := 99) (as := [vI (σ4 64 j27), vI (σ4 64 j28)]) (st := []) (st' := [vL v30]) (uc' := 0) (us' := 0) (A_X12_worked hΓ hc29) cf_X12_worked ly_57 (le45 rfl) vc_12 (le45 rfl) wM_X12_321 (le45 rfl) (le45 rfl) (dat D_X12_scored 60 rfl) rfl rfl (le45 rfl) (le45 rfl) rfl (fun _ => ?_) nlt0
          refine AW.lconst (n := 100) (x := 1) (dat D_X12_scored 61 rfl) rfl (by decide) ?_
          refine AW.lcmp (n := 101) (dat D_X12_scored 62 rfl) rfl ?_
          refine AW.if_neH (t := 108) (n := 104) h (dat D_X12_scored 63 rfl) rfl rfl (fun h => ?_) (fun h => ?_)
          · refine AW.iconst (n := 105) (dat D_X12_scored 64 rfl) rfl ?_
            refine AW.goto (t := 109) (dat D_X12_scored 65 rfl) rfl ?_
            cases h
            exact AW.to hJ13 (lle_s rfl (lle_s rfl (lle_n (lle_s rfl (lle_s rfl (lle_n (lle_n (lle_n (lle_z)))))))))
          · refine AW.iconst (n := 109) (dat D_X12_scored 66 rfl) rfl ?_
            cases h
            exact AW.to hJ13 (lle_s rfl (lle_s rfl (lle_n (lle_s rfl (lle_s rfl (lle_n (lle_n (lle_n (lle_z)))))))))
      · cases h
        have hb := hb5 _ rfl
        cases hb
        exact AW.to hR5 (lle_s rfl (lle_s rfl (lle_n (lle_n (lle_n (lle_n (lle_n (lle_n (lle_z)))))))))
def L_X12_bestOf : List (Nat × Instr × Nat) := [(0, .iconst 0, 1), (1, .istore_n 3, 1), (2, .iconst 0, 1), (3, .istore 4, 2), (5, .iconst 0, 1), (6, .istore 5, 2), (8, .iload 5, 2), (10, .aload_n 0, 1), (11, .getfield 68, 3), (14, .iload_n 1, 1), (15, .iaload, 1), (16, .if_icmp .ge 52, 3), (19, .aload_n 0, 1), (20, .getfield 90, 3), (23, .bipush 7, 2), (25, .bipush 20, 2), (27, .iload_n 1, 1), (28, .imul, 1), (29, .iload 5, 2), (31, .iadd, 1), (32, .imul, 1), (33, .iaload, 1), (34, .istore 6, 2), (36, .iload 6, 2), (38, .iload_n 3, 1), (39, .if_icmp .le 7, 3), (42, .iload_n 3, 1), (43, .goto 10, 3), (46, .iload 4, 2), (48, .iload 6, 2), (50, .invokestatic 427, 3), (53, .istore 4, 2), (55, .iload_n 3, 1), (56, .iload 6, 2), (58, .invokestatic 427, 3), (61, .istore_n 3, 1), (62, .iinc 5 1, 3), (65, .goto (-57), 3), (68, .iload_n 2, 1), (69, .ifCond .ne 7, 3), (72, .iload_n 3, 1), (73, .goto 5, 3), (76, .iload 4, 2), (78, .ireturn, 1)]
theorem D_X12_bestOf : dOK cX12_bestOf L_X12_bestOf = true := by decide +kernel
theorem cf_X12_bestOf : CFV mX12_bestOf 2 := ⟨wI_X12_bestOf, wS_X12_bestOf, wN_WaveRightModel, wC_X12_bestOf, rfl, ⟨by decide +kernel, by decide +kernel, by decide +kernel⟩, le45 rfl⟩
def X12_bestOf_e8 (n : Nat) (a1 : Int) (e5 : Int) (e6 : Int) : Option (Int) :=
  if w32 a1 = 0 then
    some (e5)
  else
    some (e6)
def X12_bestOf_j53 (n : Nat) (z1 : Int) (x9 : Int) (z3 : Int) (y10 : Int) : Option ((Int × Int × Int) ⊕ (Int × Int)) :=
  lt (mx32 z1 x9) fun x12 =>
  lt (z3 + 1) fun x13 =>
  some (.inl (x12, y10, x13))
def X12_bestOf_l8 (n : Nat) (a0 : Int) (σ : SG) (z1 : Int) (z2 : Int) (z3 : Int) : Option ((Int × Int × Int) ⊕ (Int × Int)) :=
  rdA 5 a0 fun j7 =>
  if w32 (σ 72 j7) ≤ w32 z3 then
    some (.inr (z1, z2))
  else
    rdA 700 (7 * ((20 * a0) + z3)) fun j8 =>
    lt (σ 79 j8) fun x9 =>
    ((if w32 x9 ≤ w32 z1 then
      some ((mx32 z2 x9))
    else
      some (z1)) : Option (Int)).bind (fun s => X12_bestOf_j53 n z1 x9 z3 s)
def X12_bestOf (n : Nat) (a0 : Int) (a1 : Int) (σ : SG) : Option (Int) :=
  ((iter n (fun s : Int × Int × Int => X12_bestOf_l8 n a0 σ s.1 s.2.1 s.2.2) (0, 0, 0)) : Option (Int × Int)).bind (fun s => X12_bestOf_e8 n a1 s.1 s.2)
set_option maxHeartbeats 4000000 in
set_option maxRecDepth 100000 in
theorem A_X12_bestOf {Γ : GA} (hΓ : (gl Γ).stackTraces = false) {n : Nat} {a0 : Int} {a1 : Int} {σ : SG} {r : Int}  (h : X12_bestOf n a0 a1 σ = some r) : AM Γ mX12_bestOf 2 0 0 [vR 57, vI a0, vI a1] (85, σ) (0, r) (85, σ) := by
  refine AM.of pl_X12 rfl wC_X12_bestOf (le45 rfl) hΓ ?_
  refine AW.to (ls'' := [some (vR 57), some (vI a0), some (vI a1), none, none, none, none]) ?_ (lle_s rfl (lle_s rfl (lle_s rfl (lle_e (lle_e (lle_e (lle_e (lle_z))))))))
  unfold X12_bestOf at h
  refine AW.iconst (n := 1) (dat D_X12_bestOf 0 rfl) rfl ?_
  refine AW.istore_n (n := 2) (ls' := [some (vR 57), some (vI a0), some (vI a1), some (vI 0), none, none, none]) (dat D_X12_bestOf 1 rfl) rfl (le45 rfl) (le45 rfl) rfl rfl ?_
  refine AW.iconst (n := 3) (dat D_X12_bestOf 2 rfl) rfl ?_
  refine AW.istore (n := 5) (ls' := [some (vR 57), some (vI a0), some (vI a1), some (vI 0), some (vI 0), none, none]) (dat D_X12_bestOf 3 rfl) rfl (le45 rfl) (le45 rfl) rfl rfl ?_
  refine AW.iconst (n := 6) (dat D_X12_bestOf 4 rfl) rfl ?_
  refine AW.istore (n := 8) (ls' := [some (vR 57), some (vI a0), some (vI a1), some (vI 0), some (vI 0), some (vI 0), none]) (dat D_X12_bestOf 5 rfl) rfl (le45 rfl) (le45 rfl) rfl rfl ?_
  obtain ⟨b4, hi4, hq4⟩ := ob_some h
  obtain ⟨e5, e6⟩ := b4
  have hR4 : AW Γ mX12_bestOf 2 (0, r) (85, σ) 0 0 68 [none, none, some (vI a1), some (vI e5), some (vI e6), none, none] [] (85, σ) := by
    have h : X12_bestOf_e8 n a1 e5 e6 = some _ := hq4
    unfold X12_bestOf_e8 at h
    refine AW.iload_n (n := 69) (dat D_X12_bestOf 38 rfl) rfl rfl ?_
    refine AW.if_neH (t := 76) (n := 72) h (dat D_X12_bestOf 39 rfl) rfl rfl (fun h => ?_) (fun h => ?_)
    · refine AW.iload_n (n := 73) (dat D_X12_bestOf 40 rfl) rfl rfl ?_
      refine AW.goto (t := 78) (dat D_X12_bestOf 41 rfl) rfl ?_
      cases h
      exact AW.iret rfl rfl rfl (dat D_X12_bestOf 43 rfl)
    · refine AW.iload (n := 78) (dat D_X12_bestOf 42 rfl) rfl rfl ?_
      cases h
      exact AW.iret rfl rfl rfl (dat D_X12_bestOf 43 rfl)
  refine AW.to (ls'' := [some (vR 57), some (vI a0), some (vI a1), some (vI 0), some (vI 0), some (vI 0), none]) ?_ (lle_s rfl (lle_s rfl (lle_s rfl (lle_s rfl (lle_s rfl (lle_s rfl (lle_n (lle_z))))))))
  refine aw_iter (fun s : Int × Int × Int => AW Γ mX12_bestOf 2 (0, r) (85, σ) 0 0 8 [some (vR 57), some (vI a0), some (vI a1), some (vI (s.1)), some (vI (s.2.1)), some (vI (s.2.2)), none] [] (85, σ)) (fun s y h hk4 hb4 => ?_) _ _ hi4
  obtain ⟨z1, z2, z3⟩ := s
  show AW Γ mX12_bestOf 2 (0, r) (85, σ) 0 0 8 [some (vR 57), some (vI a0), some (vI a1), some (vI z1), some (vI z2), some (vI z3), none] [] (85, σ)
  have h : X12_bestOf_l8 n a0 σ z1 z2 z3 = some y := h
  unfold X12_bestOf_l8 at h
  refine AW.iload (n := 10) (dat D_X12_bestOf 6 rfl) rfl rfl ?_
  refine AW.aload_n (n := 11) (dat D_X12_bestOf 7 rfl) rfl rfl ?_
  refine AW.getR (n := 14) (t := 72) fX12_42 wF_X12_68 ly_57 (le45 rfl) rfl (dat D_X12_bestOf 8 rfl) rfl ?_
  refine AW.iload_n (n := 15) (dat D_X12_bestOf 9 rfl) rfl rfl ?_
  refine AW.ialdH h (n := 16) rfl ly_72 (le45 rfl) (dat D_X12_bestOf 10 rfl) rfl (fun j7 h => ?_)
  refine AW.icmp_geH (t := 68) (n := 19) h (dat D_X12_bestOf 11 rfl) rfl rfl rfl rfl (fun h => ?_) (fun h => ?_)
  · cases h
    have hb := hb4 _ rfl
    cases hb
    exact AW.to hR4 (lle_n (lle_n (lle_s rfl (lle_s rfl (lle_s rfl (lle_n (lle_n (lle_z))))))))
  · refine AW.aload_n (n := 20) (dat D_X12_bestOf 12 rfl) rfl rfl ?_
    refine AW.getR (n := 23) (t := 79) fX12_49 wF_X12_90 ly_57 (le45 rfl) rfl (dat D_X12_bestOf 13 rfl) rfl ?_
    refine AW.bipush (n := 25) (dat D_X12_bestOf 14 rfl) rfl (by decide) ?_
    refine AW.bipush (n := 27) (dat D_X12_bestOf 15 rfl) rfl (by decide) ?_
    refine AW.iload_n (n := 28) (dat D_X12_bestOf 16 rfl) rfl rfl ?_
    refine AW.imul (n := 29) (dat D_X12_bestOf 17 rfl) rfl ?_
    refine AW.iload (n := 31) (dat D_X12_bestOf 18 rfl) rfl rfl ?_
    refine AW.iadd (n := 32) (dat D_X12_bestOf 19 rfl) rfl ?_
    refine AW.imul (n := 33) (dat D_X12_bestOf 20 rfl) rfl ?_
    refine AW.ialdH h (n := 34) rfl ly_79 (le45 rfl) (dat D_X12_bestOf 21 rfl) rfl (fun j8 h => ?_)
    refine AW.ltI h (fun x9 h => ?_)
    refine AW.istore (n := 36) (ls' := [some (vR 57), some (vI a0), some (vI a1), some (vI z1), some (vI z2), some (vI z3), some (vI x9)]) (dat D_X12_bestOf 22 rfl) rfl (le45 rfl) (le45 rfl) rfl rfl ?_
    refine AW.iload (n := 38) (dat D_X12_bestOf 23 rfl) rfl rfl ?_
    refine AW.iload_n (n := 39) (dat D_X12_bestOf 24 rfl) rfl rfl ?_
    obtain ⟨s11, h, hq11⟩ := ob_some h
    obtain ⟨y10, e11⟩ : ∃ z, z = s11 := ⟨_, rfl⟩
    subst e11
    have hJ11 : AW Γ mX12_bestOf 2 (0, r) (85, σ) 0 0 53 [some (vR 57), some (vI a0), some (vI a1), some (vI z1), none, some (vI z3), some (vI x9)] [vI y10] (85, σ) := by
      have h : X12_bestOf_j53 n z1 x9 z3 y10 = some _ := hq11
      unfold X12_bestOf_j53 at h
      refine AW.istore (n := 55) (ls' := [some (vR 57), some (vI a0), some (vI a1), some (vI z1), some (vI y10), some (vI z3), some (vI x9)]) (dat D_X12_bestOf 31 rfl) rfl (le45 rfl) (le45 rfl) rfl rfl ?_
      refine AW.iload_n (n := 56) (dat D_X12_bestOf 32 rfl) rfl rfl ?_
      refine AW.iload (n := 58) (dat D_X12_bestOf 33 rfl) rfl rfl ?_
      refine AW.mmax (n := 61) wM_X12_427 (le45 rfl) (le45 rfl) (dat D_X12_bestOf 34 rfl) rfl ?_
      refine AW.ltI h (fun x12 h => ?_)
      refine AW.istore_n (n := 62) (ls' := [some (vR 57), some (vI a0), some (vI a1), some (vI x12), some (vI y10), some (vI z3), some (vI x9)]) (dat D_X12_bestOf 35 rfl) rfl (le45 rfl) (le45 rfl) rfl rfl ?_
      refine AW.iincH h (n := 65) (dat D_X12_bestOf 36 rfl) rfl rfl (le45 rfl) rfl (fun x13 h => ?_)
      refine AW.lq (ls' := [some (vR 57), some (vI a0), some (vI a1), some (vI x12), some (vI y10), some (vI x13), some (vI x9)]) rfl ?_
      refine AW.goto (t := 8) (dat D_X12_bestOf 37 rfl) rfl ?_
      cases h
      exact AW.to (hk4 _ rfl) (lle_s rfl (lle_s rfl (lle_s rfl (lle_s rfl (lle_s rfl (lle_s rfl (lle_n (lle_z))))))))
    refine AW.icmp_leH (t := 46) (n := 42) h (dat D_X12_bestOf 25 rfl) rfl rfl rfl rfl (fun h => ?_) (fun h => ?_)
    · refine AW.iload (n := 48) (dat D_X12_bestOf 28 rfl) rfl rfl ?_
      refine AW.iload (n := 50) (dat D_X12_bestOf 29 rfl) rfl rfl ?_
      refine AW.mmax (n := 53) wM_X12_427 (le45 rfl) (le45 rfl) (dat D_X12_bestOf 30 rfl) rfl ?_
      cases h
      exact AW.to hJ11 (lle_s rfl (lle_s rfl (lle_s rfl (lle_s rfl (lle_n (lle_s rfl (lle_s rfl (lle_z))))))))
    · refine AW.iload_n (n := 43) (dat D_X12_bestOf 26 rfl) rfl rfl ?_
      refine AW.goto (t := 53) (dat D_X12_bestOf 27 rfl) rfl ?_
      cases h
      exact AW.to hJ11 (lle_s rfl (lle_s rfl (lle_s rfl (lle_s rfl (lle_n (lle_s rfl (lle_s rfl (lle_z))))))))
def L_X12_ofWave : List (Nat × Instr × Nat) := [(0, .aload_n 0, 1), (1, .getfield 21, 3), (4, .bipush 44, 2), (6, .iconst 5, 1), (7, .iload_n 1, 1), (8, .imul, 1), (9, .iadd, 1), (10, .iload_n 2, 1), (11, .iadd, 1), (12, .iaload, 1), (13, .ireturn, 1)]
theorem D_X12_ofWave : dOK cX12_ofWave L_X12_ofWave = true := by decide +kernel
theorem cf_X12_ofWave : CFV mX12_ofWave 2 := ⟨wI_X12_ofWave, wS_X12_ofWave, wN_WaveRightModel, wC_X12_ofWave, rfl, ⟨by decide +kernel, by decide +kernel, by decide +kernel⟩, le45 rfl⟩
def X12_ofWave (n : Nat) (a0 : Int) (a1 : Int) (σ : SG) : Option (Int) :=
  rdA 144 ((44 + (5 * a0)) + a1) fun j1 =>
  some ((σ 60 j1))
set_option maxHeartbeats 4000000 in
set_option maxRecDepth 100000 in
theorem A_X12_ofWave {Γ : GA} (hΓ : (gl Γ).stackTraces = false) {n : Nat} {a0 : Int} {a1 : Int} {σ : SG} {r : Int}  (h : X12_ofWave n a0 a1 σ = some r) : AM Γ mX12_ofWave 1 0 0 [vR 57, vI a0, vI a1] (85, σ) (0, r) (85, σ) := by
  refine AM.of pl_X12 rfl wC_X12_ofWave (le45 rfl) hΓ ?_
  refine AW.to (ls'' := [some (vR 57), some (vI a0), some (vI a1)]) ?_ (lle_s rfl (lle_s rfl (lle_s rfl (lle_z))))
  unfold X12_ofWave at h
  refine AW.aload_n (n := 1) (dat D_X12_ofWave 0 rfl) rfl rfl ?_
  refine AW.getR (n := 4) (t := 60) fX12_9 wF_X12_21 ly_57 (le45 rfl) rfl (dat D_X12_ofWave 1 rfl) rfl ?_
  refine AW.bipush (n := 6) (dat D_X12_ofWave 2 rfl) rfl (by decide) ?_
  refine AW.iconst (n := 7) (dat D_X12_ofWave 3 rfl) rfl ?_
  refine AW.iload_n (n := 8) (dat D_X12_ofWave 4 rfl) rfl rfl ?_
  refine AW.imul (n := 9) (dat D_X12_ofWave 5 rfl) rfl ?_
  refine AW.iadd (n := 10) (dat D_X12_ofWave 6 rfl) rfl ?_
  refine AW.iload_n (n := 11) (dat D_X12_ofWave 7 rfl) rfl rfl ?_
  refine AW.iadd (n := 12) (dat D_X12_ofWave 8 rfl) rfl ?_
  refine AW.ialdH h (n := 13) rfl ly_60 (le45 rfl) (dat D_X12_ofWave 9 rfl) rfl (fun j1 h => ?_)
  cases h
  exact AW.iret rfl rfl rfl (dat D_X12_ofWave 10 rfl)
def L_X12_scoreBy : List (Nat × Instr × Nat) := [(0, .aload_n 0, 1), (1, .getfield 42, 3), (4, .iconst 0, 1), (5, .aload_n 0, 1), (6, .iload_n 2, 1), (7, .iconst 3, 1), (8, .invokevirtual 333, 3), (11, .iastore, 1), (12, .aload_n 0, 1), (13, .getfield 42, 3), (16, .iconst 1, 1), (17, .aload_n 0, 1), (18, .iload_n 2, 1), (19, .iconst 4, 1), (20, .invokevirtual 333, 3), (23, .iastore, 1), (24, .aload_n 0, 1), (25, .getfield 42, 3), (28, .iconst 2, 1), (29, .iload 4, 2), (31, .iastore, 1), (32, .aload_n 0, 1), (33, .getfield 42, 3), (36, .iconst 3, 1), (37, .iload_n 3, 1), (38, .aload_n 0, 1), (39, .iload_n 2, 1), (40, .iconst 1, 1), (41, .invokevirtual 333, 3), (44, .isub, 1), (45, .invokestatic 336, 3), (48, .iastore, 1), (49, .aload_n 0, 1), (50, .getfield 42, 3), (53, .iconst 4, 1), (54, .iload 5, 2), (56, .iastore, 1), (57, .aload_n 0, 1), (58, .getfield 42, 3), (61, .iconst 5, 1), (62, .aload_n 0, 1), (63, .iload_n 2, 1), (64, .iconst 0, 1), (65, .invokevirtual 333, 3), (68, .aload_n 0, 1), (69, .getfield 340, 3), (72, .isub, 1), (73, .iastore, 1), (74, .aload_n 0, 1), (75, .getfield 42, 3), (78, .bipush 6, 2), (80, .aload_n 0, 1), (81, .getfield 68, 3), (84, .iload_n 1, 1), (85, .iaload, 1), (86, .iastore, 1), (87, .aload_n 0, 1), (88, .getfield 42, 3), (91, .bipush 7, 2), (93, .aload_n 0, 1), (94, .iload_n 1, 1), (95, .iconst 0, 1), (96, .invokevirtual 343, 3), (99, .iastore, 1), (100, .aload_n 0, 1), (101, .invokevirtual 346, 3), (104, .ireturn, 1)]
theorem D_X12_scoreBy : dOK cX12_scoreBy L_X12_scoreBy = true := by decide +kernel
theorem cf_X12_scoreBy : CFV mX12_scoreBy 5 := ⟨wI_X12_scoreBy, wS_X12_scoreBy, wN_WaveRightModel, wC_X12_scoreBy, rfl, ⟨by decide +kernel, by decide +kernel, by decide +kernel⟩, le45 rfl⟩
def X12_scoreBy (n : Nat) (a0 : Int) (a1 : Int) (a2 : Int) (a3 : Int) (a4 : Int) (σ : SG) : Option (Int × SG) :=
  (X12_ofWave n a1 3 σ).bind fun v2 =>
  rdA 8 0 fun j3 => lt (up σ 66 j3 v2) fun σ4 =>
  (X12_ofWave n a1 4 σ4).bind fun v6 =>
  rdA 8 1 fun j7 => lt (up σ4 66 j7 v6) fun σ8 =>
  rdA 8 2 fun j9 => lt (up σ8 66 j9 a3) fun σ10 =>
  (X12_ofWave n a1 1 σ10).bind fun v12 =>
  rdA 8 3 fun j13 => lt (up σ10 66 j13 (ab32 (a2 - v12))) fun σ14 =>
  rdA 8 4 fun j15 => lt (up σ14 66 j15 a4) fun σ16 =>
  (X12_ofWave n a1 0 σ16).bind fun v18 =>
  rdA 8 5 fun j19 => lt (up σ16 66 j19 (v18 - (σ16 57 26))) fun σ20 =>
  rdA 5 a0 fun j21 =>
  rdA 8 6 fun j22 => lt (up σ20 66 j22 (σ20 72 j21)) fun σ23 =>
  (X12_bestOf n a0 0 σ23).bind fun v25 =>
  rdA 8 7 fun j26 => lt (up σ23 66 j26 v25) fun σ27 =>
  bnd2 (X12_scored n σ27) fun v29 σ30 =>
  some ((v29, σ30))
set_option maxHeartbeats 4000000 in
set_option maxRecDepth 100000 in
theorem A_X12_scoreBy {Γ : GA} (hΓ : (gl Γ).stackTraces = false) {n : Nat} {a0 : Int} {a1 : Int} {a2 : Int} {a3 : Int} {a4 : Int} {σ : SG} {r : Int} {τ : SG}  (h : X12_scoreBy n a0 a1 a2 a3 a4 σ = some (r, τ)) : AM Γ mX12_scoreBy 5 0 0 [vR 57, vI a0, vI a1, vI a2, vI a3, vI a4] (85, σ) (0, r) (85, τ) := by
  refine AM.of pl_X12 rfl wC_X12_scoreBy (le45 rfl) hΓ ?_
  refine AW.to (ls'' := [some (vR 57), some (vI a0), some (vI a1), some (vI a2), some (vI a3), some (vI a4)]) ?_ (lle_s rfl (lle_s rfl (lle_s rfl (lle_s rfl (lle_s rfl (lle_s rfl (lle_z)))))))
  unfold X12_scoreBy at h
  refine AW.aload_n (n := 1) (dat D_X12_scoreBy 0 rfl) rfl rfl ?_
  refine AW.getR (n := 4) (t := 66) fX12_22 wF_X12_42 ly_57 (le45 rfl) rfl (dat D_X12_scoreBy 1 rfl) rfl ?_
  refine AW.iconst (n := 5) (dat D_X12_scoreBy 2 rfl) rfl ?_
  refine AW.aload_n (n := 6) (dat D_X12_scoreBy 3 rfl) rfl rfl ?_
  refine AW.iload_n (n := 7) (dat D_X12_scoreBy 4 rfl) rfl rfl ?_
  refine AW.iconst (n := 8) (dat D_X12_scoreBy 5 rfl) rfl ?_
  obtain ⟨v2, hc1, h⟩ := ob_some h
  refine AW.cV (n := 11) (as := [vI a1, vI 3]) (st := [vI 0, vR 66]) (st' := [vI v2, vI 0, vR 66]) (uc' := 0) (us' := 0) (A_X12_ofWave hΓ hc1) cf_X12_ofWave ly_57 (le45 rfl) vc_12 (le45 rfl) wM_X12_333 (le45 rfl) (le45 rfl) (dat D_X12_scoreBy 6 rfl) rfl rfl (le45 rfl) (le45 rfl) rfl (fun _ => ?_) nlt0
  refine AW.iastH h (n := 12) rfl ly_66 (le45 rfl) (dat D_X12_scoreBy 7 rfl) rfl (fun j3 h => ?_)
  refine AW.ltS h (fun σ4 h => ?_)
  refine AW.aload_n (n := 13) (dat D_X12_scoreBy 8 rfl) rfl rfl ?_
  refine AW.getR (n := 16) (t := 66) fX12_22 wF_X12_42 ly_57 (le45 rfl) rfl (dat D_X12_scoreBy 9 rfl) rfl ?_
  refine AW.iconst (n := 17) (dat D_X12_scoreBy 10 rfl) rfl ?_
  refine AW.aload_n (n := 18) (dat D_X12_scoreBy 11 rfl) rfl rfl ?_
  refine AW.iload_n (n := 19) (dat D_X12_scoreBy 12 rfl) rfl rfl ?_
  refine AW.iconst (n := 20) (dat D_X12_scoreBy 13 rfl) rfl ?_
  obtain ⟨v6, hc5, h⟩ := ob_some h
  refine AW.cV (n := 23) (as := [vI a1, vI 4]) (st := [vI 1, vR 66]) (st' := [vI v6, vI 1, vR 66]) (uc' := 0) (us' := 0) (A_X12_ofWave hΓ hc5) cf_X12_ofWave ly_57 (le45 rfl) vc_12 (le45 rfl) wM_X12_333 (le45 rfl) (le45 rfl) (dat D_X12_scoreBy 14 rfl) rfl rfl (le45 rfl) (le45 rfl) rfl (fun _ => ?_) nlt0
  refine AW.iastH h (n := 24) rfl ly_66 (le45 rfl) (dat D_X12_scoreBy 15 rfl) rfl (fun j7 h => ?_)
  refine AW.ltS h (fun σ8 h => ?_)
  refine AW.aload_n (n := 25) (dat D_X12_scoreBy 16 rfl) rfl rfl ?_
  refine AW.getR (n := 28) (t := 66) fX12_22 wF_X12_42 ly_57 (le45 rfl) rfl (dat D_X12_scoreBy 17 rfl) rfl ?_
  refine AW.iconst (n := 29) (dat D_X12_scoreBy 18 rfl) rfl ?_
  refine AW.iload (n := 31) (dat D_X12_scoreBy 19 rfl) rfl rfl ?_
  refine AW.iastH h (n := 32) rfl ly_66 (le45 rfl) (dat D_X12_scoreBy 20 rfl) rfl (fun j9 h => ?_)
  refine AW.ltS h (fun σ10 h => ?_)
  refine AW.aload_n (n := 33) (dat D_X12_scoreBy 21 rfl) rfl rfl ?_
  refine AW.getR (n := 36) (t := 66) fX12_22 wF_X12_42 ly_57 (le45 rfl) rfl (dat D_X12_scoreBy 22 rfl) rfl ?_
  refine AW.iconst (n := 37) (dat D_X12_scoreBy 23 rfl) rfl ?_
  refine AW.iload_n (n := 38) (dat D_X12_scoreBy 24 rfl) rfl rfl ?_
  refine AW.aload_n (n := 39) (dat D_X12_scoreBy 25 rfl) rfl rfl ?_
  refine AW.iload_n (n := 40) (dat D_X12_scoreBy 26 rfl) rfl rfl ?_
  refine AW.iconst (n := 41) (dat D_X12_scoreBy 27 rfl) rfl ?_
  obtain ⟨v12, hc11, h⟩ := ob_some h
  refine AW.cV (n := 44) (as := [vI a1, vI 1]) (st := [vI a2, vI 3, vR 66]) (st' := [vI v12, vI a2, vI 3, vR 66]) (uc' := 0) (us' := 0) (A_X12_ofWave hΓ hc11) cf_X12_ofWave ly_57 (le45 rfl) vc_12 (le45 rfl) wM_X12_333 (le45 rfl) (le45 rfl) (dat D_X12_scoreBy 28 rfl) rfl rfl (le45 rfl) (le45 rfl) rfl (fun _ => ?_) nlt0
  refine AW.isub (n := 45) (dat D_X12_scoreBy 29 rfl) rfl ?_
  refine AW.mabs (n := 48) wM_X12_336 (le45 rfl) (le45 rfl) (dat D_X12_scoreBy 30 rfl) rfl ?_
  refine AW.iastH h (n := 49) rfl ly_66 (le45 rfl) (dat D_X12_scoreBy 31 rfl) rfl (fun j13 h => ?_)
  refine AW.ltS h (fun σ14 h => ?_)
  refine AW.aload_n (n := 50) (dat D_X12_scoreBy 32 rfl) rfl rfl ?_
  refine AW.getR (n := 53) (t := 66) fX12_22 wF_X12_42 ly_57 (le45 rfl) rfl (dat D_X12_scoreBy 33 rfl) rfl ?_
  refine AW.iconst (n := 54) (dat D_X12_scoreBy 34 rfl) rfl ?_
  refine AW.iload (n := 56) (dat D_X12_scoreBy 35 rfl) rfl rfl ?_
  refine AW.iastH h (n := 57) rfl ly_66 (le45 rfl) (dat D_X12_scoreBy 36 rfl) rfl (fun j15 h => ?_)
  refine AW.ltS h (fun σ16 h => ?_)
  refine AW.aload_n (n := 58) (dat D_X12_scoreBy 37 rfl) rfl rfl ?_
  refine AW.getR (n := 61) (t := 66) fX12_22 wF_X12_42 ly_57 (le45 rfl) rfl (dat D_X12_scoreBy 38 rfl) rfl ?_
  refine AW.iconst (n := 62) (dat D_X12_scoreBy 39 rfl) rfl ?_
  refine AW.aload_n (n := 63) (dat D_X12_scoreBy 40 rfl) rfl rfl ?_
  refine AW.iload_n (n := 64) (dat D_X12_scoreBy 41 rfl) rfl rfl ?_
  refine AW.iconst (n := 65) (dat D_X12_scoreBy 42 rfl) rfl ?_
  obtain ⟨v18, hc17, h⟩ := ob_some h
  refine AW.cV (n := 68) (as := [vI a1, vI 0]) (st := [vI 5, vR 66]) (st' := [vI v18, vI 5, vR 66]) (uc' := 0) (us' := 0) (A_X12_ofWave hΓ hc17) cf_X12_ofWave ly_57 (le45 rfl) vc_12 (le45 rfl) wM_X12_333 (le45 rfl) (le45 rfl) (dat D_X12_scoreBy 43 rfl) rfl rfl (le45 rfl) (le45 rfl) rfl (fun _ => ?_) nlt0
  refine AW.aload_n (n := 69) (dat D_X12_scoreBy 44 rfl) rfl rfl ?_
  refine AW.getI (n := 72) fX12_26 wF_X12_340 ly_57 (le45 rfl) rfl rfl (dat D_X12_scoreBy 45 rfl) rfl ?_
  refine AW.isub (n := 73) (dat D_X12_scoreBy 46 rfl) rfl ?_
  refine AW.iastH h (n := 74) rfl ly_66 (le45 rfl) (dat D_X12_scoreBy 47 rfl) rfl (fun j19 h => ?_)
  refine AW.ltS h (fun σ20 h => ?_)
  refine AW.aload_n (n := 75) (dat D_X12_scoreBy 48 rfl) rfl rfl ?_
  refine AW.getR (n := 78) (t := 66) fX12_22 wF_X12_42 ly_57 (le45 rfl) rfl (dat D_X12_scoreBy 49 rfl) rfl ?_
  refine AW.bipush (n := 80) (dat D_X12_scoreBy 50 rfl) rfl (by decide) ?_
  refine AW.aload_n (n := 81) (dat D_X12_scoreBy 51 rfl) rfl rfl ?_
  refine AW.getR (n := 84) (t := 72) fX12_42 wF_X12_68 ly_57 (le45 rfl) rfl (dat D_X12_scoreBy 52 rfl) rfl ?_
  refine AW.iload_n (n := 85) (dat D_X12_scoreBy 53 rfl) rfl rfl ?_
  refine AW.ialdH h (n := 86) rfl ly_72 (le45 rfl) (dat D_X12_scoreBy 54 rfl) rfl (fun j21 h => ?_)
  refine AW.iastH h (n := 87) rfl ly_66 (le45 rfl) (dat D_X12_scoreBy 55 rfl) rfl (fun j22 h => ?_)
  refine AW.ltS h (fun σ23 h => ?_)
  refine AW.aload_n (n := 88) (dat D_X12_scoreBy 56 rfl) rfl rfl ?_
  refine AW.getR (n := 91) (t := 66) fX12_22 wF_X12_42 ly_57 (le45 rfl) rfl (dat D_X12_scoreBy 57 rfl) rfl ?_
  refine AW.bipush (n := 93) (dat D_X12_scoreBy 58 rfl) rfl (by decide) ?_
  refine AW.aload_n (n := 94) (dat D_X12_scoreBy 59 rfl) rfl rfl ?_
  refine AW.iload_n (n := 95) (dat D_X12_scoreBy 60 rfl) rfl rfl ?_
  refine AW.iconst (n := 96) (dat D_X12_scoreBy 61 rfl) rfl ?_
  obtain ⟨v25, hc24, h⟩ := ob_some h
  refine AW.cV (n := 99) (as := [vI a0, vI 0]) (st := [vI 7, vR 66]) (st' := [vI v25, vI 7, vR 66]) (uc' := 0) (us' := 0) (A_X12_bestOf hΓ hc24) cf_X12_bestOf ly_57 (le45 rfl) vc_12 (le45 rfl) wM_X12_343 (le45 rfl) (le45 rfl) (dat D_X12_scoreBy 62 rfl) rfl rfl (le45 rfl) (le45 rfl) rfl (fun _ => ?_) nlt0
  refine AW.iastH h (n := 100) rfl ly_66 (le45 rfl) (dat D_X12_scoreBy 63 rfl) rfl (fun j26 h => ?_)
  refine AW.ltS h (fun σ27 h => ?_)
  refine AW.aload_n (n := 101) (dat D_X12_scoreBy 64 rfl) rfl rfl ?_
  obtain ⟨v29, σ30, hc28, h⟩ := bnd2_some h
  refine AW.cV (n := 104) (as := []) (st := []) (st' := [vI v29]) (uc' := 0) (us' := 0) (A_X12_scored hΓ hc28) cf_X12_scored ly_57 (le45 rfl) vc_12 (le45 rfl) wM_X12_346 (le45 rfl) (le45 rfl) (dat D_X12_scoreBy 65 rfl) rfl rfl (le45 rfl) (le45 rfl) rfl (fun _ => ?_) nlt0
  cases h
  exact AW.iret rfl rfl rfl (dat D_X12_scoreBy 66 rfl)
def L_X12_isSentIn : List (Nat × Instr × Nat) := [(0, .aload_n 0, 1), (1, .getfield 65, 3), (4, .iload_n 1, 1), (5, .iaload, 1), (6, .iconst 1, 1), (7, .if_icmp .le 7, 3), (10, .iconst 1, 1), (11, .goto 4, 3), (14, .iconst 0, 1), (15, .ireturn, 1)]
theorem D_X12_isSentIn : dOK cX12_isSentIn L_X12_isSentIn = true := by decide +kernel
theorem cf_X12_isSentIn : CFV mX12_isSentIn 1 := ⟨wI_X12_isSentIn, wS_X12_isSentIn, wN_WaveRightModel, wC_X12_isSentIn, rfl, ⟨by decide +kernel, by decide +kernel, by decide +kernel⟩, le45 rfl⟩
def X12_isSentIn (n : Nat) (a0 : Int) (σ : SG) : Option (Int) :=
  rdA 5 a0 fun j1 =>
  if w32 (σ 71 j1) ≤ 1 then
    some (0)
  else
    some (1)
set_option maxHeartbeats 4000000 in
set_option maxRecDepth 100000 in
theorem A_X12_isSentIn {Γ : GA} (hΓ : (gl Γ).stackTraces = false) {n : Nat} {a0 : Int} {σ : SG} {r : Int}  (h : X12_isSentIn n a0 σ = some r) : AM Γ mX12_isSentIn 1 0 0 [vR 57, vI a0] (85, σ) (0, r) (85, σ) := by
  refine AM.of pl_X12 rfl wC_X12_isSentIn (le45 rfl) hΓ ?_
  refine AW.to (ls'' := [some (vR 57), some (vI a0)]) ?_ (lle_s rfl (lle_s rfl (lle_z)))
  unfold X12_isSentIn at h
  refine AW.aload_n (n := 1) (dat D_X12_isSentIn 0 rfl) rfl rfl ?_
  refine AW.getR (n := 4) (t := 71) fX12_41 wF_X12_65 ly_57 (le45 rfl) rfl (dat D_X12_isSentIn 1 rfl) rfl ?_
  refine AW.iload_n (n := 5) (dat D_X12_isSentIn 2 rfl) rfl rfl ?_
  refine AW.ialdH h (n := 6) rfl ly_71 (le45 rfl) (dat D_X12_isSentIn 3 rfl) rfl (fun j1 h => ?_)
  refine AW.iconst (n := 7) (dat D_X12_isSentIn 4 rfl) rfl ?_
  refine AW.icmp_leH (t := 14) (n := 10) h (dat D_X12_isSentIn 5 rfl) rfl rfl rfl (by decide) (fun h => ?_) (fun h => ?_)
  · refine AW.iconst (n := 15) (dat D_X12_isSentIn 8 rfl) rfl ?_
    cases h
    exact AW.zret rfl (by decide) rfl rfl (dat D_X12_isSentIn 9 rfl)
  · refine AW.iconst (n := 11) (dat D_X12_isSentIn 6 rfl) rfl ?_
    refine AW.goto (t := 15) (dat D_X12_isSentIn 7 rfl) rfl ?_
    cases h
    exact AW.zret rfl (by decide) rfl rfl (dat D_X12_isSentIn 9 rfl)
def L_X12_hasTaken : List (Nat × Instr × Nat) := [(0, .aload_n 0, 1), (1, .getfield 349, 3), (4, .iload_n 1, 1), (5, .ishr, 1), (6, .iconst 1, 1), (7, .iand, 1), (8, .iconst 1, 1), (9, .if_icmp .ne 7, 3), (12, .iconst 1, 1), (13, .goto 4, 3), (16, .iconst 0, 1), (17, .ireturn, 1)]
theorem D_X12_hasTaken : dOK cX12_hasTaken L_X12_hasTaken = true := by decide +kernel
theorem cf_X12_hasTaken : CFV mX12_hasTaken 1 := ⟨wI_X12_hasTaken, wS_X12_hasTaken, wN_WaveRightModel, wC_X12_hasTaken, rfl, ⟨by decide +kernel, by decide +kernel, by decide +kernel⟩, le45 rfl⟩
def X12_hasTaken (n : Nat) (a0 : Int) (σ : SG) : Option (Int) :=
  if w32 (bAnd (bShr (σ 57 30) a0) 1) = 1 then
    some (1)
  else
    some (0)
set_option maxHeartbeats 4000000 in
set_option maxRecDepth 100000 in
theorem A_X12_hasTaken {Γ : GA} (hΓ : (gl Γ).stackTraces = false) {n : Nat} {a0 : Int} {σ : SG} {r : Int}  (h : X12_hasTaken n a0 σ = some r) : AM Γ mX12_hasTaken 1 0 0 [vR 57, vI a0] (85, σ) (0, r) (85, σ) := by
  refine AM.of pl_X12 rfl wC_X12_hasTaken (le45 rfl) hΓ ?_
  refine AW.to (ls'' := [some (vR 57), some (vI a0)]) ?_ (lle_s rfl (lle_s rfl (lle_z)))
  unfold X12_hasTaken at h
  refine AW.aload_n (n := 1) (dat D_X12_hasTaken 0 rfl) rfl rfl ?_
  refine AW.getI (n := 4) fX12_30 wF_X12_349 ly_57 (le45 rfl) rfl rfl (dat D_X12_hasTaken 1 rfl) rfl ?_
  refine AW.iload_n (n := 5) (dat D_X12_hasTaken 2 rfl) rfl rfl ?_
  refine AW.ishr (n := 6) (dat D_X12_hasTaken 3 rfl) rfl ?_
  refine AW.iconst (n := 7) (dat D_X12_hasTaken 4 rfl) rfl ?_
  refine AW.iand (n := 8) (dat D_X12_hasTaken 5 rfl) rfl ?_
  refine AW.iconst (n := 9) (dat D_X12_hasTaken 6 rfl) rfl ?_
  refine AW.icmp_neH (t := 16) (n := 12) h (dat D_X12_hasTaken 7 rfl) rfl rfl rfl (by decide) (fun h => ?_) (fun h => ?_)
  · refine AW.iconst (n := 13) (dat D_X12_hasTaken 8 rfl) rfl ?_
    refine AW.goto (t := 17) (dat D_X12_hasTaken 9 rfl) rfl ?_
    cases h
    exact AW.zret rfl (by decide) rfl rfl (dat D_X12_hasTaken 11 rfl)
  · refine AW.iconst (n := 17) (dat D_X12_hasTaken 10 rfl) rfl ?_
    cases h
    exact AW.zret rfl (by decide) rfl rfl (dat D_X12_hasTaken 11 rfl)
def L_X12_anew : List (Nat × Instr × Nat) := [(0, .aload_n 0, 1), (1, .iconst 0, 1), (2, .putfield 105, 3), (5, .aload_n 0, 1), (6, .aload_n 0, 1), (7, .getfield 234, 3), (10, .ifCond .ne 7, 3), (13, .iconst 1, 1), (14, .goto 4, 3), (17, .iconst 0, 1), (18, .iconst 1, 1), (19, .invokevirtual 230, 3), (22, .ifCond .eq 5, 3), (25, .iconst 0, 1), (26, .ireturn, 1), (27, .aload_n 0, 1), (28, .invokevirtual 237, 3), (31, .aload_n 0, 1), (32, .invokevirtual 378, 3), (35, .ireturn, 1)]
theorem D_X12_anew : dOK cX12_anew L_X12_anew = true := by decide +kernel
theorem cf_X12_anew : CFV mX12_anew 0 := ⟨wI_X12_anew, wS_X12_anew, wN_WaveRightModel, wC_X12_anew, rfl, ⟨by decide +kernel, by decide +kernel, by decide +kernel⟩, le45 rfl⟩
def X12_anew_j18 (n : Nat) (σ1 : SG) (y2 : Int) : Option (Int × SG) :=
  bnd2 (X12_throwsIf n y2 1 σ1) fun v5 σ6 =>
  if w32 v5 = 0 then
    (X12_beginsHeat n σ6).bind fun σ8 =>
    (X12_surfers n σ8).bind fun v10 =>
    some ((v10, σ8))
  else
    some ((0, σ6))
def X12_anew (n : Nat) (σ : SG) : Option (Int × SG) :=
  lt (up σ 57 0 0) fun σ1 =>
  ((if w32 (σ1 57 11) = 0 then
    some (1)
  else
    some (0)) : Option (Int)).bind (fun s => X12_anew_j18 n σ1 s)
set_option maxHeartbeats 4000000 in
set_option maxRecDepth 100000 in
theorem A_X12_anew {Γ : GA} (hΓ : (gl Γ).stackTraces = false) {n : Nat} {σ : SG} {r : Int} {τ : SG}  (h : X12_anew n σ = some (r, τ)) : AM Γ mX12_anew 3 0 0 [vR 57] (85, σ) (0, r) (85, τ) := by
  refine AM.of pl_X12 rfl wC_X12_anew (le45 rfl) hΓ ?_
  refine AW.to (ls'' := [some (vR 57)]) ?_ (lle_s rfl (lle_z))
  unfold X12_anew at h
  refine AW.aload_n (n := 1) (dat D_X12_anew 0 rfl) rfl rfl ?_
  refine AW.iconst (n := 2) (dat D_X12_anew 1 rfl) rfl ?_
  refine AW.putI (n := 5) fX12_0 wF_X12_105 ly_57 (le45 rfl) rfl rfl rfl (dat D_X12_anew 2 rfl) rfl ?_
  refine AW.ltS h (fun σ1 h => ?_)
  refine AW.aload_n (n := 6) (dat D_X12_anew 3 rfl) rfl rfl ?_
  refine AW.aload_n (n := 7) (dat D_X12_anew 4 rfl) rfl rfl ?_
  refine AW.getI (n := 10) fX12_11 wF_X12_234 ly_57 (le45 rfl) rfl rfl (dat D_X12_anew 5 rfl) rfl ?_
  obtain ⟨s3, h, hq3⟩ := ob_some h
  obtain ⟨y2, e3⟩ : ∃ z, z = s3 := ⟨_, rfl⟩
  subst e3
  have hJ3 : AW Γ mX12_anew 3 (0, r) (85, τ) 0 0 18 [some (vR 57)] [vI y2, vR 57] (85, σ1) := by
    have h : X12_anew_j18 n σ1 y2 = some _ := hq3
    unfold X12_anew_j18 at h
    refine AW.iconst (n := 19) (dat D_X12_anew 10 rfl) rfl ?_
    obtain ⟨v5, σ6, hc4, h⟩ := bnd2_some h
    refine AW.cV (n := 22) (as := [vI y2, vI 1]) (st := []) (st' := [vI v5]) (uc' := 0) (us' := 0) (A_X12_throwsIf hΓ hc4) cf_X12_throwsIf ly_57 (le45 rfl) vc_12 (le45 rfl) wM_X12_230 (le45 rfl) (le45 rfl) (dat D_X12_anew 11 rfl) rfl rfl (le45 rfl) (le45 rfl) rfl (fun _ => ?_) nlt0
    refine AW.if_eqH (t := 27) (n := 25) h (dat D_X12_anew 12 rfl) rfl rfl (fun h => ?_) (fun h => ?_)
    · refine AW.aload_n (n := 28) (dat D_X12_anew 15 rfl) rfl rfl ?_
      obtain ⟨σ8, hc7, h⟩ := ob_some h
      refine AW.cV (n := 31) (as := []) (st := []) (st' := []) (uc' := 0) (us' := 0) (A_X12_beginsHeat hΓ hc7) cf_X12_beginsHeat ly_57 (le45 rfl) vc_12 (le45 rfl) wM_X12_237 (le45 rfl) (le45 rfl) (dat D_X12_anew 16 rfl) rfl rfl (le45 rfl) (le45 rfl) rfl (fun _ => ?_) nlt0
      refine AW.aload_n (n := 32) (dat D_X12_anew 17 rfl) rfl rfl ?_
      obtain ⟨v10, hc9, h⟩ := ob_some h
      refine AW.cV (n := 35) (as := []) (st := []) (st' := [vI v10]) (uc' := 0) (us' := 0) (A_X12_surfers hΓ hc9) cf_X12_surfers ly_57 (le45 rfl) vc_12 (le45 rfl) wM_X12_378 (le45 rfl) (le45 rfl) (dat D_X12_anew 18 rfl) rfl rfl (le45 rfl) (le45 rfl) rfl (fun _ => ?_) nlt0
      cases h
      exact AW.iret rfl rfl rfl (dat D_X12_anew 19 rfl)
    · refine AW.iconst (n := 26) (dat D_X12_anew 13 rfl) rfl ?_
      cases h
      exact AW.iret rfl rfl rfl (dat D_X12_anew 14 rfl)
  refine AW.if_neH (t := 17) (n := 13) h (dat D_X12_anew 6 rfl) rfl rfl (fun h => ?_) (fun h => ?_)
  · refine AW.iconst (n := 14) (dat D_X12_anew 7 rfl) rfl ?_
    refine AW.goto (t := 18) (dat D_X12_anew 8 rfl) rfl ?_
    cases h
    exact AW.to hJ3 (lle_s rfl (lle_z))
  · refine AW.iconst (n := 18) (dat D_X12_anew 9 rfl) rfl ?_
    cases h
    exact AW.to hJ3 (lle_s rfl (lle_z))
def L_X12_inRow : List (Nat × Instr × Nat) := [(0, .iconst 0, 1), (1, .istore_n 2, 1), (2, .iload_n 2, 1), (3, .aload_n 0, 1), (4, .getfield 369, 3), (7, .if_icmp .ge 21, 3), (10, .aload_n 0, 1), (11, .getfield 80, 3), (14, .iload_n 2, 1), (15, .iaload, 1), (16, .iload_n 1, 1), (17, .if_icmp .ne 5, 3), (20, .iload_n 2, 1), (21, .ireturn, 1), (22, .iinc 2 1, 3), (25, .goto (-23), 3), (28, .iconst (-1), 1), (29, .ireturn, 1)]
theorem D_X12_inRow : dOK cX12_inRow L_X12_inRow = true := by decide +kernel
theorem cf_X12_inRow : CFV mX12_inRow 1 := ⟨wI_X12_inRow, wS_X12_inRow, wN_WaveRightModel, wC_X12_inRow, rfl, ⟨by decide +kernel, by decide +kernel, by decide +kernel⟩, le45 rfl⟩
def X12_inRow_e2 (n : Nat) : Option (Int) :=
  some ((-1))
def X12_inRow_l2 (n : Nat) (σ : SG) (a0 : Int) (z1 : Int) : Option ((Int) ⊕ ((Unit) ⊕ (Int))) :=
  if w32 (σ 57 34) ≤ w32 z1 then
    some (.inr (.inl ()))
  else
    rdA 5 z1 fun j3 =>
    if w32 (σ 76 j3) = w32 a0 then
      some (.inr (.inr z1))
    else
      lt (z1 + 1) fun x4 =>
      some (.inl x4)
def X12_inRow (n : Nat) (a0 : Int) (σ : SG) : Option (Int) :=
  ((iter n (fun s : Int => X12_inRow_l2 n σ a0 s) 0) : Option ((Unit) ⊕ (Int))).bind (orr (fun s => X12_inRow_e2 n))
set_option maxHeartbeats 4000000 in
set_option maxRecDepth 100000 in
theorem A_X12_inRow {Γ : GA} (hΓ : (gl Γ).stackTraces = false) {n : Nat} {a0 : Int} {σ : SG} {r : Int}  (h : X12_inRow n a0 σ = some r) : AM Γ mX12_inRow 1 0 0 [vR 57, vI a0] (85, σ) (0, r) (85, σ) := by
  refine AM.of pl_X12 rfl wC_X12_inRow (le45 rfl) hΓ ?_
  refine AW.to (ls'' := [some (vR 57), some (vI a0), none]) ?_ (lle_s rfl (lle_s rfl (lle_e (lle_z))))
  unfold X12_inRow at h
  refine AW.iconst (n := 1) (dat D_X12_inRow 0 rfl) rfl ?_
  refine AW.istore_n (n := 2) (ls' := [some (vR 57), some (vI a0), some (vI 0)]) (dat D_X12_inRow 1 rfl) rfl (le45 rfl) (le45 rfl) rfl rfl ?_
  obtain ⟨b2, hi2, hq2⟩ := ob_some h
  have hR2 : ∀ (_ : Unit), b2 = .inl () → AW Γ mX12_inRow 1 (0, r) (85, σ) 0 0 28 [none, none, none] [] (85, σ) := by
    intro _ e
    subst e
    have h : X12_inRow_e2 n = some _ := hq2
    unfold X12_inRow_e2 at h
    refine AW.iconst (n := 29) (dat D_X12_inRow 16 rfl) rfl ?_
    cases h
    exact AW.iret rfl rfl rfl (dat D_X12_inRow 17 rfl)
  refine AW.to (ls'' := [some (vR 57), some (vI a0), some (vI 0)]) ?_ (lle_s rfl (lle_s rfl (lle_s rfl (lle_z))))
  refine aw_iter (fun s : Int => AW Γ mX12_inRow 1 (0, r) (85, σ) 0 0 2 [some (vR 57), some (vI a0), some (vI s)] [] (85, σ)) (fun s y h hk2 hb2 => ?_) _ _ hi2
  obtain ⟨z1, e2⟩ : ∃ z, z = s := ⟨_, rfl⟩
  subst e2
  show AW Γ mX12_inRow 1 (0, r) (85, σ) 0 0 2 [some (vR 57), some (vI a0), some (vI z1)] [] (85, σ)
  have h : X12_inRow_l2 n σ a0 z1 = some y := h
  unfold X12_inRow_l2 at h
  refine AW.iload_n (n := 3) (dat D_X12_inRow 2 rfl) rfl rfl ?_
  refine AW.aload_n (n := 4) (dat D_X12_inRow 3 rfl) rfl rfl ?_
  refine AW.getI (n := 7) fX12_34 wF_X12_369 ly_57 (le45 rfl) rfl rfl (dat D_X12_inRow 4 rfl) rfl ?_
  refine AW.icmp_geH (t := 28) (n := 10) h (dat D_X12_inRow 5 rfl) rfl rfl rfl rfl (fun h => ?_) (fun h => ?_)
  · cases h
    have hb := hb2 _ rfl
    exact AW.to (hR2 () hb.symm) (lle_n (lle_n (lle_n (lle_z))))
  · refine AW.aload_n (n := 11) (dat D_X12_inRow 6 rfl) rfl rfl ?_
    refine AW.getR (n := 14) (t := 76) fX12_46 wF_X12_80 ly_57 (le45 rfl) rfl (dat D_X12_inRow 7 rfl) rfl ?_
    refine AW.iload_n (n := 15) (dat D_X12_inRow 8 rfl) rfl rfl ?_
    refine AW.ialdH h (n := 16) rfl ly_76 (le45 rfl) (dat D_X12_inRow 9 rfl) rfl (fun j3 h => ?_)
    refine AW.iload_n (n := 17) (dat D_X12_inRow 10 rfl) rfl rfl ?_
    refine AW.icmp_neH (t := 22) (n := 20) h (dat D_X12_inRow 11 rfl) rfl rfl rfl rfl (fun h => ?_) (fun h => ?_)
    · refine AW.iload_n (n := 21) (dat D_X12_inRow 12 rfl) rfl rfl ?_
      cases h
      have hb := hb2 _ rfl
      subst hb
      have h := hq2
      have h : some _ = some _ := h
      cases h
      exact AW.iret rfl rfl rfl (dat D_X12_inRow 13 rfl)
    · refine AW.iincH h (n := 25) (dat D_X12_inRow 14 rfl) rfl rfl (le45 rfl) rfl (fun x4 h => ?_)
      refine AW.lq (ls' := [some (vR 57), some (vI a0), some (vI x4)]) rfl ?_
      refine AW.goto (t := 2) (dat D_X12_inRow 15 rfl) rfl ?_
      cases h
      exact AW.to (hk2 _ rfl) (lle_s rfl (lle_s rfl (lle_s rfl (lle_z))))
def L_X12_offPeak : List (Nat × Instr × Nat) := [(0, .aload_n 0, 1), (1, .getfield 56, 3), (4, .iload_n 1, 1), (5, .iaload, 1), (6, .aload_n 0, 1), (7, .aload_n 0, 1), (8, .getfield 49, 3), (11, .iconst 1, 1), (12, .invokevirtual 333, 3), (15, .isub, 1), (16, .invokestatic 336, 3), (19, .ireturn, 1)]
theorem D_X12_offPeak : dOK cX12_offPeak L_X12_offPeak = true := by decide +kernel
theorem cf_X12_offPeak : CFV mX12_offPeak 1 := ⟨wI_X12_offPeak, wS_X12_offPeak, wN_WaveRightModel, wC_X12_offPeak, rfl, ⟨by decide +kernel, by decide +kernel, by decide +kernel⟩, le45 rfl⟩
def X12_offPeak (n : Nat) (a0 : Int) (σ : SG) : Option (Int) :=
  rdA 5 a0 fun j1 =>
  (X12_ofWave n (σ 57 27) 1 σ).bind fun v3 =>
  some ((ab32 ((σ 68 j1) - v3)))
set_option maxHeartbeats 4000000 in
set_option maxRecDepth 100000 in
theorem A_X12_offPeak {Γ : GA} (hΓ : (gl Γ).stackTraces = false) {n : Nat} {a0 : Int} {σ : SG} {r : Int}  (h : X12_offPeak n a0 σ = some r) : AM Γ mX12_offPeak 2 0 0 [vR 57, vI a0] (85, σ) (0, r) (85, σ) := by
  refine AM.of pl_X12 rfl wC_X12_offPeak (le45 rfl) hΓ ?_
  refine AW.to (ls'' := [some (vR 57), some (vI a0)]) ?_ (lle_s rfl (lle_s rfl (lle_z)))
  unfold X12_offPeak at h
  refine AW.aload_n (n := 1) (dat D_X12_offPeak 0 rfl) rfl rfl ?_
  refine AW.getR (n := 4) (t := 68) fX12_38 wF_X12_56 ly_57 (le45 rfl) rfl (dat D_X12_offPeak 1 rfl) rfl ?_
  refine AW.iload_n (n := 5) (dat D_X12_offPeak 2 rfl) rfl rfl ?_
  refine AW.ialdH h (n := 6) rfl ly_68 (le45 rfl) (dat D_X12_offPeak 3 rfl) rfl (fun j1 h => ?_)
  refine AW.aload_n (n := 7) (dat D_X12_offPeak 4 rfl) rfl rfl ?_
  refine AW.aload_n (n := 8) (dat D_X12_offPeak 5 rfl) rfl rfl ?_
  refine AW.getI (n := 11) fX12_27 wF_X12_49 ly_57 (le45 rfl) rfl rfl (dat D_X12_offPeak 6 rfl) rfl ?_
  refine AW.iconst (n := 12) (dat D_X12_offPeak 7 rfl) rfl ?_
  obtain ⟨v3, hc2, h⟩ := ob_some h
  refine AW.cV (n := 15) (as := [vI (σ 57 27), vI 1]) (st := [vI (σ 68 j1)]) (st' := [vI v3, vI (σ 68 j1)]) (uc' := 0) (us' := 0) (A_X12_ofWave hΓ hc2) cf_X12_ofWave ly_57 (le45 rfl) vc_12 (le45 rfl) wM_X12_333 (le45 rfl) (le45 rfl) (dat D_X12_offPeak 8 rfl) rfl rfl (le45 rfl) (le45 rfl) rfl (fun _ => ?_) nlt0
  refine AW.isub (n := 16) (dat D_X12_offPeak 9 rfl) rfl ?_
  refine AW.mabs (n := 19) wM_X12_336 (le45 rfl) (le45 rfl) (dat D_X12_offPeak 10 rfl) rfl ?_
  cases h
  exact AW.iret rfl rfl rfl (dat D_X12_offPeak 11 rfl)
