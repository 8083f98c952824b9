/-! ===== methods as functions, and their bytecode beside them (printed by wip/whole/gen/emit.py) ===== -/
def L_X8_rankWith : List (Nat × Instr × Nat) := [(0, .aload_n 0, 1), (1, .aload_n 1, 1), (2, .iload_n 2, 1), (3, .iconst 0, 1), (4, .invokevirtual 36, 3), (7, .istore_n 3, 1), (8, .aload_n 1, 1), (9, .getfield 24, 3), (12, .iload_n 2, 1), (13, .invokestatic 15, 3), (16, .istore 4, 2), (18, .iconst 0, 1), (19, .istore 5, 2), (21, .iconst 0, 1), (22, .istore 6, 2), (24, .iload 6, 2), (26, .aload_n 0, 1), (27, .getfield 9, 3), (30, .getfield 40, 3), (33, .getfield 46, 3), (36, .if_icmp .ge 112, 3), (39, .aload_n 0, 1), (40, .getfield 9, 3), (43, .getfield 51, 3), (46, .iload 6, 2), (48, .aaload, 1), (49, .astore 7, 2), (51, .aload_n 0, 1), (52, .aload 7, 2), (54, .iconst 0, 1), (55, .iconst 0, 1), (56, .invokevirtual 36, 3), (59, .istore 8, 2), (61, .iload 8, 2), (63, .iload_n 3, 1), (64, .if_icmp .eq 17, 3), (67, .iload 8, 2), (69, .iload_n 3, 1), (70, .if_icmp .le 7, 3), (73, .iconst 1, 1), (74, .goto 49, 3), (77, .iconst 0, 1), (78, .goto 45, 3), (81, .aload 7, 2), (83, .getfield 24, 3), (86, .iload 4, 2), (88, .if_icmp .eq 21, 3), (91, .aload 7, 2), (93, .getfield 24, 3), (96, .iload 4, 2), (98, .if_icmp .le 7, 3), (101, .iconst 1, 1), (102, .goto 21, 3), (105, .iconst 0, 1), (106, .goto 17, 3), (109, .iload 6, 2), (111, .aload_n 1, 1), (112, .getfield 55, 3), (115, .if_icmp .ge 7, 3), (118, .iconst 1, 1), (119, .goto 4, 3), (122, .iconst 0, 1), (123, .istore 9, 2), (125, .iload 6, 2), (127, .aload_n 1, 1), (128, .getfield 55, 3), (131, .if_icmp .eq 11, 3), (134, .iload 9, 2), (136, .ifCond .eq 6, 3), (139, .iinc 5 1, 3), (142, .iinc 6 1, 3), (145, .goto (-121), 3), (148, .iload 5, 2), (150, .ireturn, 1)]
theorem D_X8_rankWith : dOK cX8_rankWith L_X8_rankWith = true := by decide +kernel
theorem cf_X8_rankWith : CFV mX8_rankWith 2 := ⟨wI_X8_rankWith, wS_X8_rankWith, wN_WaveRight_Standing, wC_X8_rankWith, rfl, ⟨by decide +kernel, by decide +kernel, by decide +kernel⟩, le45 rfl⟩
def X8_rankWith_e24 (n : Nat) (e7 : Int) : Option (Int) :=
  some (e7)
def X8_rankWith_j142 (n : Nat) (z5 : Int) (y15 : Int) : Option ((Int × Int) ⊕ (Int)) :=
  lt (z5 + 1) fun x17 =>
  some (.inl (y15, x17))
def X8_rankWith_j123 (n : Nat) (z5 : Int) (σ : SG) (a0 : Nat) (z4 : Int) (y13 : Int) : Option ((Int × Int) ⊕ (Int)) :=
  ((if w32 z5 = w32 (σ a0 0) then
    some (z4)
  else
    if w32 y13 = 0 then
      some (z4)
    else
      lt (z4 + 1) fun x18 =>
      some (x18)) : Option (Int)).bind (fun s => X8_rankWith_j142 n z5 s)
def X8_rankWith_l24 (n : Nat) (σ : SG) (v2 : Int) (x3 : Int) (a0 : Nat) (z4 : Int) (z5 : Int) : Option ((Int × Int) ⊕ (Int)) :=
  ckR isSea (σ 19 0) fun k8 =>
  if w32 (σ k8 5) ≤ w32 z5 then
    some (.inr z4)
  else
    rdA 5 z5 fun j9 => ckR isSw (σ 34 j9) fun k10 =>
    (X8_totalWith n k10 0 0 σ).bind fun v12 =>
    ((if w32 v12 = w32 v2 then
      if w32 (σ k10 10) = w32 x3 then
        if w32 (σ a0 0) ≤ w32 z5 then
          some (0)
        else
          some (1)
      else
        if w32 (σ k10 10) ≤ w32 x3 then
          some (0)
        else
          some (1)
    else
      if w32 v12 ≤ w32 v2 then
        some (0)
      else
        some (1)) : Option (Int)).bind (fun s => X8_rankWith_j123 n z5 σ a0 z4 s)
def X8_rankWith (n : Nat) (a0 : Nat) (a1 : Int) (σ : SG) : Option (Int) :=
  (X8_totalWith n a0 a1 0 σ).bind fun v2 =>
  lt (mx32 (σ a0 10) a1) fun x3 =>
  ((iter n (fun s : Int × Int => X8_rankWith_l24 n σ v2 x3 a0 s.1 s.2) (0, 0)) : Option (Int)).bind (fun s => X8_rankWith_e24 n s)
set_option maxHeartbeats 4000000 in
set_option maxRecDepth 100000 in
theorem A_X8_rankWith {Γ : GA} (hΓ : (gl Γ).stackTraces = false) {n : Nat} {a0 : Nat} {a1 : Int} {σ : SG} {r : Int} (hpa0 : isSw a0 = true) (h : X8_rankWith n a0 a1 σ = some r) : AM Γ mX8_rankWith 3 0 0 [vR 49, vR a0, vI a1] (85, σ) (0, r) (85, σ) := by
  refine AM.of pl_X8 rfl wC_X8_rankWith (le45 rfl) hΓ ?_
  refine AW.to (ls'' := [some (vR 49), some (vR a0), some (vI a1), none, none, none, none, none, none, none]) ?_ (lle_s rfl (lle_s rfl (lle_s rfl (lle_e (lle_e (lle_e (lle_e (lle_e (lle_e (lle_e (lle_z)))))))))))
  unfold X8_rankWith at h
  refine AW.aload_n (n := 1) (dat D_X8_rankWith 0 rfl) rfl rfl ?_
  refine AW.aload_n (n := 2) (dat D_X8_rankWith 1 rfl) rfl rfl ?_
  refine AW.iload_n (n := 3) (dat D_X8_rankWith 2 rfl) rfl rfl ?_
  refine AW.iconst (n := 4) (dat D_X8_rankWith 3 rfl) rfl ?_
  obtain ⟨v2, hc1, h⟩ := ob_some h
  refine AW.cV (n := 7) (as := [vR a0, vI a1, vI 0]) (st := []) (st' := [vI v2]) (uc' := 0) (us' := 0) (A_X8_totalWith hΓ hpa0 hc1) cf_X8_totalWith ly_49 (le45 rfl) vc_8 (le45 rfl) wM_X8_36 (le45 rfl) (le45 rfl) (dat D_X8_rankWith 4 rfl) rfl rfl (le45 rfl) (le45 rfl) rfl (fun _ => ?_) nlt0
  refine AW.istore_n (n := 8) (ls' := [some (vR 49), some (vR a0), some (vI a1), some (vI v2), none, none, none, none, none, none]) (dat D_X8_rankWith 5 rfl) rfl (le45 rfl) (le45 rfl) rfl rfl ?_
  refine AW.aload_n (n := 9) (dat D_X8_rankWith 6 rfl) rfl rfl ?_
  refine AW.getI (n := 12) fX9_10 wF_X8_24 (isSw_ly0 hpa0) (by have := isSw_lt hpa0; omega) rfl rfl (dat D_X8_rankWith 7 rfl) rfl ?_
  refine AW.iload_n (n := 13) (dat D_X8_rankWith 8 rfl) rfl rfl ?_
  refine AW.mmax (n := 16) wM_X8_15 (le45 rfl) (le45 rfl) (dat D_X8_rankWith 9 rfl) rfl ?_
  refine AW.ltI h (fun x3 h => ?_)
  refine AW.istore (n := 18) (ls' := [some (vR 49), some (vR a0), some (vI a1), some (vI v2), some (vI x3), none, none, none, none, none]) (dat D_X8_rankWith 10 rfl) rfl (le45 rfl) (le45 rfl) rfl rfl ?_
  refine AW.iconst (n := 19) (dat D_X8_rankWith 11 rfl) rfl ?_
  refine AW.istore (n := 21) (ls' := [some (vR 49), some (vR a0), some (vI a1), some (vI v2), some (vI x3), some (vI 0), none, none, none, none]) (dat D_X8_rankWith 12 rfl) rfl (le45 rfl) (le45 rfl) rfl rfl ?_
  refine AW.iconst (n := 22) (dat D_X8_rankWith 13 rfl) rfl ?_
  refine AW.istore (n := 24) (ls' := [some (vR 49), some (vR a0), some (vI a1), some (vI v2), some (vI x3), some (vI 0), some (vI 0), none, none, none]) (dat D_X8_rankWith 14 rfl) rfl (le45 rfl) (le45 rfl) rfl rfl ?_
  obtain ⟨b6, hi6, hq6⟩ := ob_some h
  obtain ⟨e7, e6⟩ : ∃ z, z = b6 := ⟨_, rfl⟩
  subst e6
  have hR6 : AW Γ mX8_rankWith 3 (0, r) (85, σ) 0 0 148 [none, none, none, none, none, some (vI e7), none, none, none, none] [] (85, σ) := by
    have h : X8_rankWith_e24 n e7 = some _ := hq6
    unfold X8_rankWith_e24 at h
    refine AW.iload (n := 150) (dat D_X8_rankWith 72 rfl) rfl rfl ?_
    cases h
    exact AW.iret rfl rfl rfl (dat D_X8_rankWith 73 rfl)
  refine AW.to (ls'' := [some (vR 49), some (vR a0), none, some (vI v2), some (vI x3), some (vI 0), some (vI 0), none, none, none]) ?_ (lle_s rfl (lle_s rfl (lle_n (lle_s rfl (lle_s rfl (lle_s rfl (lle_s rfl (lle_n (lle_n (lle_n (lle_z)))))))))))
  refine aw_iter (fun s : Int × Int => AW Γ mX8_rankWith 3 (0, r) (85, σ) 0 0 24 [some (vR 49), some (vR a0), none, some (vI v2), some (vI x3), some (vI (s.1)), some (vI (s.2)), none, none, none] [] (85, σ)) (fun s y h hk6 hb6 => ?_) _ _ hi6
  obtain ⟨z4, z5⟩ := s
  show AW Γ mX8_rankWith 3 (0, r) (85, σ) 0 0 24 [some (vR 49), some (vR a0), none, some (vI v2), some (vI x3), some (vI z4), some (vI z5), none, none, none] [] (85, σ)
  have h : X8_rankWith_l24 n σ v2 x3 a0 z4 z5 = some y := h
  unfold X8_rankWith_l24 at h
  refine AW.iload (n := 26) (dat D_X8_rankWith 15 rfl) rfl rfl ?_
  refine AW.aload_n (n := 27) (dat D_X8_rankWith 16 rfl) rfl rfl ?_
  refine AW.getR (n := 30) (t := 19) fX8_0 wF_X8_9 ly_49 (le45 rfl) rfl (dat D_X8_rankWith 17 rfl) rfl ?_
  refine AW.getQH h (n := 33) fX1_0 wF_X8_40 ly_19 (le45 rfl) rfl rfl (dat D_X8_rankWith 18 rfl) rfl (fun k8 hpk8 h => ?_)
  refine AW.getI (n := 36) fX6_5 wF_X8_46 (isSea_ly0 hpk8) (by have := isSea_lt hpk8; omega) rfl rfl (dat D_X8_rankWith 19 rfl) rfl ?_
  refine AW.icmp_geH (t := 148) (n := 39) h (dat D_X8_rankWith 20 rfl) rfl rfl rfl rfl (fun h => ?_) (fun h => ?_)
  · cases h
    have hb := hb6 _ rfl
    cases hb
    exact AW.to hR6 (lle_n (lle_n (lle_n (lle_n (lle_n (lle_s rfl (lle_n (lle_n (lle_n (lle_n (lle_z)))))))))))
  · refine AW.aload_n (n := 40) (dat D_X8_rankWith 21 rfl) rfl rfl ?_
    refine AW.getR (n := 43) (t := 19) fX8_0 wF_X8_9 ly_49 (le45 rfl) rfl (dat D_X8_rankWith 22 rfl) rfl ?_
    refine AW.getR (n := 46) (t := 34) fX1_2 wF_X8_51 ly_19 (le45 rfl) rfl (dat D_X8_rankWith 23 rfl) rfl ?_
    refine AW.iload (n := 48) (dat D_X8_rankWith 24 rfl) rfl rfl ?_
    refine AW.aaldH h (n := 49) rfl ly_34 (le45 rfl) (dat D_X8_rankWith 25 rfl) rfl (fun j9 k10 hpk10 h => ?_)
    refine AW.astore (n := 51) (ls' := [some (vR 49), some (vR a0), none, some (vI v2), some (vI x3), some (vI z4), some (vI z5), some (vR k10), none, none]) (dat D_X8_rankWith 26 rfl) rfl (le45 rfl) (le45 rfl) rfl rfl ?_
    refine AW.aload_n (n := 52) (dat D_X8_rankWith 27 rfl) rfl rfl ?_
    refine AW.aload (n := 54) (dat D_X8_rankWith 28 rfl) rfl rfl ?_
    refine AW.iconst (n := 55) (dat D_X8_rankWith 29 rfl) rfl ?_
    refine AW.iconst (n := 56) (dat D_X8_rankWith 30 rfl) rfl ?_
    obtain ⟨v12, hc11, h⟩ := ob_some h
    refine AW.cV (n := 59) (as := [vR k10, vI 0, vI 0]) (st := []) (st' := [vI v12]) (uc' := 0) (us' := 0) (A_X8_totalWith hΓ hpk10 hc11) cf_X8_totalWith ly_49 (le45 rfl) vc_8 (le45 rfl) wM_X8_36 (le45 rfl) (le45 rfl) (dat D_X8_rankWith 31 rfl) rfl rfl (le45 rfl) (le45 rfl) rfl (fun _ => ?_) nlt0
    refine AW.istore (n := 61) (ls' := [some (vR 49), some (vR a0), none, some (vI v2), some (vI x3), some (vI z4), some (vI z5), some (vR k10), some (vI v12), none]) (dat D_X8_rankWith 32 rfl) rfl (le45 rfl) (le45 rfl) rfl rfl ?_
    refine AW.iload (n := 63) (dat D_X8_rankWith 33 rfl) rfl rfl ?_
    refine AW.iload_n (n := 64) (dat D_X8_rankWith 34 rfl) rfl rfl ?_
    obtain ⟨s14, h, hq14⟩ := ob_some h
    obtain ⟨y13, e14⟩ : ∃ z, z = s14 := ⟨_, rfl⟩
    subst e14
    have hJ14 : AW Γ mX8_rankWith 3 (0, r) (85, σ) 0 0 123 [some (vR 49), some (vR a0), none, some (vI v2), some (vI x3), some (vI z4), some (vI z5), none, none, none] [vI y13] (85, σ) := by
      have h : X8_rankWith_j123 n z5 σ a0 z4 y13 = some _ := hq14
      unfold X8_rankWith_j123 at h
      refine AW.istore (n := 125) (ls' := [some (vR 49), some (vR a0), none, some (vI v2), some (vI x3), some (vI z4), some (vI z5), none, none, some (vI y13)]) (dat D_X8_rankWith 62 rfl) rfl (le45 rfl) (le45 rfl) rfl rfl ?_
      refine AW.iload (n := 127) (dat D_X8_rankWith 63 rfl) rfl rfl ?_
      refine AW.aload_n (n := 128) (dat D_X8_rankWith 64 rfl) rfl rfl ?_
      refine AW.getI (n := 131) fX9_0 wF_X8_55 (isSw_ly0 hpa0) (by have := isSw_lt hpa0; omega) rfl rfl (dat D_X8_rankWith 65 rfl) rfl ?_
      obtain ⟨s16, h, hq16⟩ := ob_some h
      obtain ⟨y15, e16⟩ : ∃ z, z = s16 := ⟨_, rfl⟩
      subst e16
      have hJ16 : AW Γ mX8_rankWith 3 (0, r) (85, σ) 0 0 142 [some (vR 49), some (vR a0), none, some (vI v2), some (vI x3), some (vI y15), some (vI z5), none, none, none] [] (85, σ) := by
        have h : X8_rankWith_j142 n z5 y15 = some _ := hq16
        unfold X8_rankWith_j142 at h
        refine AW.iincH h (n := 145) (dat D_X8_rankWith 70 rfl) rfl rfl (le45 rfl) rfl (fun x17 h => ?_)
        refine AW.lq (ls' := [some (vR 49), some (vR a0), none, some (vI v2), some (vI x3), some (vI y15), some (vI x17), none, none, none]) rfl ?_
        refine AW.goto (t := 24) (dat D_X8_rankWith 71 rfl) rfl ?_
        cases h
        exact AW.to (hk6 _ rfl) (lle_s rfl (lle_s rfl (lle_n (lle_s rfl (lle_s rfl (lle_s rfl (lle_s rfl (lle_n (lle_n (lle_n (lle_z)))))))))))
      refine AW.icmp_eqH (t := 142) (n := 134) h (dat D_X8_rankWith 66 rfl) rfl rfl rfl rfl (fun h => ?_) (fun h => ?_)
      · cases h
        exact AW.to hJ16 (lle_s rfl (lle_s rfl (lle_n (lle_s rfl (lle_s rfl (lle_s rfl (lle_s rfl (lle_n (lle_n (lle_n (lle_z)))))))))))
      · refine AW.iload (n := 136) (dat D_X8_rankWith 67 rfl) rfl rfl ?_
        refine AW.if_eqH (t := 142) (n := 139) h (dat D_X8_rankWith 68 rfl) rfl rfl (fun h => ?_) (fun h => ?_)
        · cases h
          exact AW.to hJ16 (lle_s rfl (lle_s rfl (lle_n (lle_s rfl (lle_s rfl (lle_s rfl (lle_s rfl (lle_n (lle_n (lle_n (lle_z)))))))))))
        · refine AW.iincH h (n := 142) (dat D_X8_rankWith 69 rfl) rfl rfl (le45 rfl) rfl (fun x18 h => ?_)
          refine AW.lq (ls' := [some (vR 49), some (vR a0), none, some (vI v2), some (vI x3), some (vI x18), some (vI z5), none, none, some (vI y13)]) rfl ?_
          cases h
          exact AW.to hJ16 (lle_s rfl (lle_s rfl (lle_n (lle_s rfl (lle_s rfl (lle_s rfl (lle_s rfl (lle_n (lle_n (lle_n (lle_z)))))))))))
    refine AW.icmp_eqH (t := 81) (n := 67) h (dat D_X8_rankWith 35 rfl) rfl rfl rfl rfl (fun h => ?_) (fun h => ?_)
    · refine AW.aload (n := 83) (dat D_X8_rankWith 43 rfl) rfl rfl ?_
      refine AW.getI (n := 86) fX9_10 wF_X8_24 (isSw_ly0 hpk10) (by have := isSw_lt hpk10; omega) rfl rfl (dat D_X8_rankWith 44 rfl) rfl ?_
      refine AW.iload (n := 88) (dat D_X8_rankWith 45 rfl) rfl rfl ?_
      refine AW.icmp_eqH (t := 109) (n := 91) h (dat D_X8_rankWith 46 rfl) rfl rfl rfl rfl (fun h => ?_) (fun h => ?_)
      · refine AW.iload (n := 111) (dat D_X8_rankWith 55 rfl) rfl rfl ?_
        refine AW.aload_n (n := 112) (dat D_X8_rankWith 56 rfl) rfl rfl ?_
        refine AW.getI (n := 115) fX9_0 wF_X8_55 (isSw_ly0 hpa0) (by have := isSw_lt hpa0; omega) rfl rfl (dat D_X8_rankWith 57 rfl) rfl ?_
        refine AW.icmp_geH (t := 122) (n := 118) h (dat D_X8_rankWith 58 rfl) rfl rfl rfl rfl (fun h => ?_) (fun h => ?_)
        · refine AW.iconst (n := 123) (dat D_X8_rankWith 61 rfl) rfl ?_
          cases h
          exact AW.to hJ14 (lle_s rfl (lle_s rfl (lle_n (lle_s rfl (lle_s rfl (lle_s rfl (lle_s rfl (lle_n (lle_n (lle_n (lle_z)))))))))))
        · refine AW.iconst (n := 119) (dat D_X8_rankWith 59 rfl) rfl ?_
          refine AW.goto (t := 123) (dat D_X8_rankWith 60 rfl) rfl ?_
          cases h
          exact AW.to hJ14 (lle_s rfl (lle_s rfl (lle_n (lle_s rfl (lle_s rfl (lle_s rfl (lle_s rfl (lle_n (lle_n (lle_n (lle_z)))))))))))
      · refine AW.aload (n := 93) (dat D_X8_rankWith 47 rfl) rfl rfl ?_
        refine AW.getI (n := 96) fX9_10 wF_X8_24 (isSw_ly0 hpk10) (by have := isSw_lt hpk10; omega) rfl rfl (dat D_X8_rankWith 48 rfl) rfl ?_
        refine AW.iload (n := 98) (dat D_X8_rankWith 49 rfl) rfl rfl ?_
        refine AW.icmp_leH (t := 105) (n := 101) h (dat D_X8_rankWith 50 rfl) rfl rfl rfl rfl (fun h => ?_) (fun h => ?_)
        · refine AW.iconst (n := 106) (dat D_X8_rankWith 53 rfl) rfl ?_
          refine AW.goto (t := 123) (dat D_X8_rankWith 54 rfl) rfl ?_
          cases h
          exact AW.to hJ14 (lle_s rfl (lle_s rfl (lle_n (lle_s rfl (lle_s rfl (lle_s rfl (lle_s rfl (lle_n (lle_n (lle_n (lle_z)))))))))))
        · refine AW.iconst (n := 102) (dat D_X8_rankWith 51 rfl) rfl ?_
          refine AW.goto (t := 123) (dat D_X8_rankWith 52 rfl) rfl ?_
          cases h
          exact AW.to hJ14 (lle_s rfl (lle_s rfl (lle_n (lle_s rfl (lle_s rfl (lle_s rfl (lle_s rfl (lle_n (lle_n (lle_n (lle_z)))))))))))
    · refine AW.iload (n := 69) (dat D_X8_rankWith 36 rfl) rfl rfl ?_
      refine AW.iload_n (n := 70) (dat D_X8_rankWith 37 rfl) rfl rfl ?_
      refine AW.icmp_leH (t := 77) (n := 73) h (dat D_X8_rankWith 38 rfl) rfl rfl rfl rfl (fun h => ?_) (fun h => ?_)
      · refine AW.iconst (n := 78) (dat D_X8_rankWith 41 rfl) rfl ?_
        refine AW.goto (t := 123) (dat D_X8_rankWith 42 rfl) rfl ?_
        cases h
        exact AW.to hJ14 (lle_s rfl (lle_s rfl (lle_n (lle_s rfl (lle_s rfl (lle_s rfl (lle_s rfl (lle_n (lle_n (lle_n (lle_z)))))))))))
      · refine AW.iconst (n := 74) (dat D_X8_rankWith 39 rfl) rfl ?_
        refine AW.goto (t := 123) (dat D_X8_rankWith 40 rfl) rfl ?_
        cases h
        exact AW.to hJ14 (lle_s rfl (lle_s rfl (lle_n (lle_s rfl (lle_s rfl (lle_s rfl (lle_s rfl (lle_n (lle_n (lle_n (lle_z)))))))))))
def L_X11_surfer : List (Nat × Instr × Nat) := [(0, .aload_n 0, 1), (1, .iload_n 1, 1), (2, .invokevirtual 145, 3), (5, .aload_n 0, 1), (6, .iload_n 2, 1), (7, .bipush 11, 2), (9, .invokevirtual 137, 3), (12, .aload_n 0, 1), (13, .getfield 55, 3), (16, .getfield 148, 3), (19, .iload_n 1, 1), (20, .aaload, 1), (21, .astore_n 3, 1), (22, .iload_n 2, 1), (23, .tableswitch 122 0 9 #[53, 58, 63, 76, 81, 86, 91, 96, 107, 117], 53), (76, .aload_n 3, 1), (77, .getfield 152, 3), (80, .ireturn, 1), (81, .aload_n 3, 1), (82, .getfield 157, 3), (85, .ireturn, 1), (86, .aload_n 3, 1), (87, .getfield 160, 3), (90, .ifCond .eq 7, 3), (93, .iconst 1, 1), (94, .goto 4, 3), (97, .iconst 0, 1), (98, .ireturn, 1), (99, .aload_n 3, 1), (100, .getfield 164, 3), (103, .ireturn, 1), (104, .aload_n 3, 1), (105, .getfield 167, 3), (108, .ireturn, 1), (109, .aload_n 3, 1), (110, .getfield 170, 3), (113, .ireturn, 1), (114, .aload_n 3, 1), (115, .getfield 173, 3), (118, .ireturn, 1), (119, .aload_n 0, 1), (120, .getfield 64, 3), (123, .aload_n 3, 1), (124, .iconst 0, 1), (125, .iconst 0, 1), (126, .invokevirtual 176, 3), (129, .ireturn, 1), (130, .aload_n 0, 1), (131, .getfield 64, 3), (134, .aload_n 3, 1), (135, .iconst 0, 1), (136, .invokevirtual 180, 3), (139, .ireturn, 1), (140, .aload_n 3, 1), (141, .getfield 184, 3), (144, .ireturn, 1), (145, .aload_n 3, 1), (146, .getfield 187, 3), (149, .ireturn, 1)]
theorem D_X11_surfer : dOK cX11_surfer L_X11_surfer = true := by decide +kernel
theorem cf_X11_surfer : CFV mX11_surfer 2 := ⟨wI_X11_surfer, wS_X11_surfer, wN_WaveRight, wC_X11_surfer, rfl, ⟨by decide +kernel, by decide +kernel, by decide +kernel⟩, le45 rfl⟩
def X11_surfer (n : Nat) (a0 : Int) (a1 : Int) (σ : SG) : Option ((Nat × Int) × SG) :=
  (X11_mustBeSurfer n a0 σ).bind fun t2 => if t2 = 0 then
  (X11_mustBeOneOf n a1 11 σ).bind fun t4 => if t4 = 0 then
  rdA 5 a0 fun j5 => ckR isSw (σ 34 j5) fun k6 =>
  if w32 a1 = 0 then
    some (((0, (σ k6 3)), σ))
  else if w32 a1 = 1 then
    some (((0, (σ k6 5)), σ))
  else if w32 a1 = 2 then
    if w32 (σ k6 6) = 0 then
      some (((0, 0), σ))
    else
      some (((0, 1), σ))
  else if w32 a1 = 3 then
    some (((0, (σ k6 4)), σ))
  else if w32 a1 = 4 then
    some (((0, (σ k6 8)), σ))
  else if w32 a1 = 5 then
    some (((0, (σ k6 9)), σ))
  else if w32 a1 = 6 then
    some (((0, (σ k6 2)), σ))
  else if w32 a1 = 7 then
    (X8_totalWith n k6 0 0 σ).bind fun v15 =>
    some (((0, v15), σ))
  else if w32 a1 = 8 then
    (X8_rankWith n k6 0 σ).bind fun v18 =>
    some (((0, v18), σ))
  else if w32 a1 = 9 then
    some (((0, (σ k6 10)), σ))
  else 
    some (((0, (σ k6 11)), σ))
  else some (((t4, 0), σ))
  else some (((t2, 0), σ))
set_option maxHeartbeats 4000000 in
set_option maxRecDepth 100000 in
theorem A_X11_surfer {Γ : GA} (hΓ : (gl Γ).stackTraces = false) {n : Nat} {a0 : Int} {a1 : Int} {σ : SG} {o : Nat × Int} {τ : SG}  (h : X11_surfer n a0 a1 σ = some (o, τ)) : AM Γ mX11_surfer 9 8 48 [vR 0, vI a0, vI a1] (85, σ) o (85, τ) := by
  refine AM.of pl_X11 rfl wC_X11_surfer (le45 rfl) hΓ ?_
  refine AW.to (ls'' := [some (vR 0), some (vI a0), some (vI a1), none]) ?_ (lle_s rfl (lle_s rfl (lle_s rfl (lle_e (lle_z)))))
  unfold X11_surfer at h
  refine AW.aload_n (n := 1) (dat D_X11_surfer 0 rfl) rfl rfl ?_
  refine AW.iload_n (n := 2) (dat D_X11_surfer 1 rfl) rfl rfl ?_
  obtain ⟨t2, hc1, h⟩ := ob_some h
  refine AW.cV (n := 5) (as := [vI a0]) (st := []) (st' := []) (uc' := 7) (us' := 42) (A_X11_mustBeSurfer hΓ hc1) cf_X11_mustBeSurfer ly_0 (le45 rfl) vc_11 (le45 rfl) wM_X11_145 (le45 rfl) (le45 rfl) (dat D_X11_surfer 2 rfl) rfl rfl (le45 rfl) (le45 rfl) rfl (fun q => ?_) (fun q => ?_)
  rotate_left
  · have h := ite_f h (by have q : 0 < t2 := q; omega)
    cases h
    exact AX.out rfl q rfl rfl
  have h := ite_t h q
  refine AW.aload_n (n := 6) (dat D_X11_surfer 3 rfl) rfl rfl ?_
  refine AW.iload_n (n := 7) (dat D_X11_surfer 4 rfl) rfl rfl ?_
  refine AW.bipush (n := 9) (dat D_X11_surfer 5 rfl) rfl (by decide) ?_
  obtain ⟨t4, hc3, h⟩ := ob_some h
  refine AW.cV (n := 12) (as := [vI a1, vI 11]) (st := []) (st' := []) (uc' := 6) (us' := 36) (A_X11_mustBeOneOf hΓ hc3) cf_X11_mustBeOneOf ly_0 (le45 rfl) vc_11 (le45 rfl) wM_X11_137 (le45 rfl) (le45 rfl) (dat D_X11_surfer 6 rfl) rfl rfl (le45 rfl) (le45 rfl) rfl (fun q => ?_) (fun q => ?_)
  rotate_left
  · have h := ite_f h (by have q : 0 < t4 := q; omega)
    cases h
    exact AX.out rfl q rfl rfl
  have h := ite_t h q
  refine AW.aload_n (n := 13) (dat D_X11_surfer 7 rfl) rfl rfl ?_
  refine AW.getR (n := 16) (t := 19) fX11_6 wF_X11_55 ly_0 (le45 rfl) rfl (dat D_X11_surfer 8 rfl) rfl ?_
  refine AW.getR (n := 19) (t := 34) fX1_2 wF_X11_148 ly_19 (le45 rfl) rfl (dat D_X11_surfer 9 rfl) rfl ?_
  refine AW.iload_n (n := 20) (dat D_X11_surfer 10 rfl) rfl rfl ?_
  refine AW.aaldH h (n := 21) rfl ly_34 (le45 rfl) (dat D_X11_surfer 11 rfl) rfl (fun j5 k6 hpk6 h => ?_)
  refine AW.astore_n (n := 22) (ls' := [some (vR 0), some (vI a0), some (vI a1), some (vR k6)]) (dat D_X11_surfer 12 rfl) rfl (le45 rfl) (le45 rfl) rfl rfl ?_
  refine AW.iload_n (n := 23) (dat D_X11_surfer 13 rfl) rfl rfl ?_
  by_cases q7 : w32 a1 = 0
  · have h := ite_t h q7
    refine AW.tIn (dat D_X11_surfer 14 rfl) q7 (by decide) (by decide) (t := 76) rfl rfl ?_
    refine AW.aload_n (n := 77) (dat D_X11_surfer 15 rfl) rfl rfl ?_
    refine AW.getI (n := 80) fX9_3 wF_X11_152 (isSw_ly0 hpk6) (by have := isSw_lt hpk6; omega) rfl rfl (dat D_X11_surfer 16 rfl) rfl ?_
    cases h
    exact AW.iret rfl rfl rfl (dat D_X11_surfer 17 rfl)
  have h := ite_f h q7
  by_cases q8 : w32 a1 = 1
  · have h := ite_t h q8
    refine AW.tIn (dat D_X11_surfer 14 rfl) q8 (by decide) (by decide) (t := 81) rfl rfl ?_
    refine AW.aload_n (n := 82) (dat D_X11_surfer 18 rfl) rfl rfl ?_
    refine AW.getI (n := 85) fX9_5 wF_X11_157 (isSw_ly0 hpk6) (by have := isSw_lt hpk6; omega) rfl rfl (dat D_X11_surfer 19 rfl) rfl ?_
    cases h
    exact AW.iret rfl rfl rfl (dat D_X11_surfer 20 rfl)
  have h := ite_f h q8
  by_cases q9 : w32 a1 = 2
  · have h := ite_t h q9
    refine AW.tIn (dat D_X11_surfer 14 rfl) q9 (by decide) (by decide) (t := 86) rfl rfl ?_
    refine AW.aload_n (n := 87) (dat D_X11_surfer 21 rfl) rfl rfl ?_
    refine AW.getI (n := 90) fX9_6 wF_X11_160 (isSw_ly0 hpk6) (by have := isSw_lt hpk6; omega) rfl rfl (dat D_X11_surfer 22 rfl) rfl ?_
    refine AW.if_eqH (t := 97) (n := 93) h (dat D_X11_surfer 23 rfl) rfl rfl (fun h => ?_) (fun h => ?_)
    · refine AW.iconst (n := 98) (dat D_X11_surfer 26 rfl) rfl ?_
      cases h
      exact AW.iret rfl rfl rfl (dat D_X11_surfer 27 rfl)
    · refine AW.iconst (n := 94) (dat D_X11_surfer 24 rfl) rfl ?_
      refine AW.goto (t := 98) (dat D_X11_surfer 25 rfl) rfl ?_
      cases h
      exact AW.iret rfl rfl rfl (dat D_X11_surfer 27 rfl)
  have h := ite_f h q9
  by_cases q10 : w32 a1 = 3
  · have h := ite_t h q10
    refine AW.tIn (dat D_X11_surfer 14 rfl) q10 (by decide) (by decide) (t := 99) rfl rfl ?_
    refine AW.aload_n (n := 100) (dat D_X11_surfer 28 rfl) rfl rfl ?_
    refine AW.getI (n := 103) fX9_4 wF_X11_164 (isSw_ly0 hpk6) (by have := isSw_lt hpk6; omega) rfl rfl (dat D_X11_surfer 29 rfl) rfl ?_
    cases h
    exact AW.iret rfl rfl rfl (dat D_X11_surfer 30 rfl)
  have h := ite_f h q10
  by_cases q11 : w32 a1 = 4
  · have h := ite_t h q11
    refine AW.tIn (dat D_X11_surfer 14 rfl) q11 (by decide) (by decide) (t := 104) rfl rfl ?_
    refine AW.aload_n (n := 105) (dat D_X11_surfer 31 rfl) rfl rfl ?_
    refine AW.getI (n := 108) fX9_8 wF_X11_167 (isSw_ly0 hpk6) (by have := isSw_lt hpk6; omega) rfl rfl (dat D_X11_surfer 32 rfl) rfl ?_
    cases h
    exact AW.iret rfl rfl rfl (dat D_X11_surfer 33 rfl)
  have h := ite_f h q11
  by_cases q12 : w32 a1 = 5
  · have h := ite_t h q12
    refine AW.tIn (dat D_X11_surfer 14 rfl) q12 (by decide) (by decide) (t := 109) rfl rfl ?_
    refine AW.aload_n (n := 110) (dat D_X11_surfer 34 rfl) rfl rfl ?_
    refine AW.getI (n := 113) fX9_9 wF_X11_170 (isSw_ly0 hpk6) (by have := isSw_lt hpk6; omega) rfl rfl (dat D_X11_surfer 35 rfl) rfl ?_
    cases h
    exact AW.iret rfl rfl rfl (dat D_X11_surfer 36 rfl)
  have h := ite_f h q12
  by_cases q13 : w32 a1 = 6
  · have h := ite_t h q13
    refine AW.tIn (dat D_X11_surfer 14 rfl) q13 (by decide) (by decide) (t := 114) rfl rfl ?_
    refine AW.aload_n (n := 115) (dat D_X11_surfer 37 rfl) rfl rfl ?_
    refine AW.getI (n := 118) fX9_2 wF_X11_173 (isSw_ly0 hpk6) (by have := isSw_lt hpk6; omega) rfl rfl (dat D_X11_surfer 38 rfl) rfl ?_
    cases h
    exact AW.iret rfl rfl rfl (dat D_X11_surfer 39 rfl)
  have h := ite_f h q13
  by_cases q16 : w32 a1 = 7
  · have h := ite_t h q16
    refine AW.tIn (dat D_X11_surfer 14 rfl) q16 (by decide) (by decide) (t := 119) rfl rfl ?_
    refine AW.aload_n (n := 120) (dat D_X11_surfer 40 rfl) rfl rfl ?_
    refine AW.getR (n := 123) (t := 49) fX11_7 wF_X11_64 ly_0 (le45 rfl) rfl (dat D_X11_surfer 41 rfl) rfl ?_
    refine AW.aload_n (n := 124) (dat D_X11_surfer 42 rfl) rfl rfl ?_
    refine AW.iconst (n := 125) (dat D_X11_surfer 43 rfl) rfl ?_
    refine AW.iconst (n := 126) (dat D_X11_surfer 44 rfl) rfl ?_
    obtain ⟨v15, hc14, h⟩ := ob_some h
    refine AW.cV (n := 129) (as := [vR k6, vI 0, vI 0]) (st := []) (st' := [vI v15]) (uc' := 6) (us' := 36) (A_X8_totalWith hΓ hpk6 hc14) cf_X8_totalWith ly_49 (le45 rfl) vc_8 (le45 rfl) wM_X11_176 (le45 rfl) (le45 rfl) (dat D_X11_surfer 45 rfl) rfl rfl (le45 rfl) (le45 rfl) rfl (fun _ => ?_) nlt0
    cases h
    exact AW.iret rfl rfl rfl (dat D_X11_surfer 46 rfl)
  have h := ite_f h q16
  by_cases q19 : w32 a1 = 8
  · have h := ite_t h q19
    refine AW.tIn (dat D_X11_surfer 14 rfl) q19 (by decide) (by decide) (t := 130) rfl rfl ?_
    refine AW.aload_n (n := 131) (dat D_X11_surfer 47 rfl) rfl rfl ?_
    refine AW.getR (n := 134) (t := 49) fX11_7 wF_X11_64 ly_0 (le45 rfl) rfl (dat D_X11_surfer 48 rfl) rfl ?_
    refine AW.aload_n (n := 135) (dat D_X11_surfer 49 rfl) rfl rfl ?_
    refine AW.iconst (n := 136) (dat D_X11_surfer 50 rfl) rfl ?_
    obtain ⟨v18, hc17, h⟩ := ob_some h
    refine AW.cV (n := 139) (as := [vR k6, vI 0]) (st := []) (st' := [vI v18]) (uc' := 6) (us' := 36) (A_X8_rankWith hΓ hpk6 hc17) cf_X8_rankWith ly_49 (le45 rfl) vc_8 (le45 rfl) wM_X11_180 (le45 rfl) (le45 rfl) (dat D_X11_surfer 51 rfl) rfl rfl (le45 rfl) (le45 rfl) rfl (fun _ => ?_) nlt0
    cases h
    exact AW.iret rfl rfl rfl (dat D_X11_surfer 52 rfl)
  have h := ite_f h q19
  by_cases q20 : w32 a1 = 9
  · have h := ite_t h q20
    refine AW.tIn (dat D_X11_surfer 14 rfl) q20 (by decide) (by decide) (t := 140) rfl rfl ?_
    refine AW.aload_n (n := 141) (dat D_X11_surfer 53 rfl) rfl rfl ?_
    refine AW.getI (n := 144) fX9_10 wF_X11_184 (isSw_ly0 hpk6) (by have := isSw_lt hpk6; omega) rfl rfl (dat D_X11_surfer 54 rfl) rfl ?_
    cases h
    exact AW.iret rfl rfl rfl (dat D_X11_surfer 55 rfl)
  have h := ite_f h q20
  refine AW.tOut (dat D_X11_surfer 14 rfl) (by omega) (t := 145) rfl ?_
  refine AW.aload_n (n := 146) (dat D_X11_surfer 56 rfl) rfl rfl ?_
  refine AW.getI (n := 149) fX9_11 wF_X11_187 (isSw_ly0 hpk6) (by have := isSw_lt hpk6; omega) rfl rfl (dat D_X11_surfer 57 rfl) rfl ?_
  cases h
  exact AW.iret rfl rfl rfl (dat D_X11_surfer 58 rfl)
def L_X11_name : List (Nat × Instr × Nat) := [(0, .aload_n 0, 1), (1, .iload_n 1, 1), (2, .invokevirtual 145, 3), (5, .aload_n 0, 1), (6, .getfield 55, 3), (9, .getfield 102, 3), (12, .iload_n 1, 1), (13, .iload_n 2, 1), (14, .invokevirtual 190, 3), (17, .ireturn, 1)]
theorem D_X11_name : dOK cX11_name L_X11_name = true := by decide +kernel
theorem cf_X11_name : CFV mX11_name 2 := ⟨wI_X11_name, wS_X11_name, wN_WaveRight, wC_X11_name, rfl, ⟨by decide +kernel, by decide +kernel, by decide +kernel⟩, le45 rfl⟩
def X11_name (n : Nat) (a0 : Int) (a1 : Int) (σ : SG) : Option ((Nat × Int) × SG) :=
  (X11_mustBeSurfer n a0 σ).bind fun t2 => if t2 = 0 then
  ckR isSea (σ 19 0) fun k3 =>
  (X6_letterOf n k3 a0 a1 σ).bind fun v5 =>
  some (((0, v5), σ))
  else some (((t2, 0), σ))
set_option maxHeartbeats 4000000 in
set_option maxRecDepth 100000 in
theorem A_X11_name {Γ : GA} (hΓ : (gl Γ).stackTraces = false) {n : Nat} {a0 : Int} {a1 : Int} {σ : SG} {o : Nat × Int} {τ : SG}  (h : X11_name n a0 a1 σ = some (o, τ)) : AM Γ mX11_name 9 8 48 [vR 0, vI a0, vI a1] (85, σ) o (85, τ) := by
  refine AM.of pl_X11 rfl wC_X11_name (le45 rfl) hΓ ?_
  refine AW.to (ls'' := [some (vR 0), some (vI a0), some (vI a1)]) ?_ (lle_s rfl (lle_s rfl (lle_s rfl (lle_z))))
  unfold X11_name at h
  refine AW.aload_n (n := 1) (dat D_X11_name 0 rfl) rfl rfl ?_
  refine AW.iload_n (n := 2) (dat D_X11_name 1 rfl) rfl rfl ?_
  obtain ⟨t2, hc1, h⟩ := ob_some h
  refine AW.cV (n := 5) (as := [vI a0]) (st := []) (st' := []) (uc' := 7) (us' := 42) (A_X11_mustBeSurfer hΓ hc1) cf_X11_mustBeSurfer ly_0 (le45 rfl) vc_11 (le45 rfl) wM_X11_145 (le45 rfl) (le45 rfl) (dat D_X11_name 2 rfl) rfl rfl (le45 rfl) (le45 rfl) rfl (fun q => ?_) (fun q => ?_)
  rotate_left
  · have h := ite_f h (by have q : 0 < t2 := q; omega)
    cases h
    exact AX.out rfl q rfl rfl
  have h := ite_t h q
  refine AW.aload_n (n := 6) (dat D_X11_name 3 rfl) rfl rfl ?_
  refine AW.getR (n := 9) (t := 19) fX11_6 wF_X11_55 ly_0 (le45 rfl) rfl (dat D_X11_name 4 rfl) rfl ?_
  refine AW.getQH h (n := 12) fX1_0 wF_X11_102 ly_19 (le45 rfl) rfl rfl (dat D_X11_name 5 rfl) rfl (fun k3 hpk3 h => ?_)
  refine AW.iload_n (n := 13) (dat D_X11_name 6 rfl) rfl rfl ?_
  refine AW.iload_n (n := 14) (dat D_X11_name 7 rfl) rfl rfl ?_
  obtain ⟨v5, hc4, h⟩ := ob_some h
  refine AW.cV (n := 17) (as := [vI a0, vI a1]) (st := []) (st' := [vI v5]) (uc' := 7) (us' := 42) (A_X6_letterOf hΓ hpk3 hc4) cf_X6_letterOf (isSea_ly0 hpk3) (by have := isSea_lt hpk3; omega) vc_6 (le45 rfl) wM_X11_190 (le45 rfl) (le45 rfl) (dat D_X11_name 8 rfl) rfl rfl (le45 rfl) (le45 rfl) rfl (fun _ => ?_) nlt0
  cases h
  exact AW.iret rfl rfl rfl (dat D_X11_name 9 rfl)
def L_X11_mustBePlace : List (Nat × Instr × Nat) := [(0, .iload_n 1, 1), (1, .ifCond .lt 9, 3), (4, .iload_n 1, 1), (5, .bipush 40, 2), (7, .if_icmp .le 14, 3), (10, .new 95, 3), (13, .dup, 1), (14, .ldc_w 368, 3), (17, .invokespecial 99, 3), (20, .athrow, 1), (21, .return_, 1)]
theorem D_X11_mustBePlace : dOK cX11_mustBePlace L_X11_mustBePlace = true := by decide +kernel
theorem cf_X11_mustBePlace : CFV mX11_mustBePlace 1 := ⟨wI_X11_mustBePlace, wS_X11_mustBePlace, wN_WaveRight, wC_X11_mustBePlace, rfl, ⟨by decide +kernel, by decide +kernel, by decide +kernel⟩, le45 rfl⟩
def X11_mustBePlace (n : Nat) (a0 : Int) (σ : SG) : Option (Nat) :=
  if w32 a0 < 0 then
    some (2)
  else
    if w32 a0 ≤ 40 then
      some (0)
    else
      some (2)
set_option maxHeartbeats 4000000 in
set_option maxRecDepth 100000 in
theorem A_X11_mustBePlace {Γ : GA} (hΓ : (gl Γ).stackTraces = false) {n : Nat} {a0 : Int} {σ : SG} {r : Nat}  (h : X11_mustBePlace n a0 σ = some r) : AM Γ mX11_mustBePlace 8 1 6 [vR 0, vI a0] (85, σ) (r, 0) (85, σ) := by
  refine AM.of pl_X11 rfl wC_X11_mustBePlace (le45 rfl) hΓ ?_
  refine AW.to (ls'' := [some (vR 0), some (vI a0)]) ?_ (lle_s rfl (lle_s rfl (lle_z)))
  unfold X11_mustBePlace at h
  refine AW.iload_n (n := 1) (dat D_X11_mustBePlace 0 rfl) rfl rfl ?_
  refine AW.if_ltH (t := 10) (n := 4) h (dat D_X11_mustBePlace 1 rfl) rfl rfl (fun h => ?_) (fun h => ?_)
  · cases h
    exact AW.throwW (k := 2) (j := 31) (by decide) thrW_2 wL_X11_95 wN_java_lang_IllegalArgumentException rfl wM_X11_99 (dat D_X11_mustBePlace 5 rfl) (dat D_X11_mustBePlace 6 rfl) (dat D_X11_mustBePlace 7 rfl) (dat D_X11_mustBePlace 8 rfl) (dat D_X11_mustBePlace 9 rfl) rfl (le45 rfl) (le45 rfl) rfl rfl (le45 rfl) (le45 rfl)
  · refine AW.iload_n (n := 5) (dat D_X11_mustBePlace 2 rfl) rfl rfl ?_
    refine AW.bipush (n := 7) (dat D_X11_mustBePlace 3 rfl) rfl (by decide) ?_
    refine AW.icmp_leH (t := 21) (n := 10) h (dat D_X11_mustBePlace 4 rfl) rfl rfl rfl (by decide) (fun h => ?_) (fun h => ?_)
    · cases h
      exact AW.vret rfl rfl rfl (dat D_X11_mustBePlace 10 rfl)
    · cases h
      exact AW.throwW (k := 2) (j := 31) (by decide) thrW_2 wL_X11_95 wN_java_lang_IllegalArgumentException rfl wM_X11_99 (dat D_X11_mustBePlace 5 rfl) (dat D_X11_mustBePlace 6 rfl) (dat D_X11_mustBePlace 7 rfl) (dat D_X11_mustBePlace 8 rfl) (dat D_X11_mustBePlace 9 rfl) rfl (le45 rfl) (le45 rfl) rfl rfl (le45 rfl) (le45 rfl)
def L_X11_goal : List (Nat × Instr × Nat) := [(0, .aload_n 0, 1), (1, .iload_n 1, 1), (2, .invokevirtual 145, 3), (5, .aload_n 0, 1), (6, .iload_n 2, 1), (7, .invokevirtual 193, 3), (10, .aload_n 0, 1), (11, .getfield 55, 3), (14, .getfield 148, 3), (17, .iload_n 1, 1), (18, .aaload, 1), (19, .astore_n 3, 1), (20, .aload_n 3, 1), (21, .getfield 160, 3), (24, .ifCond .ne 13, 3), (27, .new 125, 3), (30, .dup, 1), (31, .ldc 196, 2), (33, .invokespecial 129, 3), (36, .athrow, 1), (37, .aload_n 3, 1), (38, .getfield 164, 3), (41, .istore 4, 2), (43, .aload_n 3, 1), (44, .iload_n 2, 1), (45, .putfield 164, 3), (48, .iload 4, 2), (50, .ireturn, 1)]
theorem D_X11_goal : dOK cX11_goal L_X11_goal = true := by decide +kernel
theorem cf_X11_goal : CFV mX11_goal 2 := ⟨wI_X11_goal, wS_X11_goal, wN_WaveRight, wC_X11_goal, rfl, ⟨by decide +kernel, by decide +kernel, by decide +kernel⟩, le45 rfl⟩
def X11_goal (n : Nat) (a0 : Int) (a1 : Int) (σ : SG) : Option ((Nat × Int) × SG) :=
  (X11_mustBeSurfer n a0 σ).bind fun t2 => if t2 = 0 then
  (X11_mustBePlace n a1 σ).bind fun t4 => if t4 = 0 then
  rdA 5 a0 fun j5 => ckR isSw (σ 34 j5) fun k6 =>
  if w32 (σ k6 6) = 0 then
    some (((4, 0), σ))
  else
    lt (σ k6 4) fun x7 =>
    lt (up σ k6 4 a1) fun σ8 =>
    some (((0, x7), σ8))
  else some (((t4, 0), σ))
  else some (((t2, 0), σ))
set_option maxHeartbeats 4000000 in
set_option maxRecDepth 100000 in
theorem A_X11_goal {Γ : GA} (hΓ : (gl Γ).stackTraces = false) {n : Nat} {a0 : Int} {a1 : Int} {σ : SG} {o : Nat × Int} {τ : SG}  (h : X11_goal n a0 a1 σ = some (o, τ)) : AM Γ mX11_goal 9 8 48 [vR 0, vI a0, vI a1] (85, σ) o (85, τ) := by
  refine AM.of pl_X11 rfl wC_X11_goal (le45 rfl) hΓ ?_
  refine AW.to (ls'' := [some (vR 0), some (vI a0), some (vI a1), none, none]) ?_ (lle_s rfl (lle_s rfl (lle_s rfl (lle_e (lle_e (lle_z))))))
  unfold X11_goal at h
  refine AW.aload_n (n := 1) (dat D_X11_goal 0 rfl) rfl rfl ?_
  refine AW.iload_n (n := 2) (dat D_X11_goal 1 rfl) rfl rfl ?_
  obtain ⟨t2, hc1, h⟩ := ob_some h
  refine AW.cV (n := 5) (as := [vI a0]) (st := []) (st' := []) (uc' := 7) (us' := 42) (A_X11_mustBeSurfer hΓ hc1) cf_X11_mustBeSurfer ly_0 (le45 rfl) vc_11 (le45 rfl) wM_X11_145 (le45 rfl) (le45 rfl) (dat D_X11_goal 2 rfl) rfl rfl (le45 rfl) (le45 rfl) rfl (fun q => ?_) (fun q => ?_)
  rotate_left
  · have h := ite_f h (by have q : 0 < t2 := q; omega)
    cases h
    exact AX.out rfl q rfl rfl
  have h := ite_t h q
  refine AW.aload_n (n := 6) (dat D_X11_goal 3 rfl) rfl rfl ?_
  refine AW.iload_n (n := 7) (dat D_X11_goal 4 rfl) rfl rfl ?_
  obtain ⟨t4, hc3, h⟩ := ob_some h
  refine AW.cV (n := 10) (as := [vI a1]) (st := []) (st' := []) (uc' := 6) (us' := 36) (A_X11_mustBePlace hΓ hc3) cf_X11_mustBePlace ly_0 (le45 rfl) vc_11 (le45 rfl) wM_X11_193 (le45 rfl) (le45 rfl) (dat D_X11_goal 5 rfl) rfl rfl (le45 rfl) (le45 rfl) rfl (fun q => ?_) (fun q => ?_)
  rotate_left
  · have h := ite_f h (by have q : 0 < t4 := q; omega)
    cases h
    exact AX.out rfl q rfl rfl
  have h := ite_t h q
  refine AW.aload_n (n := 11) (dat D_X11_goal 6 rfl) rfl rfl ?_
  refine AW.getR (n := 14) (t := 19) fX11_6 wF_X11_55 ly_0 (le45 rfl) rfl (dat D_X11_goal 7 rfl) rfl ?_
  refine AW.getR (n := 17) (t := 34) fX1_2 wF_X11_148 ly_19 (le45 rfl) rfl (dat D_X11_goal 8 rfl) rfl ?_
  refine AW.iload_n (n := 18) (dat D_X11_goal 9 rfl) rfl rfl ?_
  refine AW.aaldH h (n := 19) rfl ly_34 (le45 rfl) (dat D_X11_goal 10 rfl) rfl (fun j5 k6 hpk6 h => ?_)
  refine AW.astore_n (n := 20) (ls' := [some (vR 0), some (vI a0), some (vI a1), some (vR k6), none]) (dat D_X11_goal 11 rfl) rfl (le45 rfl) (le45 rfl) rfl rfl ?_
  refine AW.aload_n (n := 21) (dat D_X11_goal 12 rfl) rfl rfl ?_
  refine AW.getI (n := 24) fX9_6 wF_X11_160 (isSw_ly0 hpk6) (by have := isSw_lt hpk6; omega) rfl rfl (dat D_X11_goal 13 rfl) rfl ?_
  refine AW.if_neH (t := 37) (n := 27) h (dat D_X11_goal 14 rfl) rfl rfl (fun h => ?_) (fun h => ?_)
  · cases h
    exact AW.throw (k := 4) (j := 32) (by decide) thrW_4 wL_X11_125 wN_java_lang_IllegalStateException rfl wM_X11_129 (dat D_X11_goal 15 rfl) (dat D_X11_goal 16 rfl) (dat D_X11_goal 17 rfl) (dat D_X11_goal 18 rfl) (dat D_X11_goal 19 rfl) rfl (le45 rfl) (le45 rfl) rfl rfl (le45 rfl) (le45 rfl)
  · refine AW.aload_n (n := 38) (dat D_X11_goal 20 rfl) rfl rfl ?_
    refine AW.getI (n := 41) fX9_4 wF_X11_164 (isSw_ly0 hpk6) (by have := isSw_lt hpk6; omega) rfl rfl (dat D_X11_goal 21 rfl) rfl ?_
    refine AW.ltI h (fun x7 h => ?_)
    refine AW.istore (n := 43) (ls' := [some (vR 0), some (vI a0), some (vI a1), some (vR k6), some (vI x7)]) (dat D_X11_goal 22 rfl) rfl (le45 rfl) (le45 rfl) rfl rfl ?_
    refine AW.aload_n (n := 44) (dat D_X11_goal 23 rfl) rfl rfl ?_
    refine AW.iload_n (n := 45) (dat D_X11_goal 24 rfl) rfl rfl ?_
    refine AW.putI (n := 48) fX9_4 wF_X11_164 (isSw_ly0 hpk6) (by have := isSw_lt hpk6; omega) rfl rfl rfl (dat D_X11_goal 25 rfl) rfl ?_
    refine AW.ltS h (fun σ8 h => ?_)
    refine AW.iload (n := 50) (dat D_X11_goal 26 rfl) rfl rfl ?_
    cases h
    exact AW.iret rfl rfl rfl (dat D_X11_goal 27 rfl)
def L_X5_at : List (Nat × Instr × Nat) := [(0, .iload_n 1, 1), (1, .ifCond .lt 11, 3), (4, .iload_n 1, 1), (5, .aload_n 0, 1), (6, .getfield 15, 3), (9, .if_icmp .lt 7, 3), (12, .iconst (-1), 1), (13, .goto 9, 3), (16, .aload_n 0, 1), (17, .getfield 9, 3), (20, .iload_n 1, 1), (21, .iaload, 1), (22, .ireturn, 1)]
theorem D_X5_at : dOK cX5_at L_X5_at = true := by decide +kernel
theorem cf_X5_at : CFV mX5_at 1 := ⟨wI_X5_at, wS_X5_at, wN_WaveRight_Row, wC_X5_at, rfl, ⟨by decide +kernel, by decide +kernel, by decide +kernel⟩, le45 rfl⟩
def X5_at (n : Nat) (a0 : Int) (σ : SG) : Option (Int) :=
  if w32 a0 < 0 then
    some ((-1))
  else
    if w32 a0 < w32 (σ 35 1) then
      rdA 5 a0 fun j1 =>
      some ((σ 36 j1))
    else
      some ((-1))
set_option maxHeartbeats 4000000 in
set_option maxRecDepth 100000 in
theorem A_X5_at {Γ : GA} (hΓ : (gl Γ).stackTraces = false) {n : Nat} {a0 : Int} {σ : SG} {r : Int}  (h : X5_at n a0 σ = some r) : AM Γ mX5_at 1 0 0 [vR 35, vI a0] (85, σ) (0, r) (85, σ) := by
  refine AM.of pl_X5 rfl wC_X5_at (le45 rfl) hΓ ?_
  refine AW.to (ls'' := [some (vR 35), some (vI a0)]) ?_ (lle_s rfl (lle_s rfl (lle_z)))
  unfold X5_at at h
  refine AW.iload_n (n := 1) (dat D_X5_at 0 rfl) rfl rfl ?_
  refine AW.if_ltH (t := 12) (n := 4) h (dat D_X5_at 1 rfl) rfl rfl (fun h => ?_) (fun h => ?_)
  · refine AW.iconst (n := 13) (dat D_X5_at 6 rfl) rfl ?_
    refine AW.goto (t := 22) (dat D_X5_at 7 rfl) rfl ?_
    cases h
    exact AW.iret rfl rfl rfl (dat D_X5_at 12 rfl)
  · refine AW.iload_n (n := 5) (dat D_X5_at 2 rfl) rfl rfl ?_
    refine AW.aload_n (n := 6) (dat D_X5_at 3 rfl) rfl rfl ?_
    refine AW.getI (n := 9) fX5_1 wF_X5_15 ly_35 (le45 rfl) rfl rfl (dat D_X5_at 4 rfl) rfl ?_
    refine AW.icmp_ltH (t := 16) (n := 12) h (dat D_X5_at 5 rfl) rfl rfl rfl rfl (fun h => ?_) (fun h => ?_)
    · refine AW.aload_n (n := 17) (dat D_X5_at 8 rfl) rfl rfl ?_
      refine AW.getR (n := 20) (t := 36) fX5_0 wF_X5_9 ly_35 (le45 rfl) rfl (dat D_X5_at 9 rfl) rfl ?_
      refine AW.iload_n (n := 21) (dat D_X5_at 10 rfl) rfl rfl ?_
      refine AW.ialdH h (n := 22) rfl ly_36 (le45 rfl) (dat D_X5_at 11 rfl) rfl (fun j1 h => ?_)
      cases h
      exact AW.iret rfl rfl rfl (dat D_X5_at 12 rfl)
    · refine AW.iconst (n := 13) (dat D_X5_at 6 rfl) rfl ?_
      refine AW.goto (t := 22) (dat D_X5_at 7 rfl) rfl ?_
      cases h
      exact AW.iret rfl rfl rfl (dat D_X5_at 12 rfl)
def L_X11_row : List (Nat × Instr × Nat) := [(0, .aload_n 0, 1), (1, .getfield 55, 3), (4, .getfield 198, 3), (7, .iload_n 1, 1), (8, .invokevirtual 202, 3), (11, .ireturn, 1)]
theorem D_X11_row : dOK cX11_row L_X11_row = true := by decide +kernel
theorem cf_X11_row : CFV mX11_row 1 := ⟨wI_X11_row, wS_X11_row, wN_WaveRight, wC_X11_row, rfl, ⟨by decide +kernel, by decide +kernel, by decide +kernel⟩, le45 rfl⟩
def X11_row (n : Nat) (a0 : Int) (σ : SG) : Option (Int) :=
  (X5_at n a0 σ).bind fun v2 =>
  some (v2)
set_option maxHeartbeats 4000000 in
set_option maxRecDepth 100000 in
theorem A_X11_row {Γ : GA} (hΓ : (gl Γ).stackTraces = false) {n : Nat} {a0 : Int} {σ : SG} {r : Int}  (h : X11_row n a0 σ = some r) : AM Γ mX11_row 2 0 0 [vR 0, vI a0] (85, σ) (0, r) (85, σ) := by
  refine AM.of pl_X11 rfl wC_X11_row (le45 rfl) hΓ ?_
  refine AW.to (ls'' := [some (vR 0), some (vI a0)]) ?_ (lle_s rfl (lle_s rfl (lle_z)))
  unfold X11_row at h
  refine AW.aload_n (n := 1) (dat D_X11_row 0 rfl) rfl rfl ?_
  refine AW.getR (n := 4) (t := 19) fX11_6 wF_X11_55 ly_0 (le45 rfl) rfl (dat D_X11_row 1 rfl) rfl ?_
  refine AW.getR (n := 7) (t := 35) fX1_3 wF_X11_198 ly_19 (le45 rfl) rfl (dat D_X11_row 2 rfl) rfl ?_
  refine AW.iload_n (n := 8) (dat D_X11_row 3 rfl) rfl rfl ?_
  obtain ⟨v2, hc1, h⟩ := ob_some h
  refine AW.cV (n := 11) (as := [vI a0]) (st := []) (st' := [vI v2]) (uc' := 0) (us' := 0) (A_X5_at hΓ hc1) cf_X5_at ly_35 (le45 rfl) vc_5 (le45 rfl) wM_X11_202 (le45 rfl) (le45 rfl) (dat D_X11_row 4 rfl) rfl rfl (le45 rfl) (le45 rfl) rfl (fun _ => ?_) nlt0
  cases h
  exact AW.iret rfl rfl rfl (dat D_X11_row 5 rfl)
def L_X11_mustBeRide : List (Nat × Instr × Nat) := [(0, .iload_n 1, 1), (1, .iconst 1, 1), (2, .if_icmp .lt 19, 3), (5, .iload_n 1, 1), (6, .bipush 20, 2), (8, .if_icmp .gt 13, 3), (11, .iload_n 2, 1), (12, .ifCond .lt 9, 3), (15, .iload_n 2, 1), (16, .bipush 9, 2), (18, .if_icmp .le 14, 3), (21, .new 95, 3), (24, .dup, 1), (25, .ldc_w 370, 3), (28, .invokespecial 99, 3), (31, .athrow, 1), (32, .return_, 1)]
theorem D_X11_mustBeRide : dOK cX11_mustBeRide L_X11_mustBeRide = true := by decide +kernel
theorem cf_X11_mustBeRide : CFV mX11_mustBeRide 2 := ⟨wI_X11_mustBeRide, wS_X11_mustBeRide, wN_WaveRight, wC_X11_mustBeRide, rfl, ⟨by decide +kernel, by decide +kernel, by decide +kernel⟩, le45 rfl⟩
def X11_mustBeRide (n : Nat) (a0 : Int) (a1 : Int) (σ : SG) : Option (Nat) :=
  if w32 a0 < 1 then
    some (2)
  else
    if 20 < w32 a0 then
      some (2)
    else
      if w32 a1 < 0 then
        some (2)
      else
        if w32 a1 ≤ 9 then
          some (0)
        else
          some (2)
set_option maxHeartbeats 4000000 in
set_option maxRecDepth 100000 in
theorem A_X11_mustBeRide {Γ : GA} (hΓ : (gl Γ).stackTraces = false) {n : Nat} {a0 : Int} {a1 : Int} {σ : SG} {r : Nat}  (h : X11_mustBeRide n a0 a1 σ = some r) : AM Γ mX11_mustBeRide 8 1 6 [vR 0, vI a0, vI a1] (85, σ) (r, 0) (85, σ) := by
  refine AM.of pl_X11 rfl wC_X11_mustBeRide (le45 rfl) hΓ ?_
  refine AW.to (ls'' := [some (vR 0), some (vI a0), some (vI a1)]) ?_ (lle_s rfl (lle_s rfl (lle_s rfl (lle_z))))
  unfold X11_mustBeRide at h
  refine AW.iload_n (n := 1) (dat D_X11_mustBeRide 0 rfl) rfl rfl ?_
  refine AW.iconst (n := 2) (dat D_X11_mustBeRide 1 rfl) rfl ?_
  refine AW.icmp_ltH (t := 21) (n := 5) h (dat D_X11_mustBeRide 2 rfl) rfl rfl rfl (by decide) (fun h => ?_) (fun h => ?_)
  · cases h
    exact AW.throwW (k := 2) (j := 34) (by decide) thrW_2 wL_X11_95 wN_java_lang_IllegalArgumentException rfl wM_X11_99 (dat D_X11_mustBeRide 11 rfl) (dat D_X11_mustBeRide 12 rfl) (dat D_X11_mustBeRide 13 rfl) (dat D_X11_mustBeRide 14 rfl) (dat D_X11_mustBeRide 15 rfl) rfl (le45 rfl) (le45 rfl) rfl rfl (le45 rfl) (le45 rfl)
  · refine AW.iload_n (n := 6) (dat D_X11_mustBeRide 3 rfl) rfl rfl ?_
    refine AW.bipush (n := 8) (dat D_X11_mustBeRide 4 rfl) rfl (by decide) ?_
    refine AW.icmp_gtH (t := 21) (n := 11) h (dat D_X11_mustBeRide 5 rfl) rfl rfl rfl (by decide) (fun h => ?_) (fun h => ?_)
    · cases h
      exact AW.throwW (k := 2) (j := 34) (by decide) thrW_2 wL_X11_95 wN_java_lang_IllegalArgumentException rfl wM_X11_99 (dat D_X11_mustBeRide 11 rfl) (dat D_X11_mustBeRide 12 rfl) (dat D_X11_mustBeRide 13 rfl) (dat D_X11_mustBeRide 14 rfl) (dat D_X11_mustBeRide 15 rfl) rfl (le45 rfl) (le45 rfl) rfl rfl (le45 rfl) (le45 rfl)
    · refine AW.iload_n (n := 12) (dat D_X11_mustBeRide 6 rfl) rfl rfl ?_
      refine AW.if_ltH (t := 21) (n := 15) h (dat D_X11_mustBeRide 7 rfl) rfl rfl (fun h => ?_) (fun h => ?_)
      · cases h
        exact AW.throwW (k := 2) (j := 34) (by decide) thrW_2 wL_X11_95 wN_java_lang_IllegalArgumentException rfl wM_X11_99 (dat D_X11_mustBeRide 11 rfl) (dat D_X11_mustBeRide 12 rfl) (dat D_X11_mustBeRide 13 rfl) (dat D_X11_mustBeRide 14 rfl) (dat D_X11_mustBeRide 15 rfl) rfl (le45 rfl) (le45 rfl) rfl rfl (le45 rfl) (le45 rfl)
      · refine AW.iload_n (n := 16) (dat D_X11_mustBeRide 8 rfl) rfl rfl ?_
        refine AW.bipush (n := 18) (dat D_X11_mustBeRide 9 rfl) rfl (by decide) ?_
        refine AW.icmp_leH (t := 32) (n := 21) h (dat D_X11_mustBeRide 10 rfl) rfl rfl rfl (by decide) (fun h => ?_) (fun h => ?_)
        · cases h
          exact AW.vret rfl rfl rfl (dat D_X11_mustBeRide 16 rfl)
        · cases h
          exact AW.throwW (k := 2) (j := 34) (by decide) thrW_2 wL_X11_95 wN_java_lang_IllegalArgumentException rfl wM_X11_99 (dat D_X11_mustBeRide 11 rfl) (dat D_X11_mustBeRide 12 rfl) (dat D_X11_mustBeRide 13 rfl) (dat D_X11_mustBeRide 14 rfl) (dat D_X11_mustBeRide 15 rfl) rfl (le45 rfl) (le45 rfl) rfl rfl (le45 rfl) (le45 rfl)
def L_X1_canGo : List (Nat × Instr × Nat) := [(0, .aload_n 0, 1), (1, .getfield 12, 3), (4, .iload_n 1, 1), (5, .iconst 1, 1), (6, .invokevirtual 102, 3), (9, .istore 5, 2), (11, .iload_n 3, 1), (12, .ifCond .ne 10, 3), (15, .iload 5, 2), (17, .iload_n 2, 1), (18, .isub, 1), (19, .goto 7, 3), (22, .iload_n 2, 1), (23, .iload 5, 2), (25, .isub, 1), (26, .istore 6, 2), (28, .aload_n 0, 1), (29, .getfield 12, 3), (32, .iload_n 1, 1), (33, .iconst 2, 1), (34, .invokevirtual 102, 3), (37, .iload_n 3, 1), (38, .ishr, 1), (39, .iconst 1, 1), (40, .iand, 1), (41, .iconst 1, 1), (42, .if_icmp .ne 29, 3), (45, .iload 6, 2), (47, .ifCond .lt 24, 3), (50, .iload 6, 2), (52, .iload 4, 2), (54, .iadd, 1), (55, .aload_n 0, 1), (56, .getfield 12, 3), (59, .iload_n 1, 1), (60, .iconst 4, 1), (61, .invokevirtual 102, 3), (64, .if_icmp .gt 7, 3), (67, .iconst 1, 1), (68, .goto 4, 3), (71, .iconst 0, 1), (72, .ireturn, 1)]
theorem D_X1_canGo : dOK cX1_canGo L_X1_canGo = true := by decide +kernel
theorem cf_X1_canGo : CFV mX1_canGo 4 := ⟨wI_X1_canGo, wS_X1_canGo, wN_WaveRight_Heat, wC_X1_canGo, rfl, ⟨by decide +kernel, by decide +kernel, by decide +kernel⟩, le45 rfl⟩
def X1_canGo_j26 (n : Nat) (σ : SG) (a0 : Int) (a2 : Int) (a3 : Int) (y4 : Int) : Option (Int) :=
  ckR isSea (σ 19 0) fun k6 =>
  (X6_factOf n k6 a0 2 σ).bind fun v8 =>
  if w32 (bAnd (bShr v8 a2) 1) = 1 then
    if w32 y4 < 0 then
      some (0)
    else
      ckR isSea (σ 19 0) fun k9 =>
      (X6_factOf n k9 a0 4 σ).bind fun v11 =>
      if w32 v11 < w32 (y4 + a3) then
        some (0)
      else
        some (1)
  else
    some (0)
def X1_canGo (n : Nat) (a0 : Int) (a1 : Int) (a2 : Int) (a3 : Int) (σ : SG) : Option (Int) :=
  ckR isSea (σ 19 0) fun k1 =>
  (X6_factOf n k1 a0 1 σ).bind fun v3 =>
  ((if w32 a2 = 0 then
    some ((v3 - a1))
  else
    some ((a1 - v3))) : Option (Int)).bind (fun s => X1_canGo_j26 n σ a0 a2 a3 s)
set_option maxHeartbeats 4000000 in
set_option maxRecDepth 100000 in
theorem A_X1_canGo {Γ : GA} (hΓ : (gl Γ).stackTraces = false) {n : Nat} {a0 : Int} {a1 : Int} {a2 : Int} {a3 : Int} {σ : SG} {r : Int}  (h : X1_canGo n a0 a1 a2 a3 σ = some r) : AM Γ mX1_canGo 2 0 0 [vR 19, vI a0, vI a1, vI a2, vI a3] (85, σ) (0, r) (85, σ) := by
  refine AM.of pl_X1 rfl wC_X1_canGo (le45 rfl) hΓ ?_
  refine AW.to (ls'' := [some (vR 19), some (vI a0), some (vI a1), some (vI a2), some (vI a3), none, none]) ?_ (lle_s rfl (lle_s rfl (lle_s rfl (lle_s rfl (lle_s rfl (lle_e (lle_e (lle_z))))))))
  unfold X1_canGo at h
  refine AW.aload_n (n := 1) (dat D_X1_canGo 0 rfl) rfl rfl ?_
  refine AW.getQH h (n := 4) fX1_0 wF_X1_12 ly_19 (le45 rfl) rfl rfl (dat D_X1_canGo 1 rfl) rfl (fun k1 hpk1 h => ?_)
  refine AW.iload_n (n := 5) (dat D_X1_canGo 2 rfl) rfl rfl ?_
  refine AW.iconst (n := 6) (dat D_X1_canGo 3 rfl) rfl ?_
  obtain ⟨v3, hc2, h⟩ := ob_some h
  refine AW.cV (n := 9) (as := [vI a0, vI 1]) (st := []) (st' := [vI v3]) (uc' := 0) (us' := 0) (A_X6_factOf hΓ hpk1 hc2) cf_X6_factOf (isSea_ly0 hpk1) (by have := isSea_lt hpk1; omega) vc_6 (le45 rfl) wM_X1_102 (le45 rfl) (le45 rfl) (dat D_X1_canGo 4 rfl) rfl rfl (le45 rfl) (le45 rfl) rfl (fun _ => ?_) nlt0
  refine AW.istore (n := 11) (ls' := [some (vR 19), some (vI a0), some (vI a1), some (vI a2), some (vI a3), some (vI v3), none]) (dat D_X1_canGo 5 rfl) rfl (le45 rfl) (le45 rfl) rfl rfl ?_
  refine AW.iload_n (n := 12) (dat D_X1_canGo 6 rfl) rfl rfl ?_
  obtain ⟨s5, h, hq5⟩ := ob_some h
  obtain ⟨y4, e5⟩ : ∃ z, z = s5 := ⟨_, rfl⟩
  subst e5
  have hJ5 : AW Γ mX1_canGo 2 (0, r) (85, σ) 0 0 26 [some (vR 19), some (vI a0), none, some (vI a2), some (vI a3), none, none] [vI y4] (85, σ) := by
    have h : X1_canGo_j26 n σ a0 a2 a3 y4 = some _ := hq5
    unfold X1_canGo_j26 at h
    refine AW.istore (n := 28) (ls' := [some (vR 19), some (vI a0), none, some (vI a2), some (vI a3), none, some (vI y4)]) (dat D_X1_canGo 15 rfl) rfl (le45 rfl) (le45 rfl) rfl rfl ?_
    refine AW.aload_n (n := 29) (dat D_X1_canGo 16 rfl) rfl rfl ?_
    refine AW.getQH h (n := 32) fX1_0 wF_X1_12 ly_19 (le45 rfl) rfl rfl (dat D_X1_canGo 17 rfl) rfl (fun k6 hpk6 h => ?_)
    refine AW.iload_n (n := 33) (dat D_X1_canGo 18 rfl) rfl rfl ?_
    refine AW.iconst (n := 34) (dat D_X1_canGo 19 rfl) rfl ?_
    obtain ⟨v8, hc7, h⟩ := ob_some h
    refine AW.cV (n := 37) (as := [vI a0, vI 2]) (st := []) (st' := [vI v8]) (uc' := 0) (us' := 0) (A_X6_factOf hΓ hpk6 hc7) cf_X6_factOf (isSea_ly0 hpk6) (by have := isSea_lt hpk6; omega) vc_6 (le45 rfl) wM_X1_102 (le45 rfl) (le45 rfl) (dat D_X1_canGo 20 rfl) rfl rfl (le45 rfl) (le45 rfl) rfl (fun _ => ?_) nlt0
    refine AW.iload_n (n := 38) (dat D_X1_canGo 21 rfl) rfl rfl ?_
    refine AW.ishr (n := 39) (dat D_X1_canGo 22 rfl) rfl ?_
    refine AW.iconst (n := 40) (dat D_X1_canGo 23 rfl) rfl ?_
    refine AW.iand (n := 41) (dat D_X1_canGo 24 rfl) rfl ?_
    refine AW.iconst (n := 42) (dat D_X1_canGo 25 rfl) rfl ?_
    refine AW.icmp_neH (t := 71) (n := 45) h (dat D_X1_canGo 26 rfl) rfl rfl rfl (by decide) (fun h => ?_) (fun h => ?_)
    · refine AW.iload (n := 47) (dat D_X1_canGo 27 rfl) rfl rfl ?_
      refine AW.if_ltH (t := 71) (n := 50) h (dat D_X1_canGo 28 rfl) rfl rfl (fun h => ?_) (fun h => ?_)
      · refine AW.iconst (n := 72) (dat D_X1_canGo 40 rfl) rfl ?_
        cases h
        exact AW.zret rfl (by decide) rfl rfl (dat D_X1_canGo 41 rfl)
      · refine AW.iload (n := 52) (dat D_X1_canGo 29 rfl) rfl rfl ?_
        refine AW.iload (n := 54) (dat D_X1_canGo 30 rfl) rfl rfl ?_
        refine AW.iadd (n := 55) (dat D_X1_canGo 31 rfl) rfl ?_
        refine AW.aload_n (n := 56) (dat D_X1_canGo 32 rfl) rfl rfl ?_
        refine AW.getQH h (n := 59) fX1_0 wF_X1_12 ly_19 (le45 rfl) rfl rfl (dat D_X1_canGo 33 rfl) rfl (fun k9 hpk9 h => ?_)
        refine AW.iload_n (n := 60) (dat D_X1_canGo 34 rfl) rfl rfl ?_
        refine AW.iconst (n := 61) (dat D_X1_canGo 35 rfl) rfl ?_
        obtain ⟨v11, hc10, h⟩ := ob_some h
        refine AW.cV (n := 64) (as := [vI a0, vI 4]) (st := [vI (y4 + a3)]) (st' := [vI v11, vI (y4 + a3)]) (uc' := 0) (us' := 0) (A_X6_factOf hΓ hpk9 hc10) cf_X6_factOf (isSea_ly0 hpk9) (by have := isSea_lt hpk9; omega) vc_6 (le45 rfl) wM_X1_102 (le45 rfl) (le45 rfl) (dat D_X1_canGo 36 rfl) rfl rfl (le45 rfl) (le45 rfl) rfl (fun _ => ?_) nlt0
        refine AW.icmp_gtH (t := 71) (n := 67) h (dat D_X1_canGo 37 rfl) rfl rfl rfl rfl (fun h => ?_) (fun h => ?_)
        · refine AW.iconst (n := 72) (dat D_X1_canGo 40 rfl) rfl ?_
          cases h
          exact AW.zret rfl (by decide) rfl rfl (dat D_X1_canGo 41 rfl)
        · refine AW.iconst (n := 68) (dat D_X1_canGo 38 rfl) rfl ?_
          refine AW.goto (t := 72) (dat D_X1_canGo 39 rfl) rfl ?_
          cases h
          exact AW.zret rfl (by decide) rfl rfl (dat D_X1_canGo 41 rfl)
    · refine AW.iconst (n := 72) (dat D_X1_canGo 40 rfl) rfl ?_
      cases h
      exact AW.zret rfl (by decide) rfl rfl (dat D_X1_canGo 41 rfl)
  refine AW.if_neH (t := 22) (n := 15) h (dat D_X1_canGo 7 rfl) rfl rfl (fun h => ?_) (fun h => ?_)
  · refine AW.iload (n := 17) (dat D_X1_canGo 8 rfl) rfl rfl ?_
    refine AW.iload_n (n := 18) (dat D_X1_canGo 9 rfl) rfl rfl ?_
    refine AW.isub (n := 19) (dat D_X1_canGo 10 rfl) rfl ?_
    refine AW.goto (t := 26) (dat D_X1_canGo 11 rfl) rfl ?_
    cases h
    exact AW.to hJ5 (lle_s rfl (lle_s rfl (lle_n (lle_s rfl (lle_s rfl (lle_n (lle_n (lle_z))))))))
  · refine AW.iload_n (n := 23) (dat D_X1_canGo 12 rfl) rfl rfl ?_
    refine AW.iload (n := 25) (dat D_X1_canGo 13 rfl) rfl rfl ?_
    refine AW.isub (n := 26) (dat D_X1_canGo 14 rfl) rfl ?_
    cases h
    exact AW.to hJ5 (lle_s rfl (lle_s rfl (lle_n (lle_s rfl (lle_s rfl (lle_n (lle_n (lle_z))))))))
def L_X1_takenBy : List (Nat × Instr × Nat) := [(0, .aload_n 1, 1), (1, .iconst 0, 1), (2, .putfield 118, 3), (5, .aload_n 1, 1), (6, .iconst 1, 1), (7, .putfield 150, 3), (10, .aload_n 1, 1), (11, .iload_n 2, 1), (12, .putfield 153, 3), (15, .aload_n 1, 1), (16, .iload_n 3, 1), (17, .putfield 156, 3), (20, .aload_n 1, 1), (21, .iload 4, 2), (23, .putfield 159, 3), (26, .aload_n 0, 1), (27, .iconst 1, 1), (28, .putfield 93, 3), (31, .return_, 1)]
theorem D_X1_takenBy : dOK cX1_takenBy L_X1_takenBy = true := by decide +kernel
theorem cf_X1_takenBy : CFV mX1_takenBy 4 := ⟨wI_X1_takenBy, wS_X1_takenBy, wN_WaveRight_Heat, wC_X1_takenBy, rfl, ⟨by decide +kernel, by decide +kernel, by decide +kernel⟩, le45 rfl⟩
def X1_takenBy (n : Nat) (a0 : Nat) (a1 : Int) (a2 : Int) (a3 : Int) (σ : SG) : Option (SG) :=
  lt (up σ a0 6 0) fun σ1 =>
  lt (up σ1 a0 7 1) fun σ2 =>
  lt (up σ2 a0 12 a1) fun σ3 =>
  lt (up σ3 a0 13 a2) fun σ4 =>
  lt (up σ4 a0 14 a3) fun σ5 =>
  lt (up σ5 19 15 1) fun σ6 =>
  some (σ6)
set_option maxHeartbeats 4000000 in
set_option maxRecDepth 100000 in
theorem A_X1_takenBy {Γ : GA} (hΓ : (gl Γ).stackTraces = false) {n : Nat} {a0 : Nat} {a1 : Int} {a2 : Int} {a3 : Int} {σ : SG} {τ : SG} (hpa0 : isSw a0 = true) (h : X1_takenBy n a0 a1 a2 a3 σ = some τ) : AM Γ mX1_takenBy 1 0 0 [vR 19, vR a0, vI a1, vI a2, vI a3] (85, σ) (0, 0) (85, τ) := by
  refine AM.of pl_X1 rfl wC_X1_takenBy (le45 rfl) hΓ ?_
  refine AW.to (ls'' := [some (vR 19), some (vR a0), some (vI a1), some (vI a2), some (vI a3)]) ?_ (lle_s rfl (lle_s rfl (lle_s rfl (lle_s rfl (lle_s rfl (lle_z))))))
  unfold X1_takenBy at h
  refine AW.aload_n (n := 1) (dat D_X1_takenBy 0 rfl) rfl rfl ?_
  refine AW.iconst (n := 2) (dat D_X1_takenBy 1 rfl) rfl ?_
  refine AW.putZ (n := 5) (Or.inl rfl) fX9_6 wF_X1_118 (isSw_ly0 hpa0) (by have := isSw_lt hpa0; omega) rfl rfl rfl (dat D_X1_takenBy 2 rfl) rfl ?_
  refine AW.ltS h (fun σ1 h => ?_)
  refine AW.aload_n (n := 6) (dat D_X1_takenBy 3 rfl) rfl rfl ?_
  refine AW.iconst (n := 7) (dat D_X1_takenBy 4 rfl) rfl ?_
  refine AW.putZ (n := 10) (Or.inr rfl) fX9_7 wF_X1_150 (isSw_ly0 hpa0) (by have := isSw_lt hpa0; omega) rfl rfl rfl (dat D_X1_takenBy 5 rfl) rfl ?_
  refine AW.ltS h (fun σ2 h => ?_)
  refine AW.aload_n (n := 11) (dat D_X1_takenBy 6 rfl) rfl rfl ?_
  refine AW.iload_n (n := 12) (dat D_X1_takenBy 7 rfl) rfl rfl ?_
  refine AW.putI (n := 15) fX9_12 wF_X1_153 (isSw_ly0 hpa0) (by have := isSw_lt hpa0; omega) rfl rfl rfl (dat D_X1_takenBy 8 rfl) rfl ?_
  refine AW.ltS h (fun σ3 h => ?_)
  refine AW.aload_n (n := 16) (dat D_X1_takenBy 9 rfl) rfl rfl ?_
  refine AW.iload_n (n := 17) (dat D_X1_takenBy 10 rfl) rfl rfl ?_
  refine AW.putI (n := 20) fX9_13 wF_X1_156 (isSw_ly0 hpa0) (by have := isSw_lt hpa0; omega) rfl rfl rfl (dat D_X1_takenBy 11 rfl) rfl ?_
  refine AW.ltS h (fun σ4 h => ?_)
  refine AW.aload_n (n := 21) (dat D_X1_takenBy 12 rfl) rfl rfl ?_
  refine AW.iload (n := 23) (dat D_X1_takenBy 13 rfl) rfl rfl ?_
  refine AW.putI (n := 26) fX9_14 wF_X1_159 (isSw_ly0 hpa0) (by have := isSw_lt hpa0; omega) rfl rfl rfl (dat D_X1_takenBy 14 rfl) rfl ?_
  refine AW.ltS h (fun σ5 h => ?_)
  refine AW.aload_n (n := 27) (dat D_X1_takenBy 15 rfl) rfl rfl ?_
  refine AW.iconst (n := 28) (dat D_X1_takenBy 16 rfl) rfl ?_
  refine AW.putZ (n := 31) (Or.inr rfl) fX1_15 wF_X1_93 ly_19 (le45 rfl) rfl rfl rfl (dat D_X1_takenBy 17 rfl) rfl ?_
  refine AW.ltS h (fun σ6 h => ?_)
  cases h
  exact AW.vret rfl rfl rfl (dat D_X1_takenBy 18 rfl)
def L_X9_lastPlace : List (Nat × Instr × Nat) := [(0, .aload_n 0, 1), (1, .getfield 50, 3), (4, .ifCond .ne 15, 3), (7, .aload_n 0, 1), (8, .getfield 25, 3), (11, .aload_n 0, 1), (12, .getfield 53, 3), (15, .isub, 1), (16, .goto 12, 3), (19, .aload_n 0, 1), (20, .getfield 25, 3), (23, .aload_n 0, 1), (24, .getfield 53, 3), (27, .iadd, 1), (28, .ireturn, 1)]
theorem D_X9_lastPlace : dOK cX9_lastPlace L_X9_lastPlace = true := by decide +kernel
theorem cf_X9_lastPlace : CFV mX9_lastPlace 0 := ⟨wI_X9_lastPlace, wS_X9_lastPlace, wN_WaveRight_Swimmer, wC_X9_lastPlace, rfl, ⟨by decide +kernel, by decide +kernel, by decide +kernel⟩, le45 rfl⟩
def X9_lastPlace (n : Nat) (k : Nat) (σ : SG) : Option (Int) :=
  if w32 (σ k 12) = 0 then
    some (((σ k 3) - (σ k 13)))
  else
    some (((σ k 3) + (σ k 13)))
set_option maxHeartbeats 4000000 in
set_option maxRecDepth 100000 in
theorem A_X9_lastPlace {Γ : GA} (hΓ : (gl Γ).stackTraces = false) {n : Nat} {k : Nat} {σ : SG} {r : Int} (hpk : isSw k = true) (h : X9_lastPlace n k σ = some r) : AM Γ mX9_lastPlace 1 0 0 [vR k] (85, σ) (0, r) (85, σ) := by
  refine AM.of pl_X9 rfl wC_X9_lastPlace (le45 rfl) hΓ ?_
  refine AW.to (ls'' := [some (vR k)]) ?_ (lle_s rfl (lle_z))
  unfold X9_lastPlace at h
  refine AW.aload_n (n := 1) (dat D_X9_lastPlace 0 rfl) rfl rfl ?_
  refine AW.getI (n := 4) fX9_12 wF_X9_50 (isSw_ly0 hpk) (by have := isSw_lt hpk; omega) rfl rfl (dat D_X9_lastPlace 1 rfl) rfl ?_
  refine AW.if_neH (t := 19) (n := 7) h (dat D_X9_lastPlace 2 rfl) rfl rfl (fun h => ?_) (fun h => ?_)
  · refine AW.aload_n (n := 8) (dat D_X9_lastPlace 3 rfl) rfl rfl ?_
    refine AW.getI (n := 11) fX9_3 wF_X9_25 (isSw_ly0 hpk) (by have := isSw_lt hpk; omega) rfl rfl (dat D_X9_lastPlace 4 rfl) rfl ?_
    refine AW.aload_n (n := 12) (dat D_X9_lastPlace 5 rfl) rfl rfl ?_
    refine AW.getI (n := 15) fX9_13 wF_X9_53 (isSw_ly0 hpk) (by have := isSw_lt hpk; omega) rfl rfl (dat D_X9_lastPlace 6 rfl) rfl ?_
    refine AW.isub (n := 16) (dat D_X9_lastPlace 7 rfl) rfl ?_
    refine AW.goto (t := 28) (dat D_X9_lastPlace 8 rfl) rfl ?_
    cases h
    exact AW.iret rfl rfl rfl (dat D_X9_lastPlace 14 rfl)
  · refine AW.aload_n (n := 20) (dat D_X9_lastPlace 9 rfl) rfl rfl ?_
    refine AW.getI (n := 23) fX9_3 wF_X9_25 (isSw_ly0 hpk) (by have := isSw_lt hpk; omega) rfl rfl (dat D_X9_lastPlace 10 rfl) rfl ?_
    refine AW.aload_n (n := 24) (dat D_X9_lastPlace 11 rfl) rfl rfl ?_
    refine AW.getI (n := 27) fX9_13 wF_X9_53 (isSw_ly0 hpk) (by have := isSw_lt hpk; omega) rfl rfl (dat D_X9_lastPlace 12 rfl) rfl ?_
    refine AW.iadd (n := 28) (dat D_X9_lastPlace 13 rfl) rfl ?_
    cases h
    exact AW.iret rfl rfl rfl (dat D_X9_lastPlace 14 rfl)
def L_X11_take : List (Nat × Instr × Nat) := [(0, .aload_n 0, 1), (1, .iload_n 1, 1), (2, .invokevirtual 145, 3), (5, .iload_n 2, 1), (6, .ifCond .eq 18, 3), (9, .iload_n 2, 1), (10, .iconst 1, 1), (11, .if_icmp .eq 13, 3), (14, .new 95, 3), (17, .dup, 1), (18, .ldc 208, 2), (20, .invokespecial 99, 3), (23, .athrow, 1), (24, .aload_n 0, 1), (25, .iload_n 3, 1), (26, .iload 4, 2), (28, .invokevirtual 210, 3), (31, .aload_n 0, 1), (32, .getfield 55, 3), (35, .getfield 148, 3), (38, .iload_n 1, 1), (39, .aaload, 1), (40, .astore 5, 2), (42, .aload_n 0, 1), (43, .getfield 55, 3), (46, .getfield 213, 3), (49, .iconst (-1), 1), (50, .if_icmp .eq 35, 3), (53, .aload 5, 2), (55, .getfield 160, 3), (58, .ifCond .eq 27, 3), (61, .aload_n 0, 1), (62, .getfield 55, 3), (65, .aload_n 0, 1), (66, .getfield 55, 3), (69, .getfield 213, 3), (72, .aload 5, 2), (74, .getfield 152, 3), (77, .iload_n 2, 1), (78, .iload_n 3, 1), (79, .invokevirtual 216, 3), (82, .ifCond .ne 13, 3), (85, .new 125, 3), (88, .dup, 1), (89, .ldc 220, 2), (91, .invokespecial 129, 3), (94, .athrow, 1), (95, .aload_n 0, 1), (96, .getfield 55, 3), (99, .aload 5, 2), (101, .iload_n 2, 1), (102, .iload_n 3, 1), (103, .iload 4, 2), (105, .invokevirtual 222, 3), (108, .aload 5, 2), (110, .invokevirtual 226, 3), (113, .ireturn, 1)]
theorem D_X11_take : dOK cX11_take L_X11_take = true := by decide +kernel
theorem cf_X11_take : CFV mX11_take 4 := ⟨wI_X11_take, wS_X11_take, wN_WaveRight, wC_X11_take, rfl, ⟨by decide +kernel, by decide +kernel, by decide +kernel⟩, le45 rfl⟩
def X11_take (n : Nat) (a0 : Int) (a1 : Int) (a2 : Int) (a3 : Int) (σ : SG) : Option ((Nat × Int) × SG) :=
  (X11_mustBeSurfer n a0 σ).bind fun t2 => if t2 = 0 then
  if w32 a1 = 0 then
    (X11_mustBeRide n a2 a3 σ).bind fun t4 => if t4 = 0 then
    rdA 5 a0 fun j5 => ckR isSw (σ 34 j5) fun k6 =>
    if w32 (σ 19 13) = (-1) then
      some (((4, 0), σ))
    else
      if w32 (σ k6 6) = 0 then
        some (((4, 0), σ))
      else
        (X1_canGo n (σ 19 13) (σ k6 3) a1 a2 σ).bind fun v8 =>
        if w32 v8 = 0 then
          some (((4, 0), σ))
        else
          (X1_takenBy n k6 a1 a2 a3 σ).bind fun σ10 =>
          (X9_lastPlace n k6 σ10).bind fun v12 =>
          some (((0, v12), σ10))
    else some (((t4, 0), σ))
  else
    if w32 a1 = 1 then
      (X11_mustBeRide n a2 a3 σ).bind fun t14 => if t14 = 0 then
      rdA 5 a0 fun j15 => ckR isSw (σ 34 j15) fun k16 =>
      if w32 (σ 19 13) = (-1) then
        some (((4, 0), σ))
      else
        if w32 (σ k16 6) = 0 then
          some (((4, 0), σ))
        else
          (X1_canGo n (σ 19 13) (σ k16 3) a1 a2 σ).bind fun v18 =>
          if w32 v18 = 0 then
            some (((4, 0), σ))
          else
            (X1_takenBy n k16 a1 a2 a3 σ).bind fun σ20 =>
            (X9_lastPlace n k16 σ20).bind fun v22 =>
            some (((0, v22), σ20))
      else some (((t14, 0), σ))
    else
      some (((2, 0), σ))
  else some (((t2, 0), σ))
set_option maxHeartbeats 4000000 in
set_option maxRecDepth 100000 in
theorem A_X11_take {Γ : GA} (hΓ : (gl Γ).stackTraces = false) {n : Nat} {a0 : Int} {a1 : Int} {a2 : Int} {a3 : Int} {σ : SG} {o : Nat × Int} {τ : SG}  (h : X11_take n a0 a1 a2 a3 σ = some (o, τ)) : AM Γ mX11_take 9 8 48 [vR 0, vI a0, vI a1, vI a2, vI a3] (85, σ) o (85, τ) := by
  refine AM.of pl_X11 rfl wC_X11_take (le45 rfl) hΓ ?_
  refine AW.to (ls'' := [some (vR 0), some (vI a0), some (vI a1), some (vI a2), some (vI a3), none]) ?_ (lle_s rfl (lle_s rfl (lle_s rfl (lle_s rfl (lle_s rfl (lle_e (lle_z)))))))
  unfold X11_take at h
  refine AW.aload_n (n := 1) (dat D_X11_take 0 rfl) rfl rfl ?_
  refine AW.iload_n (n := 2) (dat D_X11_take 1 rfl) rfl rfl ?_
  obtain ⟨t2, hc1, h⟩ := ob_some h
  refine AW.cV (n := 5) (as := [vI a0]) (st := []) (st' := []) (uc' := 7) (us' := 42) (A_X11_mustBeSurfer hΓ hc1) cf_X11_mustBeSurfer ly_0 (le45 rfl) vc_11 (le45 rfl) wM_X11_145 (le45 rfl) (le45 rfl) (dat D_X11_take 2 rfl) rfl rfl (le45 rfl) (le45 rfl) rfl (fun q => ?_) (fun q => ?_)
  rotate_left
  · have h := ite_f h (by have q : 0 < t2 := q; omega)
    cases h
    exact AX.out rfl q rfl rfl
  have h := ite_t h q
  refine AW.iload_n (n := 6) (dat D_X11_take 3 rfl) rfl rfl ?_
  refine AW.if_eqH (t := 24) (n := 9) h (dat D_X11_take 4 rfl) rfl rfl (fun h => ?_) (fun h => ?_)
  · refine AW.aload_n (n := 25) (dat D_X11_take 13 rfl) rfl rfl ?_
    refine AW.iload_n (n := 26) (dat D_X11_take 14 rfl) rfl rfl ?_
    refine AW.iload (n := 28) (dat D_X11_take 15 rfl) rfl rfl ?_
    obtain ⟨t4, hc3, h⟩ := ob_some h
    refine AW.cV (n := 31) (as := [vI a2, vI a3]) (st := []) (st' := []) (uc' := 6) (us' := 36) (A_X11_mustBeRide hΓ hc3) cf_X11_mustBeRide ly_0 (le45 rfl) vc_11 (le45 rfl) wM_X11_210 (le45 rfl) (le45 rfl) (dat D_X11_take 16 rfl) rfl rfl (le45 rfl) (le45 rfl) rfl (fun q => ?_) (fun q => ?_)
    rotate_left
    · have h := ite_f h (by have q : 0 < t4 := q; omega)
      cases h
      exact AX.out rfl q rfl rfl
    have h := ite_t h q
    refine AW.aload_n (n := 32) (dat D_X11_take 17 rfl) rfl rfl ?_
    refine AW.getR (n := 35) (t := 19) fX11_6 wF_X11_55 ly_0 (le45 rfl) rfl (dat D_X11_take 18 rfl) rfl ?_
    refine AW.getR (n := 38) (t := 34) fX1_2 wF_X11_148 ly_19 (le45 rfl) rfl (dat D_X11_take 19 rfl) rfl ?_
    refine AW.iload_n (n := 39) (dat D_X11_take 20 rfl) rfl rfl ?_
    refine AW.aaldH h (n := 40) rfl ly_34 (le45 rfl) (dat D_X11_take 21 rfl) rfl (fun j5 k6 hpk6 h => ?_)
    refine AW.astore (n := 42) (ls' := [some (vR 0), some (vI a0), some (vI a1), some (vI a2), some (vI a3), some (vR k6)]) (dat D_X11_take 22 rfl) rfl (le45 rfl) (le45 rfl) rfl rfl ?_
    refine AW.aload_n (n := 43) (dat D_X11_take 23 rfl) rfl rfl ?_
    refine AW.getR (n := 46) (t := 19) fX11_6 wF_X11_55 ly_0 (le45 rfl) rfl (dat D_X11_take 24 rfl) rfl ?_
    refine AW.getI (n := 49) fX1_13 wF_X11_213 ly_19 (le45 rfl) rfl rfl (dat D_X11_take 25 rfl) rfl ?_
    refine AW.iconst (n := 50) (dat D_X11_take 26 rfl) rfl ?_
    refine AW.icmp_eqH (t := 85) (n := 53) h (dat D_X11_take 27 rfl) rfl rfl rfl (by decide) (fun h => ?_) (fun h => ?_)
    · cases h
      exact AW.throw (k := 4) (j := 35) (by decide) thrW_4 wL_X11_125 wN_java_lang_IllegalStateException rfl wM_X11_129 (dat D_X11_take 42 rfl) (dat D_X11_take 43 rfl) (dat D_X11_take 44 rfl) (dat D_X11_take 45 rfl) (dat D_X11_take 46 rfl) rfl (le45 rfl) (le45 rfl) rfl rfl (le45 rfl) (le45 rfl)
    · refine AW.aload (n := 55) (dat D_X11_take 28 rfl) rfl rfl ?_
      refine AW.getI (n := 58) fX9_6 wF_X11_160 (isSw_ly0 hpk6) (by have := isSw_lt hpk6; omega) rfl rfl (dat D_X11_take 29 rfl) rfl ?_
      refine AW.if_eqH (t := 85) (n := 61) h (dat D_X11_take 30 rfl) rfl rfl (fun h => ?_) (fun h => ?_)
      · cases h
        exact AW.throw (k := 4) (j := 35) (by decide) thrW_4 wL_X11_125 wN_java_lang_IllegalStateException rfl wM_X11_129 (dat D_X11_take 42 rfl) (dat D_X11_take 43 rfl) (dat D_X11_take 44 rfl) (dat D_X11_take 45 rfl) (dat D_X11_take 46 rfl) rfl (le45 rfl) (le45 rfl) rfl rfl (le45 rfl) (le45 rfl)
      · refine AW.aload_n (n := 62) (dat D_X11_take 31 rfl) rfl rfl ?_
        refine AW.getR (n := 65) (t := 19) fX11_6 wF_X11_55 ly_0 (le45 rfl) rfl (dat D_X11_take 32 rfl) rfl ?_
        refine AW.aload_n (n := 66) (dat D_X11_take 33 rfl) rfl rfl ?_
        refine AW.getR (n := 69) (t := 19) fX11_6 wF_X11_55 ly_0 (le45 rfl) rfl (dat D_X11_take 34 rfl) rfl ?_
        refine AW.getI (n := 72) fX1_13 wF_X11_213 ly_19 (le45 rfl) rfl rfl (dat D_X11_take 35 rfl) rfl ?_
        refine AW.aload (n := 74) (dat D_X11_take 36 rfl) rfl rfl ?_
        refine AW.getI (n := 77) fX9_3 wF_X11_152 (isSw_ly0 hpk6) (by have := isSw_lt hpk6; omega) rfl rfl (dat D_X11_take 37 rfl) rfl ?_
        refine AW.iload_n (n := 78) (dat D_X11_take 38 rfl) rfl rfl ?_
        refine AW.iload_n (n := 79) (dat D_X11_take 39 rfl) rfl rfl ?_
        obtain ⟨v8, hc7, h⟩ := ob_some h
        refine AW.cV (n := 82) (as := [vI (σ 19 13), vI (σ k6 3), vI a1, vI a2]) (st := []) (st' := [vI v8]) (uc' := 6) (us' := 36) (A_X1_canGo hΓ hc7) cf_X1_canGo ly_19 (le45 rfl) vc_1 (le45 rfl) wM_X11_216 (le45 rfl) (le45 rfl) (dat D_X11_take 40 rfl) rfl rfl (le45 rfl) (le45 rfl) rfl (fun _ => ?_) nlt0
        refine AW.if_neH (t := 95) (n := 85) h (dat D_X11_take 41 rfl) rfl rfl (fun h => ?_) (fun h => ?_)
        · cases h
          exact AW.throw (k := 4) (j := 35) (by decide) thrW_4 wL_X11_125 wN_java_lang_IllegalStateException rfl wM_X11_129 (dat D_X11_take 42 rfl) (dat D_X11_take 43 rfl) (dat D_X11_take 44 rfl) (dat D_X11_take 45 rfl) (dat D_X11_take 46 rfl) rfl (le45 rfl) (le45 rfl) rfl rfl (le45 rfl) (le45 rfl)
        · refine AW.aload_n (n := 96) (dat D_X11_take 47 rfl) rfl rfl ?_
          refine AW.getR (n := 99) (t := 19) fX11_6 wF_X11_55 ly_0 (le45 rfl) rfl (dat D_X11_take 48 rfl) rfl ?_
          refine AW.aload (n := 101) (dat D_X11_take 49 rfl) rfl rfl ?_
          refine AW.iload_n (n := 102) (dat D_X11_take 50 rfl) rfl rfl ?_
          refine AW.iload_n (n := 103) (dat D_X11_take 51 rfl) rfl rfl ?_
          refine AW.iload (n := 105) (dat D_X11_take 52 rfl) rfl rfl ?_
          obtain ⟨σ10, hc9, h⟩ := ob_some h
          refine AW.cV (n := 108) (as := [vR k6, vI a1, vI a2, vI a3]) (st := []) (st' := []) (uc' := 6) (us' := 36) (A_X1_takenBy hΓ hpk6 hc9) cf_X1_takenBy ly_19 (le45 rfl) vc_1 (le45 rfl) wM_X11_222 (le45 rfl) (le45 rfl) (dat D_X11_take 53 rfl) rfl rfl (le45 rfl) (le45 rfl) rfl (fun _ => ?_) nlt0
          refine AW.aload (n := 110) (dat D_X11_take 54 rfl) rfl rfl ?_
          obtain ⟨v12, hc11, h⟩ := ob_some h
          refine AW.cV (n := 113) (as := []) (st := []) (st' := [vI v12]) (uc' := 6) (us' := 36) (A_X9_lastPlace hΓ hpk6 hc11) cf_X9_lastPlace (isSw_ly0 hpk6) (by have := isSw_lt hpk6; omega) vc_9 (le45 rfl) wM_X11_226 (le45 rfl) (le45 rfl) (dat D_X11_take 55 rfl) rfl rfl (le45 rfl) (le45 rfl) rfl (fun _ => ?_) nlt0
          cases h
          exact AW.iret rfl rfl rfl (dat D_X11_take 56 rfl)
  · refine AW.iload_n (n := 10) (dat D_X11_take 5 rfl) rfl rfl ?_
    refine AW.iconst (n := 11) (dat D_X11_take 6 rfl) rfl ?_
    refine AW.icmp_eqH (t := 24) (n := 14) h (dat D_X11_take 7 rfl) rfl rfl rfl (by decide) (fun h => ?_) (fun h => ?_)
    · refine AW.aload_n (n := 25) (dat D_X11_take 13 rfl) rfl rfl ?_
      refine AW.iload_n (n := 26) (dat D_X11_take 14 rfl) rfl rfl ?_
      refine AW.iload (n := 28) (dat D_X11_take 15 rfl) rfl rfl ?_
      obtain ⟨t14, hc13, h⟩ := ob_some h
      refine AW.cV (n := 31) (as := [vI a2, vI a3]) (st := []) (st' := []) (uc' := 6) (us' := 36) (A_X11_mustBeRide hΓ hc13) cf_X11_mustBeRide ly_0 (le45 rfl) vc_11 (le45 rfl) wM_X11_210 (le45 rfl) (le45 rfl) (dat D_X11_take 16 rfl) rfl rfl (le45 rfl) (le45 rfl) rfl (fun q => ?_) (fun q => ?_)
      rotate_left
      · have h := ite_f h (by have q : 0 < t14 := q; omega)
        cases h
        exact AX.out rfl q rfl rfl
      have h := ite_t h q
      refine AW.aload_n (n := 32) (dat D_X11_take 17 rfl) rfl rfl ?_
      refine AW.getR (n := 35) (t := 19) fX11_6 wF_X11_55 ly_0 (le45 rfl) rfl (dat D_X11_take 18 rfl) rfl ?_
      refine AW.getR (n := 38) (t := 34) fX1_2 wF_X11_148 ly_19 (le45 rfl) rfl (dat D_X11_take 19 rfl) rfl ?_
      refine AW.iload_n (n := 39) (dat D_X11_take 20 rfl) rfl rfl ?_
      refine AW.aaldH h (n := 40) rfl ly_34 (le45 rfl) (dat D_X11_take 21 rfl) rfl (fun j15 k16 hpk16 h => ?_)
      refine AW.astore (n := 42) (ls' := [some (vR 0), some (vI a0), some (vI a1), some (vI a2), some (vI a3), some (vR k16)]) (dat D_X11_take 22 rfl) rfl (le45 rfl) (le45 rfl) rfl rfl ?_
      refine AW.aload_n (n := 43) (dat D_X11_take 23 rfl) rfl rfl ?_
      refine AW.getR (n := 46) (t := 19) fX11_6 wF_X11_55 ly_0 (le45 rfl) rfl (dat D_X11_take 24 rfl) rfl ?_
      refine AW.getI (n := 49) fX1_13 wF_X11_213 ly_19 (le45 rfl) rfl rfl (dat D_X11_take 25 rfl) rfl ?_
      refine AW.iconst (n := 50) (dat D_X11_take 26 rfl) rfl ?_
      refine AW.icmp_eqH (t := 85) (n := 53) h (dat D_X11_take 27 rfl) rfl rfl rfl (by decide) (fun h => ?_) (fun h => ?_)
      · cases h
        exact AW.throw (k := 4) (j := 35) (by decide) thrW_4 wL_X11_125 wN_java_lang_IllegalStateException rfl wM_X11_129 (dat D_X11_take 42 rfl) (dat D_X11_take 43 rfl) (dat D_X11_take 44 rfl) (dat D_X11_take 45 rfl) (dat D_X11_take 46 rfl) rfl (le45 rfl) (le45 rfl) rfl rfl (le45 rfl) (le45 rfl)
      · refine AW.aload (n := 55) (dat D_X11_take 28 rfl) rfl rfl ?_
        refine AW.getI (n := 58) fX9_6 wF_X11_160 (isSw_ly0 hpk16) (by have := isSw_lt hpk16; omega) rfl rfl (dat D_X11_take 29 rfl) rfl ?_
        refine AW.if_eqH (t := 85) (n := 61) h (dat D_X11_take 30 rfl) rfl rfl (fun h => ?_) (fun h => ?_)
        · cases h
          exact AW.throw (k := 4) (j := 35) (by decide) thrW_4 wL_X11_125 wN_java_lang_IllegalStateException rfl wM_X11_129 (dat D_X11_take 42 rfl) (dat D_X11_take 43 rfl) (dat D_X11_take 44 rfl) (dat D_X11_take 45 rfl) (dat D_X11_take 46 rfl) rfl (le45 rfl) (le45 rfl) rfl rfl (le45 rfl) (le45 rfl)
        · refine AW.aload_n (n := 62) (dat D_X11_take 31 rfl) rfl rfl ?_
          refine AW.getR (n := 65) (t := 19) fX11_6 wF_X11_55 ly_0 (le45 rfl) rfl (dat D_X11_take 32 rfl) rfl ?_
          refine AW.aload_n (n := 66) (dat D_X11_take 33 rfl) rfl rfl ?_
          refine AW.getR (n := 69) (t := 19) fX11_6 wF_X11_55 ly_0 (le45 rfl) rfl (dat D_X11_take 34 rfl) rfl ?_
          refine AW.getI (n := 72) fX1_13 wF_X11_213 ly_19 (le45 rfl) rfl rfl (dat D_X11_take 35 rfl) rfl ?_
          refine AW.aload (n := 74) (dat D_X11_take 36 rfl) rfl rfl ?_
          refine AW.getI (n := 77) fX9_3 wF_X11_152 (isSw_ly0 hpk16) (by have := isSw_lt hpk16; omega) rfl rfl (dat D_X11_take 37 rfl) rfl ?_
          refine AW.iload_n (n := 78) (dat D_X11_take 38 rfl) rfl rfl ?_
          refine AW.iload_n (n := 79) (dat D_X11_take 39 rfl) rfl rfl ?_
          obtain ⟨v18, hc17, h⟩ := ob_some h
          refine AW.cV (n := 82) (as := [vI (σ 19 13), vI (σ k16 3), vI a1, vI a2]) (st := []) (st' := [vI v18]) (uc' := 6) (us' := 36) (A_X1_canGo hΓ hc17) cf_X1_canGo ly_19 (le45 rfl) vc_1 (le45 rfl) wM_X11_216 (le45 rfl) (le45 rfl) (dat D_X11_take 40 rfl) rfl rfl (le45 rfl) (le45 rfl) rfl (fun _ => ?_) nlt0
          refine AW.if_neH (t := 95) (n := 85) h (dat D_X11_take 41 rfl) rfl rfl (fun h => ?_) (fun h => ?_)
          · cases h
            exact AW.throw (k := 4) (j := 35) (by decide) thrW_4 wL_X11_125 wN_java_lang_IllegalStateException rfl wM_X11_129 (dat D_X11_take 42 rfl) (dat D_X11_take 43 rfl) (dat D_X11_take 44 rfl) (dat D_X11_take 45 rfl) (dat D_X11_take 46 rfl) rfl (le45 rfl) (le45 rfl) rfl rfl (le45 rfl) (le45 rfl)
          · refine AW.aload_n (n := 96) (dat D_X11_take 47 rfl) rfl rfl ?_
            refine AW.getR (n := 99) (t := 19) fX11_6 wF_X11_55 ly_0 (le45 rfl) rfl (dat D_X11_take 48 rfl) rfl ?_
            refine AW.aload (n := 101) (dat D_X11_take 49 rfl) rfl rfl ?_
            refine AW.iload_n (n := 102) (dat D_X11_take 50 rfl) rfl rfl ?_
            refine AW.iload_n (n := 103) (dat D_X11_take 51 rfl) rfl rfl ?_
            refine AW.iload (n := 105) (dat D_X11_take 52 rfl) rfl rfl ?_
            obtain ⟨σ20, hc19, h⟩ := ob_some h
            refine AW.cV (n := 108) (as := [vR k16, vI a1, vI a2, vI a3]) (st := []) (st' := []) (uc' := 6) (us' := 36) (A_X1_takenBy hΓ hpk16 hc19) cf_X1_takenBy ly_19 (le45 rfl) vc_1 (le45 rfl) wM_X11_222 (le45 rfl) (le45 rfl) (dat D_X11_take 53 rfl) rfl rfl (le45 rfl) (le45 rfl) rfl (fun _ => ?_) nlt0
            refine AW.aload (n := 110) (dat D_X11_take 54 rfl) rfl rfl ?_
            obtain ⟨v22, hc21, h⟩ := ob_some h
            refine AW.cV (n := 113) (as := []) (st := []) (st' := [vI v22]) (uc' := 6) (us' := 36) (A_X9_lastPlace hΓ hpk16 hc21) cf_X9_lastPlace (isSw_ly0 hpk16) (by have := isSw_lt hpk16; omega) vc_9 (le45 rfl) wM_X11_226 (le45 rfl) (le45 rfl) (dat D_X11_take 55 rfl) rfl rfl (le45 rfl) (le45 rfl) rfl (fun _ => ?_) nlt0
            cases h
            exact AW.iret rfl rfl rfl (dat D_X11_take 56 rfl)
    · cases h
      exact AW.throw (k := 2) (j := 33) (by decide) thrW_2 wL_X11_95 wN_java_lang_IllegalArgumentException rfl wM_X11_99 (dat D_X11_take 8 rfl) (dat D_X11_take 9 rfl) (dat D_X11_take 10 rfl) (dat D_X11_take 11 rfl) (dat D_X11_take 12 rfl) rfl (le45 rfl) (le45 rfl) rfl rfl (le45 rfl) (le45 rfl)
def L_X11_right : List (Nat × Instr × Nat) := [(0, .aload_n 0, 1), (1, .iload_n 1, 1), (2, .invokevirtual 145, 3), (5, .aload_n 0, 1), (6, .iload_n 2, 1), (7, .invokevirtual 145, 3), (10, .iload_n 1, 1), (11, .iload_n 2, 1), (12, .if_icmp .ne 13, 3), (15, .new 95, 3), (18, .dup, 1), (19, .ldc 229, 2), (21, .invokespecial 99, 3), (24, .athrow, 1), (25, .aload_n 0, 1), (26, .getfield 55, 3), (29, .getfield 213, 3), (32, .iconst (-1), 1), (33, .if_icmp .ne 13, 3), (36, .new 125, 3), (39, .dup, 1), (40, .ldc 231, 2), (42, .invokespecial 129, 3), (45, .athrow, 1), (46, .aload_n 0, 1), (47, .getfield 55, 3), (50, .iload_n 1, 1), (51, .iload_n 2, 1), (52, .invokevirtual 233, 3), (55, .ireturn, 1)]
theorem D_X11_right : dOK cX11_right L_X11_right = true := by decide +kernel
theorem cf_X11_right : CFV mX11_right 2 := ⟨wI_X11_right, wS_X11_right, wN_WaveRight, wC_X11_right, rfl, ⟨by decide +kernel, by decide +kernel, by decide +kernel⟩, le45 rfl⟩
def X11_right (n : Nat) (a0 : Int) (a1 : Int) (σ : SG) : Option ((Nat × Int) × SG) :=
  (X11_mustBeSurfer n a0 σ).bind fun t2 => if t2 = 0 then
  (X11_mustBeSurfer n a1 σ).bind fun t4 => if t4 = 0 then
  if w32 a0 = w32 a1 then
    some (((2, 0), σ))
  else
    if w32 (σ 19 13) = (-1) then
      some (((4, 0), σ))
    else
      (X1_rightOf n a0 a1 σ).bind fun v6 =>
      some (((0, v6), σ))
  else some (((t4, 0), σ))
  else some (((t2, 0), σ))
set_option maxHeartbeats 4000000 in
set_option maxRecDepth 100000 in
theorem A_X11_right {Γ : GA} (hΓ : (gl Γ).stackTraces = false) {n : Nat} {a0 : Int} {a1 : Int} {σ : SG} {o : Nat × Int} {τ : SG}  (h : X11_right n a0 a1 σ = some (o, τ)) : AM Γ mX11_right 9 8 48 [vR 0, vI a0, vI a1] (85, σ) o (85, τ) := by
  refine AM.of pl_X11 rfl wC_X11_right (le45 rfl) hΓ ?_
  refine AW.to (ls'' := [some (vR 0), some (vI a0), some (vI a1)]) ?_ (lle_s rfl (lle_s rfl (lle_s rfl (lle_z))))
  unfold X11_right at h
  refine AW.aload_n (n := 1) (dat D_X11_right 0 rfl) rfl rfl ?_
  refine AW.iload_n (n := 2) (dat D_X11_right 1 rfl) rfl rfl ?_
  obtain ⟨t2, hc1, h⟩ := ob_some h
  refine AW.cV (n := 5) (as := [vI a0]) (st := []) (st' := []) (uc' := 7) (us' := 42) (A_X11_mustBeSurfer hΓ hc1) cf_X11_mustBeSurfer ly_0 (le45 rfl) vc_11 (le45 rfl) wM_X11_145 (le45 rfl) (le45 rfl) (dat D_X11_right 2 rfl) rfl rfl (le45 rfl) (le45 rfl) rfl (fun q => ?_) (fun q => ?_)
  rotate_left
  · have h := ite_f h (by have q : 0 < t2 := q; omega)
    cases h
    exact AX.out rfl q rfl rfl
  have h := ite_t h q
  refine AW.aload_n (n := 6) (dat D_X11_right 3 rfl) rfl rfl ?_
  refine AW.iload_n (n := 7) (dat D_X11_right 4 rfl) rfl rfl ?_
  obtain ⟨t4, hc3, h⟩ := ob_some h
  refine AW.cV (n := 10) (as := [vI a1]) (st := []) (st' := []) (uc' := 6) (us' := 36) (A_X11_mustBeSurfer hΓ hc3) cf_X11_mustBeSurfer ly_0 (le45 rfl) vc_11 (le45 rfl) wM_X11_145 (le45 rfl) (le45 rfl) (dat D_X11_right 5 rfl) rfl rfl (le45 rfl) (le45 rfl) rfl (fun q => ?_) (fun q => ?_)
  rotate_left
  · have h := ite_f h (by have q : 0 < t4 := q; omega)
    cases h
    exact AX.out rfl q rfl rfl
  have h := ite_t h q
  refine AW.iload_n (n := 11) (dat D_X11_right 6 rfl) rfl rfl ?_
  refine AW.iload_n (n := 12) (dat D_X11_right 7 rfl) rfl rfl ?_
  refine AW.icmp_neH (t := 25) (n := 15) h (dat D_X11_right 8 rfl) rfl rfl rfl rfl (fun h => ?_) (fun h => ?_)
  · cases h
    exact AW.throw (k := 2) (j := 36) (by decide) thrW_2 wL_X11_95 wN_java_lang_IllegalArgumentException rfl wM_X11_99 (dat D_X11_right 9 rfl) (dat D_X11_right 10 rfl) (dat D_X11_right 11 rfl) (dat D_X11_right 12 rfl) (dat D_X11_right 13 rfl) rfl (le45 rfl) (le45 rfl) rfl rfl (le45 rfl) (le45 rfl)
  · refine AW.aload_n (n := 26) (dat D_X11_right 14 rfl) rfl rfl ?_
    refine AW.getR (n := 29) (t := 19) fX11_6 wF_X11_55 ly_0 (le45 rfl) rfl (dat D_X11_right 15 rfl) rfl ?_
    refine AW.getI (n := 32) fX1_13 wF_X11_213 ly_19 (le45 rfl) rfl rfl (dat D_X11_right 16 rfl) rfl ?_
    refine AW.iconst (n := 33) (dat D_X11_right 17 rfl) rfl ?_
    refine AW.icmp_neH (t := 46) (n := 36) h (dat D_X11_right 18 rfl) rfl rfl rfl (by decide) (fun h => ?_) (fun h => ?_)
    · cases h
      exact AW.throw (k := 4) (j := 37) (by decide) thrW_4 wL_X11_125 wN_java_lang_IllegalStateException rfl wM_X11_129 (dat D_X11_right 19 rfl) (dat D_X11_right 20 rfl) (dat D_X11_right 21 rfl) (dat D_X11_right 22 rfl) (dat D_X11_right 23 rfl) rfl (le45 rfl) (le45 rfl) rfl rfl (le45 rfl) (le45 rfl)
    · refine AW.aload_n (n := 47) (dat D_X11_right 24 rfl) rfl rfl ?_
      refine AW.getR (n := 50) (t := 19) fX11_6 wF_X11_55 ly_0 (le45 rfl) rfl (dat D_X11_right 25 rfl) rfl ?_
      refine AW.iload_n (n := 51) (dat D_X11_right 26 rfl) rfl rfl ?_
      refine AW.iload_n (n := 52) (dat D_X11_right 27 rfl) rfl rfl ?_
      obtain ⟨v6, hc5, h⟩ := ob_some h
      refine AW.cV (n := 55) (as := [vI a0, vI a1]) (st := []) (st' := [vI v6]) (uc' := 6) (us' := 36) (A_X1_rightOf hΓ hc5) cf_X1_rightOf ly_19 (le45 rfl) vc_1 (le45 rfl) wM_X11_233 (le45 rfl) (le45 rfl) (dat D_X11_right 28 rfl) rfl rfl (le45 rfl) (le45 rfl) rfl (fun _ => ?_) nlt0
      cases h
      exact AW.iret rfl rfl rfl (dat D_X11_right 29 rfl)
def L_X11_hinders : List (Nat × Instr × Nat) := [(0, .aload_n 0, 1), (1, .iload_n 1, 1), (2, .invokevirtual 145, 3), (5, .aload_n 0, 1), (6, .getfield 55, 3), (9, .getfield 148, 3), (12, .iload_n 1, 1), (13, .aaload, 1), (14, .astore_n 2, 1), (15, .aload_n 2, 1), (16, .getfield 236, 3), (19, .ifCond .eq 22, 3), (22, .aload_n 0, 1), (23, .getfield 55, 3), (26, .aload_n 2, 1), (27, .aload_n 2, 1), (28, .getfield 239, 3), (31, .aload_n 2, 1), (32, .getfield 242, 3), (35, .invokevirtual 243, 3), (38, .goto 4, 3), (41, .iconst 0, 1), (42, .ireturn, 1)]
theorem D_X11_hinders : dOK cX11_hinders L_X11_hinders = true := by decide +kernel
theorem cf_X11_hinders : CFV mX11_hinders 1 := ⟨wI_X11_hinders, wS_X11_hinders, wN_WaveRight, wC_X11_hinders, rfl, ⟨by decide +kernel, by decide +kernel, by decide +kernel⟩, le45 rfl⟩
def X11_hinders (n : Nat) (a0 : Int) (σ : SG) : Option ((Nat × Int) × SG) :=
  (X11_mustBeSurfer n a0 σ).bind fun t2 => if t2 = 0 then
  rdA 5 a0 fun j3 => ckR isSw (σ 34 j3) fun k4 =>
  if w32 (σ k4 7) = 0 then
    some (((0, 0), σ))
  else
    (X1_hinderedBy n k4 (σ k4 12) (σ k4 13) σ).bind fun v6 =>
    some (((0, v6), σ))
  else some (((t2, 0), σ))
set_option maxHeartbeats 4000000 in
set_option maxRecDepth 100000 in
theorem A_X11_hinders {Γ : GA} (hΓ : (gl Γ).stackTraces = false) {n : Nat} {a0 : Int} {σ : SG} {o : Nat × Int} {τ : SG}  (h : X11_hinders n a0 σ = some (o, τ)) : AM Γ mX11_hinders 9 8 48 [vR 0, vI a0] (85, σ) o (85, τ) := by
  refine AM.of pl_X11 rfl wC_X11_hinders (le45 rfl) hΓ ?_
  refine AW.to (ls'' := [some (vR 0), some (vI a0), none]) ?_ (lle_s rfl (lle_s rfl (lle_e (lle_z))))
  unfold X11_hinders at h
  refine AW.aload_n (n := 1) (dat D_X11_hinders 0 rfl) rfl rfl ?_
  refine AW.iload_n (n := 2) (dat D_X11_hinders 1 rfl) rfl rfl ?_
  obtain ⟨t2, hc1, h⟩ := ob_some h
  refine AW.cV (n := 5) (as := [vI a0]) (st := []) (st' := []) (uc' := 7) (us' := 42) (A_X11_mustBeSurfer hΓ hc1) cf_X11_mustBeSurfer ly_0 (le45 rfl) vc_11 (le45 rfl) wM_X11_145 (le45 rfl) (le45 rfl) (dat D_X11_hinders 2 rfl) rfl rfl (le45 rfl) (le45 rfl) rfl (fun q => ?_) (fun q => ?_)
  rotate_left
  · have h := ite_f h (by have q : 0 < t2 := q; omega)
    cases h
    exact AX.out rfl q rfl rfl
  have h := ite_t h q
  refine AW.aload_n (n := 6) (dat D_X11_hinders 3 rfl) rfl rfl ?_
  refine AW.getR (n := 9) (t := 19) fX11_6 wF_X11_55 ly_0 (le45 rfl) rfl (dat D_X11_hinders 4 rfl) rfl ?_
  refine AW.getR (n := 12) (t := 34) fX1_2 wF_X11_148 ly_19 (le45 rfl) rfl (dat D_X11_hinders 5 rfl) rfl ?_
  refine AW.iload_n (n := 13) (dat D_X11_hinders 6 rfl) rfl rfl ?_
  refine AW.aaldH h (n := 14) rfl ly_34 (le45 rfl) (dat D_X11_hinders 7 rfl) rfl (fun j3 k4 hpk4 h => ?_)
  refine AW.astore_n (n := 15) (ls' := [some (vR 0), some (vI a0), some (vR k4)]) (dat D_X11_hinders 8 rfl) rfl (le45 rfl) (le45 rfl) rfl rfl ?_
  refine AW.aload_n (n := 16) (dat D_X11_hinders 9 rfl) rfl rfl ?_
  refine AW.getI (n := 19) fX9_7 wF_X11_236 (isSw_ly0 hpk4) (by have := isSw_lt hpk4; omega) rfl rfl (dat D_X11_hinders 10 rfl) rfl ?_
  refine AW.if_eqH (t := 41) (n := 22) h (dat D_X11_hinders 11 rfl) rfl rfl (fun h => ?_) (fun h => ?_)
  · refine AW.iconst (n := 42) (dat D_X11_hinders 21 rfl) rfl ?_
    cases h
    exact AW.iret rfl rfl rfl (dat D_X11_hinders 22 rfl)
  · refine AW.aload_n (n := 23) (dat D_X11_hinders 12 rfl) rfl rfl ?_
    refine AW.getR (n := 26) (t := 19) fX11_6 wF_X11_55 ly_0 (le45 rfl) rfl (dat D_X11_hinders 13 rfl) rfl ?_
    refine AW.aload_n (n := 27) (dat D_X11_hinders 14 rfl) rfl rfl ?_
    refine AW.aload_n (n := 28) (dat D_X11_hinders 15 rfl) rfl rfl ?_
    refine AW.getI (n := 31) fX9_12 wF_X11_239 (isSw_ly0 hpk4) (by have := isSw_lt hpk4; omega) rfl rfl (dat D_X11_hinders 16 rfl) rfl ?_
    refine AW.aload_n (n := 32) (dat D_X11_hinders 17 rfl) rfl rfl ?_
    refine AW.getI (n := 35) fX9_13 wF_X11_242 (isSw_ly0 hpk4) (by have := isSw_lt hpk4; omega) rfl rfl (dat D_X11_hinders 18 rfl) rfl ?_
    obtain ⟨v6, hc5, h⟩ := ob_some h
    refine AW.cV (n := 38) (as := [vR k4, vI (σ k4 12), vI (σ k4 13)]) (st := []) (st' := [vI v6]) (uc' := 7) (us' := 42) (A_X1_hinderedBy hΓ hpk4 hc5) cf_X1_hinderedBy ly_19 (le45 rfl) vc_1 (le45 rfl) wM_X11_243 (le45 rfl) (le45 rfl) (dat D_X11_hinders 19 rfl) rfl rfl (le45 rfl) (le45 rfl) rfl (fun _ => ?_) nlt0
    refine AW.goto (t := 42) (dat D_X11_hinders 20 rfl) rfl ?_
    cases h
    exact AW.iret rfl rfl rfl (dat D_X11_hinders 22 rfl)
def L_X9_rideFact : List (Nat × Instr × Nat) := [(0, .iload_n 1, 1), (1, .bipush 7, 2), (3, .imul, 1), (4, .iload_n 2, 1), (5, .iadd, 1), (6, .istore_n 3, 1), (7, .iload_n 3, 1), (8, .ifCond .lt 12, 3), (11, .iload_n 3, 1), (12, .aload_n 0, 1), (13, .getfield 11, 3), (16, .arraylength, 1), (17, .if_icmp .lt 7, 3), (20, .iconst 0, 1), (21, .goto 9, 3), (24, .aload_n 0, 1), (25, .getfield 11, 3), (28, .iload_n 3, 1), (29, .iaload, 1), (30, .ireturn, 1)]
theorem D_X9_rideFact : dOK cX9_rideFact L_X9_rideFact = true := by decide +kernel
theorem cf_X9_rideFact : CFV mX9_rideFact 2 := ⟨wI_X9_rideFact, wS_X9_rideFact, wN_WaveRight_Swimmer, wC_X9_rideFact, rfl, ⟨by decide +kernel, by decide +kernel, by decide +kernel⟩, le45 rfl⟩
def X9_rideFact (n : Nat) (k : Nat) (a0 : Int) (a1 : Int) (σ : SG) : Option (Int) :=
  lt ((a0 * 7) + a1) fun x1 =>
  if w32 x1 < 0 then
    some (0)
  else
    if w32 x1 < 140 then
      rdA 140 x1 fun j2 =>
      some ((σ (k + 1) j2))
    else
      some (0)
set_option maxHeartbeats 4000000 in
set_option maxRecDepth 100000 in
theorem A_X9_rideFact {Γ : GA} (hΓ : (gl Γ).stackTraces = false) {n : Nat} {k : Nat} {a0 : Int} {a1 : Int} {σ : SG} {r : Int} (hpk : isSw k = true) (h : X9_rideFact n k a0 a1 σ = some r) : AM Γ mX9_rideFact 1 0 0 [vR k, vI a0, vI a1] (85, σ) (0, r) (85, σ) := by
  refine AM.of pl_X9 rfl wC_X9_rideFact (le45 rfl) hΓ ?_
  refine AW.to (ls'' := [some (vR k), some (vI a0), some (vI a1), none]) ?_ (lle_s rfl (lle_s rfl (lle_s rfl (lle_e (lle_z)))))
  unfold X9_rideFact at h
  refine AW.iload_n (n := 1) (dat D_X9_rideFact 0 rfl) rfl rfl ?_
  refine AW.bipush (n := 3) (dat D_X9_rideFact 1 rfl) rfl (by decide) ?_
  refine AW.imul (n := 4) (dat D_X9_rideFact 2 rfl) rfl ?_
  refine AW.iload_n (n := 5) (dat D_X9_rideFact 3 rfl) rfl rfl ?_
  refine AW.iadd (n := 6) (dat D_X9_rideFact 4 rfl) rfl ?_
  refine AW.ltI h (fun x1 h => ?_)
  refine AW.istore_n (n := 7) (ls' := [some (vR k), some (vI a0), some (vI a1), some (vI x1)]) (dat D_X9_rideFact 5 rfl) rfl (le45 rfl) (le45 rfl) rfl rfl ?_
  refine AW.iload_n (n := 8) (dat D_X9_rideFact 6 rfl) rfl rfl ?_
  refine AW.if_ltH (t := 20) (n := 11) h (dat D_X9_rideFact 7 rfl) rfl rfl (fun h => ?_) (fun h => ?_)
  · refine AW.iconst (n := 21) (dat D_X9_rideFact 13 rfl) rfl ?_
    refine AW.goto (t := 30) (dat D_X9_rideFact 14 rfl) rfl ?_
    cases h
    exact AW.iret rfl rfl rfl (dat D_X9_rideFact 19 rfl)
  · refine AW.iload_n (n := 12) (dat D_X9_rideFact 8 rfl) rfl rfl ?_
    refine AW.aload_n (n := 13) (dat D_X9_rideFact 9 rfl) rfl rfl ?_
    refine AW.getR (n := 16) (t := k + 1) fX9_1 wF_X9_11 (isSw_ly0 hpk) (by have := isSw_lt hpk; omega) rfl (dat D_X9_rideFact 10 rfl) rfl ?_
    refine AW.alen20 (n := 17) (x := 140) (isSw_ly1 hpk) (by have := isSw_lt hpk; omega) rfl (dat D_X9_rideFact 11 rfl) rfl ?_
    refine AW.icmp_ltH (t := 24) (n := 20) h (dat D_X9_rideFact 12 rfl) rfl rfl rfl (by decide) (fun h => ?_) (fun h => ?_)
    · refine AW.aload_n (n := 25) (dat D_X9_rideFact 15 rfl) rfl rfl ?_
      refine AW.getR (n := 28) (t := k + 1) fX9_1 wF_X9_11 (isSw_ly0 hpk) (by have := isSw_lt hpk; omega) rfl (dat D_X9_rideFact 16 rfl) rfl ?_
      refine AW.iload_n (n := 29) (dat D_X9_rideFact 17 rfl) rfl rfl ?_
      refine AW.ialdH h (n := 30) rfl (isSw_ly1 hpk) (by have := isSw_lt hpk; omega) (dat D_X9_rideFact 18 rfl) rfl (fun j2 h => ?_)
      cases h
      exact AW.iret rfl rfl rfl (dat D_X9_rideFact 19 rfl)
    · refine AW.iconst (n := 21) (dat D_X9_rideFact 13 rfl) rfl ?_
      refine AW.goto (t := 30) (dat D_X9_rideFact 14 rfl) rfl ?_
      cases h
      exact AW.iret rfl rfl rfl (dat D_X9_rideFact 19 rfl)
def L_X11_ride : List (Nat × Instr × Nat) := [(0, .aload_n 0, 1), (1, .iload_n 1, 1), (2, .invokevirtual 145, 3), (5, .aload_n 0, 1), (6, .getfield 55, 3), (9, .getfield 148, 3), (12, .iload_n 1, 1), (13, .aaload, 1), (14, .astore 4, 2), (16, .iload_n 2, 1), (17, .ifCond .lt 12, 3), (20, .iload_n 2, 1), (21, .aload 4, 2), (23, .getfield 173, 3), (26, .if_icmp .lt 13, 3), (29, .new 246, 3), (32, .dup, 1), (33, .ldc 248, 2), (35, .invokespecial 250, 3), (38, .athrow, 1), (39, .aload_n 0, 1), (40, .iload_n 3, 1), (41, .bipush 7, 2), (43, .invokevirtual 137, 3), (46, .aload 4, 2), (48, .iload_n 2, 1), (49, .iload_n 3, 1), (50, .invokevirtual 251, 3), (53, .ireturn, 1)]
theorem D_X11_ride : dOK cX11_ride L_X11_ride = true := by decide +kernel
theorem cf_X11_ride : CFV mX11_ride 3 := ⟨wI_X11_ride, wS_X11_ride, wN_WaveRight, wC_X11_ride, rfl, ⟨by decide +kernel, by decide +kernel, by decide +kernel⟩, le45 rfl⟩
def X11_ride (n : Nat) (a0 : Int) (a1 : Int) (a2 : Int) (σ : SG) : Option ((Nat × Int) × SG) :=
  (X11_mustBeSurfer n a0 σ).bind fun t2 => if t2 = 0 then
  rdA 5 a0 fun j3 => ckR isSw (σ 34 j3) fun k4 =>
  if w32 a1 < 0 then
    some (((3, 0), σ))
  else
    if w32 a1 < w32 (σ k4 2) then
      (X11_mustBeOneOf n a2 7 σ).bind fun t6 => if t6 = 0 then
      (X9_rideFact n k4 a1 a2 σ).bind fun v8 =>
      some (((0, v8), σ))
      else some (((t6, 0), σ))
    else
      some (((3, 0), σ))
  else some (((t2, 0), σ))
set_option maxHeartbeats 4000000 in
set_option maxRecDepth 100000 in
theorem A_X11_ride {Γ : GA} (hΓ : (gl Γ).stackTraces = false) {n : Nat} {a0 : Int} {a1 : Int} {a2 : Int} {σ : SG} {o : Nat × Int} {τ : SG}  (h : X11_ride n a0 a1 a2 σ = some (o, τ)) : AM Γ mX11_ride 9 8 48 [vR 0, vI a0, vI a1, vI a2] (85, σ) o (85, τ) := by
  refine AM.of pl_X11 rfl wC_X11_ride (le45 rfl) hΓ ?_
  refine AW.to (ls'' := [some (vR 0), some (vI a0), some (vI a1), some (vI a2), none]) ?_ (lle_s rfl (lle_s rfl (lle_s rfl (lle_s rfl (lle_e (lle_z))))))
  unfold X11_ride at h
  refine AW.aload_n (n := 1) (dat D_X11_ride 0 rfl) rfl rfl ?_
  refine AW.iload_n (n := 2) (dat D_X11_ride 1 rfl) rfl rfl ?_
  obtain ⟨t2, hc1, h⟩ := ob_some h
  refine AW.cV (n := 5) (as := [vI a0]) (st := []) (st' := []) (uc' := 7) (us' := 42) (A_X11_mustBeSurfer hΓ hc1) cf_X11_mustBeSurfer ly_0 (le45 rfl) vc_11 (le45 rfl) wM_X11_145 (le45 rfl) (le45 rfl) (dat D_X11_ride 2 rfl) rfl rfl (le45 rfl) (le45 rfl) rfl (fun q => ?_) (fun q => ?_)
  rotate_left
  · have h := ite_f h (by have q : 0 < t2 := q; omega)
    cases h
    exact AX.out rfl q rfl rfl
  have h := ite_t h q
  refine AW.aload_n (n := 6) (dat D_X11_ride 3 rfl) rfl rfl ?_
  refine AW.getR (n := 9) (t := 19) fX11_6 wF_X11_55 ly_0 (le45 rfl) rfl (dat D_X11_ride 4 rfl) rfl ?_
  refine AW.getR (n := 12) (t := 34) fX1_2 wF_X11_148 ly_19 (le45 rfl) rfl (dat D_X11_ride 5 rfl) rfl ?_
  refine AW.iload_n (n := 13) (dat D_X11_ride 6 rfl) rfl rfl ?_
  refine AW.aaldH h (n := 14) rfl ly_34 (le45 rfl) (dat D_X11_ride 7 rfl) rfl (fun j3 k4 hpk4 h => ?_)
  refine AW.astore (n := 16) (ls' := [some (vR 0), some (vI a0), some (vI a1), some (vI a2), some (vR k4)]) (dat D_X11_ride 8 rfl) rfl (le45 rfl) (le45 rfl) rfl rfl ?_
  refine AW.iload_n (n := 17) (dat D_X11_ride 9 rfl) rfl rfl ?_
  refine AW.if_ltH (t := 29) (n := 20) h (dat D_X11_ride 10 rfl) rfl rfl (fun h => ?_) (fun h => ?_)
  · cases h
    exact AW.throw3 (j := 38)  wL_X11_246 wN_java_util_NoSuchElementException rfl wM_X11_250 (dat D_X11_ride 15 rfl) (dat D_X11_ride 16 rfl) (dat D_X11_ride 17 rfl) (dat D_X11_ride 18 rfl) (dat D_X11_ride 19 rfl) rfl (le45 rfl) (le45 rfl) rfl rfl (le45 rfl) (le45 rfl)
  · refine AW.iload_n (n := 21) (dat D_X11_ride 11 rfl) rfl rfl ?_
    refine AW.aload (n := 23) (dat D_X11_ride 12 rfl) rfl rfl ?_
    refine AW.getI (n := 26) fX9_2 wF_X11_173 (isSw_ly0 hpk4) (by have := isSw_lt hpk4; omega) rfl rfl (dat D_X11_ride 13 rfl) rfl ?_
    refine AW.icmp_ltH (t := 39) (n := 29) h (dat D_X11_ride 14 rfl) rfl rfl rfl rfl (fun h => ?_) (fun h => ?_)
    · refine AW.aload_n (n := 40) (dat D_X11_ride 20 rfl) rfl rfl ?_
      refine AW.iload_n (n := 41) (dat D_X11_ride 21 rfl) rfl rfl ?_
      refine AW.bipush (n := 43) (dat D_X11_ride 22 rfl) rfl (by decide) ?_
      obtain ⟨t6, hc5, h⟩ := ob_some h
      refine AW.cV (n := 46) (as := [vI a2, vI 7]) (st := []) (st' := []) (uc' := 6) (us' := 36) (A_X11_mustBeOneOf hΓ hc5) cf_X11_mustBeOneOf ly_0 (le45 rfl) vc_11 (le45 rfl) wM_X11_137 (le45 rfl) (le45 rfl) (dat D_X11_ride 23 rfl) rfl rfl (le45 rfl) (le45 rfl) rfl (fun q => ?_) (fun q => ?_)
      rotate_left
      · have h := ite_f h (by have q : 0 < t6 := q; omega)
        cases h
        exact AX.out rfl q rfl rfl
      have h := ite_t h q
      refine AW.aload (n := 48) (dat D_X11_ride 24 rfl) rfl rfl ?_
      refine AW.iload_n (n := 49) (dat D_X11_ride 25 rfl) rfl rfl ?_
      refine AW.iload_n (n := 50) (dat D_X11_ride 26 rfl) rfl rfl ?_
      obtain ⟨v8, hc7, h⟩ := ob_some h
      refine AW.cV (n := 53) (as := [vI a1, vI a2]) (st := []) (st' := [vI v8]) (uc' := 6) (us' := 36) (A_X9_rideFact hΓ hpk4 hc7) cf_X9_rideFact (isSw_ly0 hpk4) (by have := isSw_lt hpk4; omega) vc_9 (le45 rfl) wM_X11_251 (le45 rfl) (le45 rfl) (dat D_X11_ride 27 rfl) rfl rfl (le45 rfl) (le45 rfl) rfl (fun _ => ?_) nlt0
      cases h
      exact AW.iret rfl rfl rfl (dat D_X11_ride 28 rfl)
    · cases h
      exact AW.throw3 (j := 38)  wL_X11_246 wN_java_util_NoSuchElementException rfl wM_X11_250 (dat D_X11_ride 15 rfl) (dat D_X11_ride 16 rfl) (dat D_X11_ride 17 rfl) (dat D_X11_ride 18 rfl) (dat D_X11_ride 19 rfl) rfl (le45 rfl) (le45 rfl) rfl rfl (le45 rfl) (le45 rfl)
def L_X11_would : List (Nat × Instr × Nat) := [(0, .aload_n 0, 1), (1, .iload_n 1, 1), (2, .invokevirtual 145, 3), (5, .aload_n 0, 1), (6, .iload_n 2, 1), (7, .invokevirtual 134, 3), (10, .aload_n 0, 1), (11, .iload_n 3, 1), (12, .invokevirtual 193, 3), (15, .aload_n 0, 1), (16, .iload 4, 2), (18, .iload 5, 2), (20, .invokevirtual 210, 3), (23, .aload_n 0, 1), (24, .getfield 55, 3), (27, .aload_n 0, 1), (28, .getfield 55, 3), (31, .getfield 148, 3), (34, .iload_n 1, 1), (35, .aaload, 1), (36, .iload_n 2, 1), (37, .iload_n 3, 1), (38, .iload 4, 2), (40, .iload 5, 2), (42, .invokevirtual 254, 3), (45, .ireturn, 1)]
theorem D_X11_would : dOK cX11_would L_X11_would = true := by decide +kernel
theorem cf_X11_would : CFV mX11_would 5 := ⟨wI_X11_would, wS_X11_would, wN_WaveRight, wC_X11_would, rfl, ⟨by decide +kernel, by decide +kernel, by decide +kernel⟩, le45 rfl⟩
def X11_would (n : Nat) (a0 : Int) (a1 : Int) (a2 : Int) (a3 : Int) (a4 : Int) (σ : SG) : Option ((Nat × Int) × SG) :=
  (X11_mustBeSurfer n a0 σ).bind fun t2 => if t2 = 0 then
  (X11_mustBeWave n a1 σ).bind fun t4 => if t4 = 0 then
  (X11_mustBePlace n a2 σ).bind fun t6 => if t6 = 0 then
  (X11_mustBeRide n a3 a4 σ).bind fun t8 => if t8 = 0 then
  rdA 5 a0 fun j9 => ckR isSw (σ 34 j9) fun k10 =>
  bnd2 (X1_scoreOf n k10 a1 a2 a3 a4 σ) fun v12 σ13 =>
  some (((0, v12), σ13))
  else some (((t8, 0), σ))
  else some (((t6, 0), σ))
  else some (((t4, 0), σ))
  else some (((t2, 0), σ))
set_option maxHeartbeats 4000000 in
set_option maxRecDepth 100000 in
theorem A_X11_would {Γ : GA} (hΓ : (gl Γ).stackTraces = false) {n : Nat} {a0 : Int} {a1 : Int} {a2 : Int} {a3 : Int} {a4 : Int} {σ : SG} {o : Nat × Int} {τ : SG}  (h : X11_would n a0 a1 a2 a3 a4 σ = some (o, τ)) : AM Γ mX11_would 9 8 48 [vR 0, vI a0, vI a1, vI a2, vI a3, vI a4] (85, σ) o (85, τ) := by
  refine AM.of pl_X11 rfl wC_X11_would (le45 rfl) hΓ ?_
  refine AW.to (ls'' := [some (vR 0), some (vI a0), some (vI a1), some (vI a2), some (vI a3), some (vI a4)]) ?_ (lle_s rfl (lle_s rfl (lle_s rfl (lle_s rfl (lle_s rfl (lle_s rfl (lle_z)))))))
  unfold X11_would at h
  refine AW.aload_n (n := 1) (dat D_X11_would 0 rfl) rfl rfl ?_
  refine AW.iload_n (n := 2) (dat D_X11_would 1 rfl) rfl rfl ?_
  obtain ⟨t2, hc1, h⟩ := ob_some h
  refine AW.cV (n := 5) (as := [vI a0]) (st := []) (st' := []) (uc' := 7) (us' := 42) (A_X11_mustBeSurfer hΓ hc1) cf_X11_mustBeSurfer ly_0 (le45 rfl) vc_11 (le45 rfl) wM_X11_145 (le45 rfl) (le45 rfl) (dat D_X11_would 2 rfl) rfl rfl (le45 rfl) (le45 rfl) rfl (fun q => ?_) (fun q => ?_)
  rotate_left
  · have h := ite_f h (by have q : 0 < t2 := q; omega)
    cases h
    exact AX.out rfl q rfl rfl
  have h := ite_t h q
  refine AW.aload_n (n := 6) (dat D_X11_would 3 rfl) rfl rfl ?_
  refine AW.iload_n (n := 7) (dat D_X11_would 4 rfl) rfl rfl ?_
  obtain ⟨t4, hc3, h⟩ := ob_some h
  refine AW.cV (n := 10) (as := [vI a1]) (st := []) (st' := []) (uc' := 6) (us' := 36) (A_X11_mustBeWave hΓ hc3) cf_X11_mustBeWave ly_0 (le45 rfl) vc_11 (le45 rfl) wM_X11_134 (le45 rfl) (le45 rfl) (dat D_X11_would 5 rfl) rfl rfl (le45 rfl) (le45 rfl) rfl (fun q => ?_) (fun q => ?_)
  rotate_left
  · have h := ite_f h (by have q : 0 < t4 := q; omega)
    cases h
    exact AX.out rfl q rfl rfl
  have h := ite_t h q
  refine AW.aload_n (n := 11) (dat D_X11_would 6 rfl) rfl rfl ?_
  refine AW.iload_n (n := 12) (dat D_X11_would 7 rfl) rfl rfl ?_
  obtain ⟨t6, hc5, h⟩ := ob_some h
  refine AW.cV (n := 15) (as := [vI a2]) (st := []) (st' := []) (uc' := 5) (us' := 30) (A_X11_mustBePlace hΓ hc5) cf_X11_mustBePlace ly_0 (le45 rfl) vc_11 (le45 rfl) wM_X11_193 (le45 rfl) (le45 rfl) (dat D_X11_would 8 rfl) rfl rfl (le45 rfl) (le45 rfl) rfl (fun q => ?_) (fun q => ?_)
  rotate_left
  · have h := ite_f h (by have q : 0 < t6 := q; omega)
    cases h
    exact AX.out rfl q rfl rfl
  have h := ite_t h q
  refine AW.aload_n (n := 16) (dat D_X11_would 9 rfl) rfl rfl ?_
  refine AW.iload (n := 18) (dat D_X11_would 10 rfl) rfl rfl ?_
  refine AW.iload (n := 20) (dat D_X11_would 11 rfl) rfl rfl ?_
  obtain ⟨t8, hc7, h⟩ := ob_some h
  refine AW.cV (n := 23) (as := [vI a3, vI a4]) (st := []) (st' := []) (uc' := 4) (us' := 24) (A_X11_mustBeRide hΓ hc7) cf_X11_mustBeRide ly_0 (le45 rfl) vc_11 (le45 rfl) wM_X11_210 (le45 rfl) (le45 rfl) (dat D_X11_would 12 rfl) rfl rfl (le45 rfl) (le45 rfl) rfl (fun q => ?_) (fun q => ?_)
  rotate_left
  · have h := ite_f h (by have q : 0 < t8 := q; omega)
    cases h
    exact AX.out rfl q rfl rfl
  have h := ite_t h q
  refine AW.aload_n (n := 24) (dat D_X11_would 13 rfl) rfl rfl ?_
  refine AW.getR (n := 27) (t := 19) fX11_6 wF_X11_55 ly_0 (le45 rfl) rfl (dat D_X11_would 14 rfl) rfl ?_
  refine AW.aload_n (n := 28) (dat D_X11_would 15 rfl) rfl rfl ?_
  refine AW.getR (n := 31) (t := 19) fX11_6 wF_X11_55 ly_0 (le45 rfl) rfl (dat D_X11_would 16 rfl) rfl ?_
  refine AW.getR (n := 34) (t := 34) fX1_2 wF_X11_148 ly_19 (le45 rfl) rfl (dat D_X11_would 17 rfl) rfl ?_
  refine AW.iload_n (n := 35) (dat D_X11_would 18 rfl) rfl rfl ?_
  refine AW.aaldH h (n := 36) rfl ly_34 (le45 rfl) (dat D_X11_would 19 rfl) rfl (fun j9 k10 hpk10 h => ?_)
  refine AW.iload_n (n := 37) (dat D_X11_would 20 rfl) rfl rfl ?_
  refine AW.iload_n (n := 38) (dat D_X11_would 21 rfl) rfl rfl ?_
  refine AW.iload (n := 40) (dat D_X11_would 22 rfl) rfl rfl ?_
  refine AW.iload (n := 42) (dat D_X11_would 23 rfl) rfl rfl ?_
  obtain ⟨v12, σ13, hc11, h⟩ := bnd2_some h
  refine AW.cV (n := 45) (as := [vR k10, vI a1, vI a2, vI a3, vI a4]) (st := []) (st' := [vI v12]) (uc' := 4) (us' := 24) (A_X1_scoreOf hΓ hpk10 hc11) cf_X1_scoreOf ly_19 (le45 rfl) vc_1 (le45 rfl) wM_X11_254 (le45 rfl) (le45 rfl) (dat D_X11_would 24 rfl) rfl rfl (le45 rfl) (le45 rfl) rfl (fun _ => ?_) nlt0
  cases h
  exact AW.iret rfl rfl rfl (dat D_X11_would 25 rfl)
def L_X11_ranked : List (Nat × Instr × Nat) := [(0, .iconst 0, 1), (1, .istore_n 2, 1), (2, .iload_n 2, 1), (3, .aload_n 0, 1), (4, .getfield 55, 3), (7, .getfield 102, 3), (10, .getfield 122, 3), (13, .if_icmp .ge 32, 3), (16, .aload_n 0, 1), (17, .getfield 64, 3), (20, .aload_n 0, 1), (21, .getfield 55, 3), (24, .getfield 148, 3), (27, .iload_n 2, 1), (28, .aaload, 1), (29, .iconst 0, 1), (30, .invokevirtual 180, 3), (33, .iload_n 1, 1), (34, .if_icmp .ne 5, 3), (37, .iload_n 2, 1), (38, .ireturn, 1), (39, .iinc 2 1, 3), (42, .goto (-40), 3), (45, .new 246, 3), (48, .dup, 1), (49, .ldc_w 258, 3), (52, .invokespecial 250, 3), (55, .athrow, 1)]
theorem D_X11_ranked : dOK cX11_ranked L_X11_ranked = true := by decide +kernel
theorem cf_X11_ranked : CFV mX11_ranked 1 := ⟨wI_X11_ranked, wS_X11_ranked, wN_WaveRight, wC_X11_ranked, rfl, ⟨by decide +kernel, by decide +kernel, by decide +kernel⟩, le45 rfl⟩
def X11_ranked_e2 (n : Nat) (σ : SG) : Option ((Nat × Int) × SG) :=
  some (((3, 0), σ))
def X11_ranked_l2 (n : Nat) (σ : SG) (a0 : Int) (z1 : Int) : Option ((Int) ⊕ ((Unit) ⊕ ((Nat × Int) × SG))) :=
  ckR isSea (σ 19 0) fun k3 =>
  if w32 (σ k3 5) ≤ w32 z1 then
    some (.inr (.inl ()))
  else
    rdA 5 z1 fun j4 => ckR isSw (σ 34 j4) fun k5 =>
    (X8_rankWith n k5 0 σ).bind fun v7 =>
    if w32 v7 = w32 a0 then
      some (.inr (.inr ((0, z1), σ)))
    else
      lt (z1 + 1) fun x8 =>
      some (.inl x8)
def X11_ranked (n : Nat) (a0 : Int) (σ : SG) : Option ((Nat × Int) × SG) :=
  ((iter n (fun s : Int => X11_ranked_l2 n σ a0 s) 0) : Option ((Unit) ⊕ ((Nat × Int) × SG))).bind (orr (fun s => X11_ranked_e2 n σ))
set_option maxHeartbeats 4000000 in
set_option maxRecDepth 100000 in
theorem A_X11_ranked {Γ : GA} (hΓ : (gl Γ).stackTraces = false) {n : Nat} {a0 : Int} {σ : SG} {o : Nat × Int} {τ : SG}  (h : X11_ranked n a0 σ = some (o, τ)) : AM Γ mX11_ranked 8 8 48 [vR 0, vI a0] (85, σ) o (85, τ) := by
  refine AM.of pl_X11 rfl wC_X11_ranked (le45 rfl) hΓ ?_
  refine AW.to (ls'' := [some (vR 0), some (vI a0), none]) ?_ (lle_s rfl (lle_s rfl (lle_e (lle_z))))
  unfold X11_ranked at h
  refine AW.iconst (n := 1) (dat D_X11_ranked 0 rfl) rfl ?_
  refine AW.istore_n (n := 2) (ls' := [some (vR 0), some (vI a0), some (vI 0)]) (dat D_X11_ranked 1 rfl) rfl (le45 rfl) (le45 rfl) rfl rfl ?_
  obtain ⟨b2, hi2, hq2⟩ := ob_some h
  have hR2 : ∀ (_ : Unit), b2 = .inl () → AW Γ mX11_ranked 8 o (85, τ) 8 48 45 [none, none, none] [] (85, σ) := by
    intro _ e
    subst e
    have h : X11_ranked_e2 n σ = some _ := hq2
    unfold X11_ranked_e2 at h
    cases h
    exact AW.throw3W (j := 39)  wL_X11_246 wN_java_util_NoSuchElementException rfl wM_X11_250 (dat D_X11_ranked 23 rfl) (dat D_X11_ranked 24 rfl) (dat D_X11_ranked 25 rfl) (dat D_X11_ranked 26 rfl) (dat D_X11_ranked 27 rfl) rfl (le45 rfl) (le45 rfl) rfl rfl (le45 rfl) (le45 rfl)
  refine AW.to (ls'' := [some (vR 0), some (vI a0), some (vI 0)]) ?_ (lle_s rfl (lle_s rfl (lle_s rfl (lle_z))))
  refine aw_iter (fun s : Int => AW Γ mX11_ranked 8 o (85, τ) 8 48 2 [some (vR 0), some (vI a0), some (vI s)] [] (85, σ)) (fun s y h hk2 hb2 => ?_) _ _ hi2
  obtain ⟨z1, e2⟩ : ∃ z, z = s := ⟨_, rfl⟩
  subst e2
  show AW Γ mX11_ranked 8 o (85, τ) 8 48 2 [some (vR 0), some (vI a0), some (vI z1)] [] (85, σ)
  have h : X11_ranked_l2 n σ a0 z1 = some y := h
  unfold X11_ranked_l2 at h
  refine AW.iload_n (n := 3) (dat D_X11_ranked 2 rfl) rfl rfl ?_
  refine AW.aload_n (n := 4) (dat D_X11_ranked 3 rfl) rfl rfl ?_
  refine AW.getR (n := 7) (t := 19) fX11_6 wF_X11_55 ly_0 (le45 rfl) rfl (dat D_X11_ranked 4 rfl) rfl ?_
  refine AW.getQH h (n := 10) fX1_0 wF_X11_102 ly_19 (le45 rfl) rfl rfl (dat D_X11_ranked 5 rfl) rfl (fun k3 hpk3 h => ?_)
  refine AW.getI (n := 13) fX6_5 wF_X11_122 (isSea_ly0 hpk3) (by have := isSea_lt hpk3; omega) rfl rfl (dat D_X11_ranked 6 rfl) rfl ?_
  refine AW.icmp_geH (t := 45) (n := 16) h (dat D_X11_ranked 7 rfl) rfl rfl rfl rfl (fun h => ?_) (fun h => ?_)
  · cases h
    have hb := hb2 _ rfl
    exact AW.to (hR2 () hb.symm) (lle_n (lle_n (lle_n (lle_z))))
  · refine AW.aload_n (n := 17) (dat D_X11_ranked 8 rfl) rfl rfl ?_
    refine AW.getR (n := 20) (t := 49) fX11_7 wF_X11_64 ly_0 (le45 rfl) rfl (dat D_X11_ranked 9 rfl) rfl ?_
    refine AW.aload_n (n := 21) (dat D_X11_ranked 10 rfl) rfl rfl ?_
    refine AW.getR (n := 24) (t := 19) fX11_6 wF_X11_55 ly_0 (le45 rfl) rfl (dat D_X11_ranked 11 rfl) rfl ?_
    refine AW.getR (n := 27) (t := 34) fX1_2 wF_X11_148 ly_19 (le45 rfl) rfl (dat D_X11_ranked 12 rfl) rfl ?_
    refine AW.iload_n (n := 28) (dat D_X11_ranked 13 rfl) rfl rfl ?_
    refine AW.aaldH h (n := 29) rfl ly_34 (le45 rfl) (dat D_X11_ranked 14 rfl) rfl (fun j4 k5 hpk5 h => ?_)
    refine AW.iconst (n := 30) (dat D_X11_ranked 15 rfl) rfl ?_
    obtain ⟨v7, hc6, h⟩ := ob_some h
    refine AW.cV (n := 33) (as := [vR k5, vI 0]) (st := []) (st' := [vI v7]) (uc' := 8) (us' := 48) (A_X8_rankWith hΓ hpk5 hc6) cf_X8_rankWith ly_49 (le45 rfl) vc_8 (le45 rfl) wM_X11_180 (le45 rfl) (le45 rfl) (dat D_X11_ranked 16 rfl) rfl rfl (le45 rfl) (le45 rfl) rfl (fun _ => ?_) nlt0
    refine AW.iload_n (n := 34) (dat D_X11_ranked 17 rfl) rfl rfl ?_
    refine AW.icmp_neH (t := 39) (n := 37) h (dat D_X11_ranked 18 rfl) rfl rfl rfl rfl (fun h => ?_) (fun h => ?_)
    · refine AW.iload_n (n := 38) (dat D_X11_ranked 19 rfl) rfl rfl ?_
      cases h
      have hb := hb2 _ rfl
      subst hb
      have h := hq2
      have h : some _ = some _ := h
      cases h
      exact AW.iret rfl rfl rfl (dat D_X11_ranked 20 rfl)
    · refine AW.iincH h (n := 42) (dat D_X11_ranked 21 rfl) rfl rfl (le45 rfl) rfl (fun x8 h => ?_)
      refine AW.lq (ls' := [some (vR 0), some (vI a0), some (vI x8)]) rfl ?_
      refine AW.goto (t := 2) (dat D_X11_ranked 22 rfl) rfl ?_
      cases h
      exact AW.to (hk2 _ rfl) (lle_s rfl (lle_s rfl (lle_s rfl (lle_z))))
def L_X8_leastToLead : List (Nat × Instr × Nat) := [(0, .iconst 0, 1), (1, .istore_n 2, 1), (2, .iload_n 2, 1), (3, .bipush 100, 2), (5, .if_icmp .gt 20, 3), (8, .aload_n 0, 1), (9, .aload_n 1, 1), (10, .iload_n 2, 1), (11, .invokevirtual 58, 3), (14, .ifCond .ne 5, 3), (17, .iload_n 2, 1), (18, .ireturn, 1), (19, .iinc 2 1, 3), (22, .goto (-20), 3), (25, .iconst (-1), 1), (26, .ireturn, 1)]
theorem D_X8_leastToLead : dOK cX8_leastToLead L_X8_leastToLead = true := by decide +kernel
theorem cf_X8_leastToLead : CFV mX8_leastToLead 1 := ⟨wI_X8_leastToLead, wS_X8_leastToLead, wN_WaveRight_Standing, wC_X8_leastToLead, rfl, ⟨by decide +kernel, by decide +kernel, by decide +kernel⟩, le45 rfl⟩
def X8_leastToLead_e2 (n : Nat) : Option (Int) :=
  some ((-1))
def X8_leastToLead_l2 (n : Nat) (a0 : Nat) (σ : SG) (z1 : Int) : Option ((Int) ⊕ ((Unit) ⊕ (Int))) :=
  if 100 < w32 z1 then
    some (.inr (.inl ()))
  else
    (X8_rankWith n a0 z1 σ).bind fun v4 =>
    if w32 v4 = 0 then
      some (.inr (.inr z1))
    else
      lt (z1 + 1) fun x5 =>
      some (.inl x5)
def X8_leastToLead (n : Nat) (a0 : Nat) (σ : SG) : Option (Int) :=
  ((iter n (fun s : Int => X8_leastToLead_l2 n a0 σ s) 0) : Option ((Unit) ⊕ (Int))).bind (orr (fun s => X8_leastToLead_e2 n))
set_option maxHeartbeats 4000000 in
set_option maxRecDepth 100000 in
theorem A_X8_leastToLead {Γ : GA} (hΓ : (gl Γ).stackTraces = false) {n : Nat} {a0 : Nat} {σ : SG} {r : Int} (hpa0 : isSw a0 = true) (h : X8_leastToLead n a0 σ = some r) : AM Γ mX8_leastToLead 4 0 0 [vR 49, vR a0] (85, σ) (0, r) (85, σ) := by
  refine AM.of pl_X8 rfl wC_X8_leastToLead (le45 rfl) hΓ ?_
  refine AW.to (ls'' := [some (vR 49), some (vR a0), none]) ?_ (lle_s rfl (lle_s rfl (lle_e (lle_z))))
  unfold X8_leastToLead at h
  refine AW.iconst (n := 1) (dat D_X8_leastToLead 0 rfl) rfl ?_
  refine AW.istore_n (n := 2) (ls' := [some (vR 49), some (vR a0), some (vI 0)]) (dat D_X8_leastToLead 1 rfl) rfl (le45 rfl) (le45 rfl) rfl rfl ?_
  obtain ⟨b2, hi2, hq2⟩ := ob_some h
  have hR2 : ∀ (_ : Unit), b2 = .inl () → AW Γ mX8_leastToLead 4 (0, r) (85, σ) 0 0 25 [none, none, none] [] (85, σ) := by
    intro _ e
    subst e
    have h : X8_leastToLead_e2 n = some _ := hq2
    unfold X8_leastToLead_e2 at h
    refine AW.iconst (n := 26) (dat D_X8_leastToLead 14 rfl) rfl ?_
    cases h
    exact AW.iret rfl rfl rfl (dat D_X8_leastToLead 15 rfl)
  refine AW.to (ls'' := [some (vR 49), some (vR a0), some (vI 0)]) ?_ (lle_s rfl (lle_s rfl (lle_s rfl (lle_z))))
  refine aw_iter (fun s : Int => AW Γ mX8_leastToLead 4 (0, r) (85, σ) 0 0 2 [some (vR 49), some (vR a0), some (vI s)] [] (85, σ)) (fun s y h hk2 hb2 => ?_) _ _ hi2
  obtain ⟨z1, e2⟩ : ∃ z, z = s := ⟨_, rfl⟩
  subst e2
  show AW Γ mX8_leastToLead 4 (0, r) (85, σ) 0 0 2 [some (vR 49), some (vR a0), some (vI z1)] [] (85, σ)
  have h : X8_leastToLead_l2 n a0 σ z1 = some y := h
  unfold X8_leastToLead_l2 at h
  refine AW.iload_n (n := 3) (dat D_X8_leastToLead 2 rfl) rfl rfl ?_
  refine AW.bipush (n := 5) (dat D_X8_leastToLead 3 rfl) rfl (by decide) ?_
  refine AW.icmp_gtH (t := 25) (n := 8) h (dat D_X8_leastToLead 4 rfl) rfl rfl rfl (by decide) (fun h => ?_) (fun h => ?_)
  · cases h
    have hb := hb2 _ rfl
    exact AW.to (hR2 () hb.symm) (lle_n (lle_n (lle_n (lle_z))))
  · refine AW.aload_n (n := 9) (dat D_X8_leastToLead 5 rfl) rfl rfl ?_
    refine AW.aload_n (n := 10) (dat D_X8_leastToLead 6 rfl) rfl rfl ?_
    refine AW.iload_n (n := 11) (dat D_X8_leastToLead 7 rfl) rfl rfl ?_
    obtain ⟨v4, hc3, h⟩ := ob_some h
    refine AW.cV (n := 14) (as := [vR a0, vI z1]) (st := []) (st' := [vI v4]) (uc' := 0) (us' := 0) (A_X8_rankWith hΓ hpa0 hc3) cf_X8_rankWith ly_49 (le45 rfl) vc_8 (le45 rfl) wM_X8_58 (le45 rfl) (le45 rfl) (dat D_X8_leastToLead 8 rfl) rfl rfl (le45 rfl) (le45 rfl) rfl (fun _ => ?_) nlt0
    refine AW.if_neH (t := 19) (n := 17) h (dat D_X8_leastToLead 9 rfl) rfl rfl (fun h => ?_) (fun h => ?_)
    · refine AW.iload_n (n := 18) (dat D_X8_leastToLead 10 rfl) rfl rfl ?_
      cases h
      have hb := hb2 _ rfl
      subst hb
      have h := hq2
      have h : some _ = some _ := h
      cases h
      exact AW.iret rfl rfl rfl (dat D_X8_leastToLead 11 rfl)
    · refine AW.iincH h (n := 22) (dat D_X8_leastToLead 12 rfl) rfl rfl (le45 rfl) rfl (fun x5 h => ?_)
      refine AW.lq (ls' := [some (vR 49), some (vR a0), some (vI x5)]) rfl ?_
      refine AW.goto (t := 2) (dat D_X8_leastToLead 13 rfl) rfl ?_
      cases h
      exact AW.to (hk2 _ rfl) (lle_s rfl (lle_s rfl (lle_s rfl (lle_z))))
def L_X11_need : List (Nat × Instr × Nat) := [(0, .aload_n 0, 1), (1, .iload_n 1, 1), (2, .invokevirtual 145, 3), (5, .aload_n 0, 1), (6, .getfield 64, 3), (9, .aload_n 0, 1), (10, .getfield 55, 3), (13, .getfield 148, 3), (16, .iload_n 1, 1), (17, .aaload, 1), (18, .invokevirtual 260, 3), (21, .ireturn, 1)]
theorem D_X11_need : dOK cX11_need L_X11_need = true := by decide +kernel
theorem cf_X11_need : CFV mX11_need 1 := ⟨wI_X11_need, wS_X11_need, wN_WaveRight, wC_X11_need, rfl, ⟨by decide +kernel, by decide +kernel, by decide +kernel⟩, le45 rfl⟩
def X11_need (n : Nat) (a0 : Int) (σ : SG) : Option ((Nat × Int) × SG) :=
  (X11_mustBeSurfer n a0 σ).bind fun t2 => if t2 = 0 then
  rdA 5 a0 fun j3 => ckR isSw (σ 34 j3) fun k4 =>
  (X8_leastToLead n k4 σ).bind fun v6 =>
  some (((0, v6), σ))
  else some (((t2, 0), σ))
set_option maxHeartbeats 4000000 in
set_option maxRecDepth 100000 in
theorem A_X11_need {Γ : GA} (hΓ : (gl Γ).stackTraces = false) {n : Nat} {a0 : Int} {σ : SG} {o : Nat × Int} {τ : SG}  (h : X11_need n a0 σ = some (o, τ)) : AM Γ mX11_need 9 8 48 [vR 0, vI a0] (85, σ) o (85, τ) := by
  refine AM.of pl_X11 rfl wC_X11_need (le45 rfl) hΓ ?_
  refine AW.to (ls'' := [some (vR 0), some (vI a0)]) ?_ (lle_s rfl (lle_s rfl (lle_z)))
  unfold X11_need at h
  refine AW.aload_n (n := 1) (dat D_X11_need 0 rfl) rfl rfl ?_
  refine AW.iload_n (n := 2) (dat D_X11_need 1 rfl) rfl rfl ?_
  obtain ⟨t2, hc1, h⟩ := ob_some h
  refine AW.cV (n := 5) (as := [vI a0]) (st := []) (st' := []) (uc' := 7) (us' := 42) (A_X11_mustBeSurfer hΓ hc1) cf_X11_mustBeSurfer ly_0 (le45 rfl) vc_11 (le45 rfl) wM_X11_145 (le45 rfl) (le45 rfl) (dat D_X11_need 2 rfl) rfl rfl (le45 rfl) (le45 rfl) rfl (fun q => ?_) (fun q => ?_)
  rotate_left
  · have h := ite_f h (by have q : 0 < t2 := q; omega)
    cases h
    exact AX.out rfl q rfl rfl
  have h := ite_t h q
  refine AW.aload_n (n := 6) (dat D_X11_need 3 rfl) rfl rfl ?_
  refine AW.getR (n := 9) (t := 49) fX11_7 wF_X11_64 ly_0 (le45 rfl) rfl (dat D_X11_need 4 rfl) rfl ?_
  refine AW.aload_n (n := 10) (dat D_X11_need 5 rfl) rfl rfl ?_
  refine AW.getR (n := 13) (t := 19) fX11_6 wF_X11_55 ly_0 (le45 rfl) rfl (dat D_X11_need 6 rfl) rfl ?_
  refine AW.getR (n := 16) (t := 34) fX1_2 wF_X11_148 ly_19 (le45 rfl) rfl (dat D_X11_need 7 rfl) rfl ?_
  refine AW.iload_n (n := 17) (dat D_X11_need 8 rfl) rfl rfl ?_
  refine AW.aaldH h (n := 18) rfl ly_34 (le45 rfl) (dat D_X11_need 9 rfl) rfl (fun j3 k4 hpk4 h => ?_)
  obtain ⟨v6, hc5, h⟩ := ob_some h
  refine AW.cV (n := 21) (as := [vR k4]) (st := []) (st' := [vI v6]) (uc' := 7) (us' := 42) (A_X8_leastToLead hΓ hpk4 hc5) cf_X8_leastToLead ly_49 (le45 rfl) vc_8 (le45 rfl) wM_X11_260 (le45 rfl) (le45 rfl) (dat D_X11_need 10 rfl) rfl rfl (le45 rfl) (le45 rfl) rfl (fun _ => ?_) nlt0
  cases h
  exact AW.iret rfl rfl rfl (dat D_X11_need 11 rfl)
def L_X0_compareRide : List (Nat × Instr × Nat) := [(0, .iload_n 3, 1), (1, .aload_n 0, 1), (2, .getfield 33, 3), (5, .if_icmp .le 18, 3), (8, .aload_n 0, 1), (9, .iload_n 3, 1), (10, .putfield 33, 3), (13, .aload_n 0, 1), (14, .iload_n 1, 1), (15, .putfield 30, 3), (18, .aload_n 0, 1), (19, .iload_n 2, 1), (20, .putfield 26, 3), (23, .return_, 1)]
theorem D_X0_compareRide : dOK cX0_compareRide L_X0_compareRide = true := by decide +kernel
theorem cf_X0_compareRide : CFV mX0_compareRide 3 := ⟨wI_X0_compareRide, wS_X0_compareRide, wN_WaveRight_Advice, wC_X0_compareRide, rfl, ⟨by decide +kernel, by decide +kernel, by decide +kernel⟩, le45 rfl⟩
def X0_compareRide (n : Nat) (a0 : Int) (a1 : Int) (a2 : Int) (σ : SG) : Option (SG) :=
  if w32 a2 ≤ w32 (σ 50 4) then
    some (σ)
  else
    lt (up σ 50 4 a2) fun σ1 =>
    lt (up σ1 50 3 a0) fun σ2 =>
    lt (up σ2 50 2 a1) fun σ3 =>
    some (σ3)
set_option maxHeartbeats 4000000 in
set_option maxRecDepth 100000 in
theorem A_X0_compareRide {Γ : GA} (hΓ : (gl Γ).stackTraces = false) {n : Nat} {a0 : Int} {a1 : Int} {a2 : Int} {σ : SG} {τ : SG}  (h : X0_compareRide n a0 a1 a2 σ = some τ) : AM Γ mX0_compareRide 1 0 0 [vR 50, vI a0, vI a1, vI a2] (85, σ) (0, 0) (85, τ) := by
  refine AM.of pl_X0 rfl wC_X0_compareRide (le45 rfl) hΓ ?_
  refine AW.to (ls'' := [some (vR 50), some (vI a0), some (vI a1), some (vI a2)]) ?_ (lle_s rfl (lle_s rfl (lle_s rfl (lle_s rfl (lle_z)))))
  unfold X0_compareRide at h
  refine AW.iload_n (n := 1) (dat D_X0_compareRide 0 rfl) rfl rfl ?_
  refine AW.aload_n (n := 2) (dat D_X0_compareRide 1 rfl) rfl rfl ?_
  refine AW.getI (n := 5) fX0_4 wF_X0_33 ly_50 (le45 rfl) rfl rfl (dat D_X0_compareRide 2 rfl) rfl ?_
  refine AW.icmp_leH (t := 23) (n := 8) h (dat D_X0_compareRide 3 rfl) rfl rfl rfl rfl (fun h => ?_) (fun h => ?_)
  · cases h
    exact AW.vret rfl rfl rfl (dat D_X0_compareRide 13 rfl)
  · refine AW.aload_n (n := 9) (dat D_X0_compareRide 4 rfl) rfl rfl ?_
    refine AW.iload_n (n := 10) (dat D_X0_compareRide 5 rfl) rfl rfl ?_
    refine AW.putI (n := 13) fX0_4 wF_X0_33 ly_50 (le45 rfl) rfl rfl rfl (dat D_X0_compareRide 6 rfl) rfl ?_
    refine AW.ltS h (fun σ1 h => ?_)
    refine AW.aload_n (n := 14) (dat D_X0_compareRide 7 rfl) rfl rfl ?_
    refine AW.iload_n (n := 15) (dat D_X0_compareRide 8 rfl) rfl rfl ?_
    refine AW.putI (n := 18) fX0_3 wF_X0_30 ly_50 (le45 rfl) rfl rfl rfl (dat D_X0_compareRide 9 rfl) rfl ?_
    refine AW.ltS h (fun σ2 h => ?_)
    refine AW.aload_n (n := 19) (dat D_X0_compareRide 10 rfl) rfl rfl ?_
    refine AW.iload_n (n := 20) (dat D_X0_compareRide 11 rfl) rfl rfl ?_
    refine AW.putI (n := 23) fX0_2 wF_X0_26 ly_50 (le45 rfl) rfl rfl rfl (dat D_X0_compareRide 12 rfl) rfl ?_
    refine AW.ltS h (fun σ3 h => ?_)
    cases h
    exact AW.vret rfl rfl rfl (dat D_X0_compareRide 13 rfl)
def L_X0_findRide : List (Nat × Instr × Nat) := [(0, .aload_n 0, 1), (1, .iconst (-1), 1), (2, .putfield 26, 3), (5, .aload_n 0, 1), (6, .iconst (-1), 1), (7, .putfield 30, 3), (10, .aload_n 0, 1), (11, .iconst (-1), 1), (12, .putfield 33, 3), (15, .iconst 1, 1), (16, .istore 4, 2), (18, .iload 4, 2), (20, .bipush 20, 2), (22, .if_icmp .gt 90, 3), (25, .iconst 0, 1), (26, .istore 5, 2), (28, .iload 5, 2), (30, .iconst 1, 1), (31, .if_icmp .gt 75, 3), (34, .aload_n 0, 1), (35, .getfield 18, 3), (38, .iload_n 2, 1), (39, .aload_n 1, 1), (40, .getfield 36, 3), (43, .iload 5, 2), (45, .iload 4, 2), (47, .invokevirtual 41, 3), (50, .ifCond .eq 50, 3), (53, .iload_n 3, 1), (54, .ifCond .ne 18, 3), (57, .aload_n 0, 1), (58, .getfield 18, 3), (61, .aload_n 1, 1), (62, .iload 5, 2), (64, .iload 4, 2), (66, .invokevirtual 47, 3), (69, .ifCond .ne 31, 3), (72, .aload_n 0, 1), (73, .iload 5, 2), (75, .iload 4, 2), (77, .iconst 0, 1), (78, .aload_n 0, 1), (79, .getfield 18, 3), (82, .aload_n 1, 1), (83, .iload_n 2, 1), (84, .aload_n 1, 1), (85, .getfield 36, 3), (88, .iload 4, 2), (90, .iconst 0, 1), (91, .invokevirtual 51, 3), (94, .invokestatic 55, 3), (97, .invokevirtual 61, 3), (100, .iinc 5 1, 3), (103, .goto (-75), 3), (106, .iinc 4 1, 3), (109, .goto (-91), 3), (112, .return_, 1)]
theorem D_X0_findRide : dOK cX0_findRide L_X0_findRide = true := by decide +kernel
theorem cf_X0_findRide : CFV mX0_findRide 3 := ⟨wI_X0_findRide, wS_X0_findRide, wN_WaveRight_Advice, wC_X0_findRide, rfl, ⟨by decide +kernel, by decide +kernel, by decide +kernel⟩, le45 rfl⟩
def X0_findRide_e18 (n : Nat) (σ7 : SG) : Option (SG) :=
  some (σ7)
def X0_findRide_e28 (n : Nat) (z4 : Int) (σ11 : SG) : Option ((Int × SG) ⊕ (SG)) :=
  lt (z4 + 1) fun x12 =>
  some (.inl (x12, σ11))
def X0_findRide_j100 (n : Nat) (z8 : Int) (σ15 : SG) : Option ((Int × SG) ⊕ (SG)) :=
  lt (z8 + 1) fun x17 =>
  some (.inl (x17, σ15))
def X0_findRide_l28 (n : Nat) (a1 : Int) (a0 : Nat) (z4 : Int) (a2 : Int) (z8 : Int) (σ9 : SG) : Option ((Int × SG) ⊕ (SG)) :=
  if 1 < w32 z8 then
    some (.inr σ9)
  else
    (X1_canGo n a1 (σ9 a0 3) z8 z4 σ9).bind fun v14 =>
    ((if w32 v14 = 0 then
      some (σ9)
    else
      if w32 a2 = 0 then
        (X1_hinderedBy n a0 z8 z4 σ9).bind fun v24 =>
        if w32 v24 = 0 then
          bnd2 (X1_scoreOf n a0 a1 (σ9 a0 3) z4 0 σ9) fun v26 σ27 =>
          (X0_compareRide n z8 z4 (mx32 0 v26) σ27).bind fun σ29 =>
          some (σ29)
        else
          some (σ9)
      else
        bnd2 (X1_scoreOf n a0 a1 (σ9 a0 3) z4 0 σ9) fun v19 σ20 =>
        (X0_compareRide n z8 z4 (mx32 0 v19) σ20).bind fun σ22 =>
        some (σ22)) : Option (SG)).bind (fun s => X0_findRide_j100 n z8 s)
def X0_findRide_l18 (n : Nat) (a1 : Int) (a0 : Nat) (a2 : Int) (z4 : Int) (σ5 : SG) : Option ((Int × SG) ⊕ (SG)) :=
  if 20 < w32 z4 then
    some (.inr σ5)
  else
    ((iter n (fun s : Int × SG => X0_findRide_l28 n a1 a0 z4 a2 s.1 s.2) (0, σ5)) : Option (SG)).bind (fun s => X0_findRide_e28 n z4 s)
def X0_findRide (n : Nat) (a0 : Nat) (a1 : Int) (a2 : Int) (σ : SG) : Option (SG) :=
  lt (up σ 50 2 (-1)) fun σ1 =>
  lt (up σ1 50 3 (-1)) fun σ2 =>
  lt (up σ2 50 4 (-1)) fun σ3 =>
  ((iter n (fun s : Int × SG => X0_findRide_l18 n a1 a0 a2 s.1 s.2) (1, σ3)) : Option (SG)).bind (fun s => X0_findRide_e18 n s)
set_option maxHeartbeats 4000000 in
set_option maxRecDepth 100000 in
theorem A_X0_findRide {Γ : GA} (hΓ : (gl Γ).stackTraces = false) {n : Nat} {a0 : Nat} {a1 : Int} {a2 : Int} {σ : SG} {τ : SG} (hpa0 : isSw a0 = true) (h : X0_findRide n a0 a1 a2 σ = some τ) : AM Γ mX0_findRide 5 0 0 [vR 50, vR a0, vI a1, vI a2] (85, σ) (0, 0) (85, τ) := by
  refine AM.of pl_X0 rfl wC_X0_findRide (le45 rfl) hΓ ?_
  refine AW.to (ls'' := [some (vR 50), some (vR a0), some (vI a1), some (vI a2), none, none]) ?_ (lle_s rfl (lle_s rfl (lle_s rfl (lle_s rfl (lle_e (lle_e (lle_z)))))))
  unfold X0_findRide at h
  refine AW.aload_n (n := 1) (dat D_X0_findRide 0 rfl) rfl rfl ?_
  refine AW.iconst (n := 2) (dat D_X0_findRide 1 rfl) rfl ?_
  refine AW.putI (n := 5) fX0_2 wF_X0_26 ly_50 (le45 rfl) rfl rfl rfl (dat D_X0_findRide 2 rfl) rfl ?_
  refine AW.ltS h (fun σ1 h => ?_)
  refine AW.aload_n (n := 6) (dat D_X0_findRide 3 rfl) rfl rfl ?_
  refine AW.iconst (n := 7) (dat D_X0_findRide 4 rfl) rfl ?_
  refine AW.putI (n := 10) fX0_3 wF_X0_30 ly_50 (le45 rfl) rfl rfl rfl (dat D_X0_findRide 5 rfl) rfl ?_
  refine AW.ltS h (fun σ2 h => ?_)
  refine AW.aload_n (n := 11) (dat D_X0_findRide 6 rfl) rfl rfl ?_
  refine AW.iconst (n := 12) (dat D_X0_findRide 7 rfl) rfl ?_
  refine AW.putI (n := 15) fX0_4 wF_X0_33 ly_50 (le45 rfl) rfl rfl rfl (dat D_X0_findRide 8 rfl) rfl ?_
  refine AW.ltS h (fun σ3 h => ?_)
  refine AW.iconst (n := 16) (dat D_X0_findRide 9 rfl) rfl ?_
  refine AW.istore (n := 18) (ls' := [some (vR 50), some (vR a0), some (vI a1), some (vI a2), some (vI 1), none]) (dat D_X0_findRide 10 rfl) rfl (le45 rfl) (le45 rfl) rfl rfl ?_
  obtain ⟨b6, hi6, hq6⟩ := ob_some h
  obtain ⟨σ7, e6⟩ : ∃ z, z = b6 := ⟨_, rfl⟩
  subst e6
  have hR6 : AW Γ mX0_findRide 5 (0, 0) (85, τ) 0 0 112 [none, none, none, none, none, none] [] (85, σ7) := by
    have h : X0_findRide_e18 n σ7 = some _ := hq6
    unfold X0_findRide_e18 at h
    cases h
    exact AW.vret rfl rfl rfl (dat D_X0_findRide 56 rfl)
  refine AW.to (ls'' := [some (vR 50), some (vR a0), some (vI a1), some (vI a2), some (vI 1), none]) ?_ (lle_s rfl (lle_s rfl (lle_s rfl (lle_s rfl (lle_s rfl (lle_n (lle_z)))))))
  refine aw_iter (fun s : Int × SG => AW Γ mX0_findRide 5 (0, 0) (85, τ) 0 0 18 [some (vR 50), some (vR a0), some (vI a1), some (vI a2), some (vI (s.1)), none] [] (85, s.2)) (fun s y h hk6 hb6 => ?_) _ _ hi6
  obtain ⟨z4, σ5⟩ := s
  show AW Γ mX0_findRide 5 (0, 0) (85, τ) 0 0 18 [some (vR 50), some (vR a0), some (vI a1), some (vI a2), some (vI z4), none] [] (85, σ5)
  have h : X0_findRide_l18 n a1 a0 a2 z4 σ5 = some y := h
  unfold X0_findRide_l18 at h
  refine AW.iload (n := 20) (dat D_X0_findRide 11 rfl) rfl rfl ?_
  refine AW.bipush (n := 22) (dat D_X0_findRide 12 rfl) rfl (by decide) ?_
  refine AW.icmp_gtH (t := 112) (n := 25) h (dat D_X0_findRide 13 rfl) rfl rfl rfl (by decide) (fun h => ?_) (fun h => ?_)
  · cases h
    have hb := hb6 _ rfl
    cases hb
    exact AW.to hR6 (lle_n (lle_n (lle_n (lle_n (lle_n (lle_n (lle_z)))))))
  · refine AW.iconst (n := 26) (dat D_X0_findRide 14 rfl) rfl ?_
    refine AW.istore (n := 28) (ls' := [some (vR 50), some (vR a0), some (vI a1), some (vI a2), some (vI z4), some (vI 0)]) (dat D_X0_findRide 15 rfl) rfl (le45 rfl) (le45 rfl) rfl rfl ?_
    obtain ⟨b10, hi10, hq10⟩ := ob_some h
    obtain ⟨σ11, e10⟩ : ∃ z, z = b10 := ⟨_, rfl⟩
    subst e10
    have hR10 : AW Γ mX0_findRide 5 (0, 0) (85, τ) 0 0 106 [some (vR 50), some (vR a0), some (vI a1), some (vI a2), some (vI z4), none] [] (85, σ11) := by
      have h : X0_findRide_e28 n z4 σ11 = some _ := hq10
      unfold X0_findRide_e28 at h
      refine AW.iincH h (n := 109) (dat D_X0_findRide 54 rfl) rfl rfl (le45 rfl) rfl (fun x12 h => ?_)
      refine AW.lq (ls' := [some (vR 50), some (vR a0), some (vI a1), some (vI a2), some (vI x12), none]) rfl ?_
      refine AW.goto (t := 18) (dat D_X0_findRide 55 rfl) rfl ?_
      cases h
      exact AW.to (hk6 _ rfl) (lle_s rfl (lle_s rfl (lle_s rfl (lle_s rfl (lle_s rfl (lle_n (lle_z)))))))
    refine AW.to (ls'' := [some (vR 50), some (vR a0), some (vI a1), some (vI a2), some (vI z4), some (vI 0)]) ?_ (lle_s rfl (lle_s rfl (lle_s rfl (lle_s rfl (lle_s rfl (lle_s rfl (lle_z)))))))
    refine aw_iter (fun s : Int × SG => AW Γ mX0_findRide 5 (0, 0) (85, τ) 0 0 28 [some (vR 50), some (vR a0), some (vI a1), some (vI a2), some (vI z4), some (vI (s.1))] [] (85, s.2)) (fun s y h hk10 hb10 => ?_) _ _ hi10
    obtain ⟨z8, σ9⟩ := s
    show AW Γ mX0_findRide 5 (0, 0) (85, τ) 0 0 28 [some (vR 50), some (vR a0), some (vI a1), some (vI a2), some (vI z4), some (vI z8)] [] (85, σ9)
    have h : X0_findRide_l28 n a1 a0 z4 a2 z8 σ9 = some y := h
    unfold X0_findRide_l28 at h
    refine AW.iload (n := 30) (dat D_X0_findRide 16 rfl) rfl rfl ?_
    refine AW.iconst (n := 31) (dat D_X0_findRide 17 rfl) rfl ?_
    refine AW.icmp_gtH (t := 106) (n := 34) h (dat D_X0_findRide 18 rfl) rfl rfl rfl (by decide) (fun h => ?_) (fun h => ?_)
    · cases h
      have hb := hb10 _ rfl
      cases hb
      exact AW.to hR10 (lle_s rfl (lle_s rfl (lle_s rfl (lle_s rfl (lle_s rfl (lle_n (lle_z)))))))
    · refine AW.aload_n (n := 35) (dat D_X0_findRide 19 rfl) rfl rfl ?_
      refine AW.getR (n := 38) (t := 19) fX0_0 wF_X0_18 ly_50 (le45 rfl) rfl (dat D_X0_findRide 20 rfl) rfl ?_
      refine AW.iload_n (n := 39) (dat D_X0_findRide 21 rfl) rfl rfl ?_
      refine AW.aload_n (n := 40) (dat D_X0_findRide 22 rfl) rfl rfl ?_
      refine AW.getI (n := 43) fX9_3 wF_X0_36 (isSw_ly0 hpa0) (by have := isSw_lt hpa0; omega) rfl rfl (dat D_X0_findRide 23 rfl) rfl ?_
      refine AW.iload (n := 45) (dat D_X0_findRide 24 rfl) rfl rfl ?_
      refine AW.iload (n := 47) (dat D_X0_findRide 25 rfl) rfl rfl ?_
      obtain ⟨v14, hc13, h⟩ := ob_some h
      refine AW.cV (n := 50) (as := [vI a1, vI (σ9 a0 3), vI z8, vI z4]) (st := []) (st' := [vI v14]) (uc' := 0) (us' := 0) (A_X1_canGo hΓ hc13) cf_X1_canGo ly_19 (le45 rfl) vc_1 (le45 rfl) wM_X0_41 (le45 rfl) (le45 rfl) (dat D_X0_findRide 26 rfl) rfl rfl (le45 rfl) (le45 rfl) rfl (fun _ => ?_) nlt0
      obtain ⟨s16, h, hq16⟩ := ob_some h
      obtain ⟨σ15, e16⟩ : ∃ z, z = s16 := ⟨_, rfl⟩
      subst e16
      have hJ16 : AW Γ mX0_findRide 5 (0, 0) (85, τ) 0 0 100 [some (vR 50), some (vR a0), some (vI a1), some (vI a2), some (vI z4), some (vI z8)] [] (85, σ15) := by
        have h : X0_findRide_j100 n z8 σ15 = some _ := hq16
        unfold X0_findRide_j100 at h
        refine AW.iincH h (n := 103) (dat D_X0_findRide 52 rfl) rfl rfl (le45 rfl) rfl (fun x17 h => ?_)
        refine AW.lq (ls' := [some (vR 50), some (vR a0), some (vI a1), some (vI a2), some (vI z4), some (vI x17)]) rfl ?_
        refine AW.goto (t := 28) (dat D_X0_findRide 53 rfl) rfl ?_
        cases h
        exact AW.to (hk10 _ rfl) (lle_s rfl (lle_s rfl (lle_s rfl (lle_s rfl (lle_s rfl (lle_s rfl (lle_z)))))))
      refine AW.if_eqH (t := 100) (n := 53) h (dat D_X0_findRide 27 rfl) rfl rfl (fun h => ?_) (fun h => ?_)
      · cases h
        exact AW.to hJ16 (lle_s rfl (lle_s rfl (lle_s rfl (lle_s rfl (lle_s rfl (lle_s rfl (lle_z)))))))
      · refine AW.iload_n (n := 54) (dat D_X0_findRide 28 rfl) rfl rfl ?_
        refine AW.if_neH (t := 72) (n := 57) h (dat D_X0_findRide 29 rfl) rfl rfl (fun h => ?_) (fun h => ?_)
        · refine AW.aload_n (n := 58) (dat D_X0_findRide 30 rfl) rfl rfl ?_
          refine AW.getR (n := 61) (t := 19) fX0_0 wF_X0_18 ly_50 (le45 rfl) rfl (dat D_X0_findRide 31 rfl) rfl ?_
          refine AW.aload_n (n := 62) (dat D_X0_findRide 32 rfl) rfl rfl ?_
          refine AW.iload (n := 64) (dat D_X0_findRide 33 rfl) rfl rfl ?_
          refine AW.iload (n := 66) (dat D_X0_findRide 34 rfl) rfl rfl ?_
          obtain ⟨v24, hc23, h⟩ := ob_some h
          refine AW.cV (n := 69) (as := [vR a0, vI z8, vI z4]) (st := []) (st' := [vI v24]) (uc' := 0) (us' := 0) (A_X1_hinderedBy hΓ hpa0 hc23) cf_X1_hinderedBy ly_19 (le45 rfl) vc_1 (le45 rfl) wM_X0_47 (le45 rfl) (le45 rfl) (dat D_X0_findRide 35 rfl) rfl rfl (le45 rfl) (le45 rfl) rfl (fun _ => ?_) nlt0
          refine AW.if_neH (t := 100) (n := 72) h (dat D_X0_findRide 36 rfl) rfl rfl (fun h => ?_) (fun h => ?_)
          · refine AW.aload_n (n := 73) (dat D_X0_findRide 37 rfl) rfl rfl ?_
            refine AW.iload (n := 75) (dat D_X0_findRide 38 rfl) rfl rfl ?_
            refine AW.iload (n := 77) (dat D_X0_findRide 39 rfl) rfl rfl ?_
            refine AW.iconst (n := 78) (dat D_X0_findRide 40 rfl) rfl ?_
            refine AW.aload_n (n := 79) (dat D_X0_findRide 41 rfl) rfl rfl ?_
            refine AW.getR (n := 82) (t := 19) fX0_0 wF_X0_18 ly_50 (le45 rfl) rfl (dat D_X0_findRide 42 rfl) rfl ?_
            refine AW.aload_n (n := 83) (dat D_X0_findRide 43 rfl) rfl rfl ?_
            refine AW.iload_n (n := 84) (dat D_X0_findRide 44 rfl) rfl rfl ?_
            refine AW.aload_n (n := 85) (dat D_X0_findRide 45 rfl) rfl rfl ?_
            refine AW.getI (n := 88) fX9_3 wF_X0_36 (isSw_ly0 hpa0) (by have := isSw_lt hpa0; omega) rfl rfl (dat D_X0_findRide 46 rfl) rfl ?_
            refine AW.iload (n := 90) (dat D_X0_findRide 47 rfl) rfl rfl ?_
            refine AW.iconst (n := 91) (dat D_X0_findRide 48 rfl) rfl ?_
            obtain ⟨v26, σ27, hc25, h⟩ := bnd2_some h
            refine AW.cV (n := 94) (as := [vR a0, vI a1, vI (σ9 a0 3), vI z4, vI 0]) (st := [vI 0, vI z4, vI z8, vR 50]) (st' := [vI v26, vI 0, vI z4, vI z8, vR 50]) (uc' := 0) (us' := 0) (A_X1_scoreOf hΓ hpa0 hc25) cf_X1_scoreOf ly_19 (le45 rfl) vc_1 (le45 rfl) wM_X0_51 (le45 rfl) (le45 rfl) (dat D_X0_findRide 49 rfl) rfl rfl (le45 rfl) (le45 rfl) rfl (fun _ => ?_) nlt0
            refine AW.mmax (n := 97) wM_X0_55 (le45 rfl) (le45 rfl) (dat D_X0_findRide 50 rfl) rfl ?_
            obtain ⟨σ29, hc28, h⟩ := ob_some h
            refine AW.cV (n := 100) (as := [vI z8, vI z4, vI (mx32 0 v26)]) (st := []) (st' := []) (uc' := 0) (us' := 0) (A_X0_compareRide hΓ hc28) cf_X0_compareRide ly_50 (le45 rfl) vc_0 (le45 rfl) wM_X0_61 (le45 rfl) (le45 rfl) (dat D_X0_findRide 51 rfl) rfl rfl (le45 rfl) (le45 rfl) rfl (fun _ => ?_) nlt0
            cases h
            exact AW.to hJ16 (lle_s rfl (lle_s rfl (lle_s rfl (lle_s rfl (lle_s rfl (lle_s rfl (lle_z)))))))
          · cases h
            exact AW.to hJ16 (lle_s rfl (lle_s rfl (lle_s rfl (lle_s rfl (lle_s rfl (lle_s rfl (lle_z)))))))
        · refine AW.aload_n (n := 73) (dat D_X0_findRide 37 rfl) rfl rfl ?_
          refine AW.iload (n := 75) (dat D_X0_findRide 38 rfl) rfl rfl ?_
          refine AW.iload (n := 77) (dat D_X0_findRide 39 rfl) rfl rfl ?_
          refine AW.iconst (n := 78) (dat D_X0_findRide 40 rfl) rfl ?_
          refine AW.aload_n (n := 79) (dat D_X0_findRide 41 rfl) rfl rfl ?_
          refine AW.getR (n := 82) (t := 19) fX0_0 wF_X0_18 ly_50 (le45 rfl) rfl (dat D_X0_findRide 42 rfl) rfl ?_
          refine AW.aload_n (n := 83) (dat D_X0_findRide 43 rfl) rfl rfl ?_
          refine AW.iload_n (n := 84) (dat D_X0_findRide 44 rfl) rfl rfl ?_
          refine AW.aload_n (n := 85) (dat D_X0_findRide 45 rfl) rfl rfl ?_
          refine AW.getI (n := 88) fX9_3 wF_X0_36 (isSw_ly0 hpa0) (by have := isSw_lt hpa0; omega) rfl rfl (dat D_X0_findRide 46 rfl) rfl ?_
          refine AW.iload (n := 90) (dat D_X0_findRide 47 rfl) rfl rfl ?_
          refine AW.iconst (n := 91) (dat D_X0_findRide 48 rfl) rfl ?_
          obtain ⟨v19, σ20, hc18, h⟩ := bnd2_some h
          refine AW.cV (n := 94) (as := [vR a0, vI a1, vI (σ9 a0 3), vI z4, vI 0]) (st := [vI 0, vI z4, vI z8, vR 50]) (st' := [vI v19, vI 0, vI z4, vI z8, vR 50]) (uc' := 0) (us' := 0) (A_X1_scoreOf hΓ hpa0 hc18) cf_X1_scoreOf ly_19 (le45 rfl) vc_1 (le45 rfl) wM_X0_51 (le45 rfl) (le45 rfl) (dat D_X0_findRide 49 rfl) rfl rfl (le45 rfl) (le45 rfl) rfl (fun _ => ?_) nlt0
          refine AW.mmax (n := 97) wM_X0_55 (le45 rfl) (le45 rfl) (dat D_X0_findRide 50 rfl) rfl ?_
          obtain ⟨σ22, hc21, h⟩ := ob_some h
          refine AW.cV (n := 100) (as := [vI z8, vI z4, vI (mx32 0 v19)]) (st := []) (st' := []) (uc' := 0) (us' := 0) (A_X0_compareRide hΓ hc21) cf_X0_compareRide ly_50 (le45 rfl) vc_0 (le45 rfl) wM_X0_61 (le45 rfl) (le45 rfl) (dat D_X0_findRide 51 rfl) rfl rfl (le45 rfl) (le45 rfl) rfl (fun _ => ?_) nlt0
          cases h
          exact AW.to hJ16 (lle_s rfl (lle_s rfl (lle_s rfl (lle_s rfl (lle_s rfl (lle_s rfl (lle_z)))))))
