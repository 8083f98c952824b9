/-! ===== methods as functions, and their bytecode beside them (printed by wip/whole/gen/emit.py) ===== -/
def L_X4_worthOf : List (Nat × Instr × Nat) := [(0, .aload_n 0, 1), (1, .iload_n 1, 1), (2, .iload_n 2, 1), (3, .invokevirtual 26, 3), (6, .iconst 0, 1), (7, .istore 5, 2), (9, .iload 5, 2), (11, .iload 4, 2), (13, .if_icmp .gt 72, 3), (16, .iconst 0, 1), (17, .istore 6, 2), (19, .iload 6, 2), (21, .aload_n 0, 1), (22, .getfield 30, 3), (25, .if_icmp .ge 54, 3), (28, .iload 6, 2), (30, .istore 7, 2), (32, .iload 7, 2), (34, .aload_n 0, 1), (35, .getfield 30, 3), (38, .if_icmp .ge 35, 3), (41, .aload_n 0, 1), (42, .iload 5, 2), (44, .iload 6, 2), (46, .iload 7, 2), (48, .aload_n 0, 1), (49, .getfield 11, 3), (52, .iload 6, 2), (54, .iaload, 1), (55, .aload_n 0, 1), (56, .getfield 11, 3), (59, .iload 7, 2), (61, .iaload, 1), (62, .iadd, 1), (63, .i2l, 1), (64, .invokevirtual 34, 3), (67, .iinc 7 1, 3), (70, .goto (-38), 3), (73, .iinc 6 1, 3), (76, .goto (-57), 3), (79, .iinc 5 1, 3), (82, .goto (-73), 3), (85, .iconst 0, 1), (86, .istore 5, 2), (88, .iload 5, 2), (90, .iload_n 3, 1), (91, .if_icmp .ge 15, 3), (94, .aload_n 0, 1), (95, .iload 4, 2), (97, .invokevirtual 38, 3), (100, .iinc 5 1, 3), (103, .goto (-15), 3), (106, .aload_n 0, 1), (107, .iload 4, 2), (109, .aload_n 0, 1), (110, .iload_n 1, 1), (111, .invokevirtual 42, 3), (114, .aload_n 0, 1), (115, .iload_n 2, 1), (116, .invokevirtual 42, 3), (119, .invokevirtual 46, 3), (122, .lreturn, 1)]
theorem D_X4_worthOf : dOK cX4_worthOf L_X4_worthOf = true := by decide +kernel
theorem cf_X4_worthOf : CFV mX4_worthOf 4 := ⟨wI_X4_worthOf, wS_X4_worthOf, wN_WaveRight_Looking, wC_X4_worthOf, rfl, ⟨by decide +kernel, by decide +kernel, by decide +kernel⟩, le45 rfl⟩
def X4_worthOf_e88 (n : Nat) (a0 : Int) (a1 : Int) (a3 : Int) (σ10 : SG) : Option (Int × SG) :=
  (X4_placeOf n a0 σ10).bind fun v12 =>
  (X4_placeOf n a1 σ10).bind fun v14 =>
  (X4_read n a3 v12 v14 σ10).bind fun v16 =>
  some ((v16, σ10))
def X4_worthOf_l88 (n : Nat) (a2 : Int) (a3 : Int) (z7 : Int) (σ8 : SG) : Option ((Int × SG) ⊕ (SG)) :=
  if w32 a2 ≤ w32 z7 then
    some (.inr σ8)
  else
    (X4_lookAtWave n a3 σ8).bind fun σ18 =>
    lt (z7 + 1) fun x19 =>
    some (.inl (x19, σ18))
def X4_worthOf_e9 (n : Nat) (a2 : Int) (a3 : Int) (a0 : Int) (a1 : Int) (σ6 : SG) : Option (Int × SG) :=
  ((iter n (fun s : Int × SG => X4_worthOf_l88 n a2 a3 s.1 s.2) (0, σ6)) : Option (SG)).bind (fun s => X4_worthOf_e88 n a0 a1 a3 s)
def X4_worthOf_e19 (n : Nat) (z3 : Int) (σ23 : SG) : Option ((Int × SG) ⊕ (SG)) :=
  lt (z3 + 1) fun x24 =>
  some (.inl (x24, σ23))
def X4_worthOf_e32 (n : Nat) (z20 : Int) (σ28 : SG) : Option ((Int × SG) ⊕ (SG)) :=
  lt (z20 + 1) fun x29 =>
  some (.inl (x29, σ28))
def X4_worthOf_l32 (n : Nat) (z20 : Int) (z3 : Int) (z25 : Int) (σ26 : SG) : Option ((Int × SG) ⊕ (SG)) :=
  if w32 (σ26 53 2) ≤ w32 z25 then
    some (.inr σ26)
  else
    rdA 8 z20 fun j30 =>
    rdA 8 z25 fun j31 =>
    (X4_write n z3 z20 z25 (w32 ((σ26 54 j30) + (σ26 54 j31))) σ26).bind fun σ33 =>
    lt (z25 + 1) fun x34 =>
    some (.inl (x34, σ33))
def X4_worthOf_l19 (n : Nat) (z3 : Int) (z20 : Int) (σ21 : SG) : Option ((Int × SG) ⊕ (SG)) :=
  if w32 (σ21 53 2) ≤ w32 z20 then
    some (.inr σ21)
  else
    ((iter n (fun s : Int × SG => X4_worthOf_l32 n z20 z3 s.1 s.2) (z20, σ21)) : Option (SG)).bind (fun s => X4_worthOf_e32 n z20 s)
def X4_worthOf_l9 (n : Nat) (a3 : Int) (z3 : Int) (σ4 : SG) : Option ((Int × SG) ⊕ (SG)) :=
  if w32 a3 < w32 z3 then
    some (.inr σ4)
  else
    ((iter n (fun s : Int × SG => X4_worthOf_l19 n z3 s.1 s.2) (0, σ4)) : Option (SG)).bind (fun s => X4_worthOf_e19 n z3 s)
def X4_worthOf (n : Nat) (a0 : Int) (a1 : Int) (a2 : Int) (a3 : Int) (σ : SG) : Option (Int × SG) :=
  (X4_fillPool n a0 a1 σ).bind fun σ2 =>
  ((iter n (fun s : Int × SG => X4_worthOf_l9 n a3 s.1 s.2) (0, σ2)) : Option (SG)).bind (fun s => X4_worthOf_e9 n a2 a3 a0 a1 s)
set_option maxHeartbeats 4000000 in
set_option maxRecDepth 100000 in
theorem A_X4_worthOf {Γ : GA} (hΓ : (gl Γ).stackTraces = false) {n : Nat} {a0 : Int} {a1 : Int} {a2 : Int} {a3 : Int} {σ : SG} {r : Int} {τ : SG}  (h : X4_worthOf n a0 a1 a2 a3 σ = some (r, τ)) : AM Γ mX4_worthOf 4 0 0 [vR 53, vI a0, vI a1, vI a2, vI a3] (85, σ) (0, r) (85, τ) := by
  refine AM.of pl_X4 rfl wC_X4_worthOf (le45 rfl) hΓ ?_
  refine AW.to (ls'' := [some (vR 53), some (vI a0), some (vI a1), some (vI a2), some (vI a3), none, none, none]) ?_ (lle_s rfl (lle_s rfl (lle_s rfl (lle_s rfl (lle_s rfl (lle_e (lle_e (lle_e (lle_z)))))))))
  unfold X4_worthOf at h
  refine AW.aload_n (n := 1) (dat D_X4_worthOf 0 rfl) rfl rfl ?_
  refine AW.iload_n (n := 2) (dat D_X4_worthOf 1 rfl) rfl rfl ?_
  refine AW.iload_n (n := 3) (dat D_X4_worthOf 2 rfl) rfl rfl ?_
  obtain ⟨σ2, hc1, h⟩ := ob_some h
  refine AW.cV (n := 6) (as := [vI a0, vI a1]) (st := []) (st' := []) (uc' := 0) (us' := 0) (A_X4_fillPool hΓ hc1) cf_X4_fillPool ly_53 (le45 rfl) vc_4 (le45 rfl) wM_X4_26 (le45 rfl) (le45 rfl) (dat D_X4_worthOf 3 rfl) rfl rfl (le45 rfl) (le45 rfl) rfl (fun _ => ?_) nlt0
  refine AW.iconst (n := 7) (dat D_X4_worthOf 4 rfl) rfl ?_
  refine AW.istore (n := 9) (ls' := [some (vR 53), some (vI a0), some (vI a1), some (vI a2), some (vI a3), some (vI 0), none, none]) (dat D_X4_worthOf 5 rfl) rfl (le45 rfl) (le45 rfl) rfl rfl ?_
  obtain ⟨b5, hi5, hq5⟩ := ob_some h
  obtain ⟨σ6, e5⟩ : ∃ z, z = b5 := ⟨_, rfl⟩
  subst e5
  have hR5 : AW Γ mX4_worthOf 4 (0, r) (85, τ) 0 0 85 [some (vR 53), some (vI a0), some (vI a1), some (vI a2), some (vI a3), none, none, none] [] (85, σ6) := by
    have h : X4_worthOf_e9 n a2 a3 a0 a1 σ6 = some _ := hq5
    unfold X4_worthOf_e9 at h
    refine AW.iconst (n := 86) (dat D_X4_worthOf 42 rfl) rfl ?_
    refine AW.istore (n := 88) (ls' := [some (vR 53), some (vI a0), some (vI a1), some (vI a2), some (vI a3), some (vI 0), none, none]) (dat D_X4_worthOf 43 rfl) rfl (le45 rfl) (le45 rfl) rfl rfl ?_
    obtain ⟨b9, hi9, hq9⟩ := ob_some h
    obtain ⟨σ10, e9⟩ : ∃ z, z = b9 := ⟨_, rfl⟩
    subst e9
    have hR9 : AW Γ mX4_worthOf 4 (0, r) (85, τ) 0 0 106 [some (vR 53), some (vI a0), some (vI a1), none, some (vI a3), none, none, none] [] (85, σ10) := by
      have h : X4_worthOf_e88 n a0 a1 a3 σ10 = some _ := hq9
      unfold X4_worthOf_e88 at h
      refine AW.aload_n (n := 107) (dat D_X4_worthOf 52 rfl) rfl rfl ?_
      refine AW.iload (n := 109) (dat D_X4_worthOf 53 rfl) rfl rfl ?_
      refine AW.aload_n (n := 110) (dat D_X4_worthOf 54 rfl) rfl rfl ?_
      refine AW.iload_n (n := 111) (dat D_X4_worthOf 55 rfl) rfl rfl ?_
      obtain ⟨v12, hc11, h⟩ := ob_some h
      refine AW.cV (n := 114) (as := [vI a0]) (st := [vI a3, vR 53]) (st' := [vI v12, vI a3, vR 53]) (uc' := 0) (us' := 0) (A_X4_placeOf hΓ hc11) cf_X4_placeOf ly_53 (le45 rfl) vc_4 (le45 rfl) wM_X4_42 (le45 rfl) (le45 rfl) (dat D_X4_worthOf 56 rfl) rfl rfl (le45 rfl) (le45 rfl) rfl (fun _ => ?_) nlt0
      refine AW.aload_n (n := 115) (dat D_X4_worthOf 57 rfl) rfl rfl ?_
      refine AW.iload_n (n := 116) (dat D_X4_worthOf 58 rfl) rfl rfl ?_
      obtain ⟨v14, hc13, h⟩ := ob_some h
      refine AW.cV (n := 119) (as := [vI a1]) (st := [vI v12, vI a3, vR 53]) (st' := [vI v14, vI v12, vI a3, vR 53]) (uc' := 0) (us' := 0) (A_X4_placeOf hΓ hc13) cf_X4_placeOf ly_53 (le45 rfl) vc_4 (le45 rfl) wM_X4_42 (le45 rfl) (le45 rfl) (dat D_X4_worthOf 59 rfl) rfl rfl (le45 rfl) (le45 rfl) rfl (fun _ => ?_) nlt0
      obtain ⟨v16, hc15, h⟩ := ob_some h
      refine AW.cV (n := 122) (as := [vI a3, vI v12, vI v14]) (st := []) (st' := [vL v16]) (uc' := 0) (us' := 0) (A_X4_read hΓ hc15) cf_X4_read ly_53 (le45 rfl) vc_4 (le45 rfl) wM_X4_46 (le45 rfl) (le45 rfl) (dat D_X4_worthOf 60 rfl) rfl rfl (le45 rfl) (le45 rfl) rfl (fun _ => ?_) nlt0
      cases h
      exact AW.lret rfl rfl rfl (dat D_X4_worthOf 61 rfl)
    refine AW.to (ls'' := [some (vR 53), some (vI a0), some (vI a1), some (vI a2), some (vI a3), some (vI 0), none, none]) ?_ (lle_s rfl (lle_s rfl (lle_s rfl (lle_s rfl (lle_s rfl (lle_s rfl (lle_n (lle_n (lle_z)))))))))
    refine aw_iter (fun s : Int × SG => AW Γ mX4_worthOf 4 (0, r) (85, τ) 0 0 88 [some (vR 53), some (vI a0), some (vI a1), some (vI a2), some (vI a3), some (vI (s.1)), none, none] [] (85, s.2)) (fun s y h hk9 hb9 => ?_) _ _ hi9
    obtain ⟨z7, σ8⟩ := s
    show AW Γ mX4_worthOf 4 (0, r) (85, τ) 0 0 88 [some (vR 53), some (vI a0), some (vI a1), some (vI a2), some (vI a3), some (vI z7), none, none] [] (85, σ8)
    have h : X4_worthOf_l88 n a2 a3 z7 σ8 = some y := h
    unfold X4_worthOf_l88 at h
    refine AW.iload (n := 90) (dat D_X4_worthOf 44 rfl) rfl rfl ?_
    refine AW.iload_n (n := 91) (dat D_X4_worthOf 45 rfl) rfl rfl ?_
    refine AW.icmp_geH (t := 106) (n := 94) h (dat D_X4_worthOf 46 rfl) rfl rfl rfl rfl (fun h => ?_) (fun h => ?_)
    · cases h
      have hb := hb9 _ rfl
      cases hb
      exact AW.to hR9 (lle_s rfl (lle_s rfl (lle_s rfl (lle_n (lle_s rfl (lle_n (lle_n (lle_n (lle_z)))))))))
    · refine AW.aload_n (n := 95) (dat D_X4_worthOf 47 rfl) rfl rfl ?_
      refine AW.iload (n := 97) (dat D_X4_worthOf 48 rfl) rfl rfl ?_
      obtain ⟨σ18, hc17, h⟩ := ob_some h
      refine AW.cV (n := 100) (as := [vI a3]) (st := []) (st' := []) (uc' := 0) (us' := 0) (A_X4_lookAtWave hΓ hc17) cf_X4_lookAtWave ly_53 (le45 rfl) vc_4 (le45 rfl) wM_X4_38 (le45 rfl) (le45 rfl) (dat D_X4_worthOf 49 rfl) rfl rfl (le45 rfl) (le45 rfl) rfl (fun _ => ?_) nlt0
      refine AW.iincH h (n := 103) (dat D_X4_worthOf 50 rfl) rfl rfl (le45 rfl) rfl (fun x19 h => ?_)
      refine AW.lq (ls' := [some (vR 53), some (vI a0), some (vI a1), some (vI a2), some (vI a3), some (vI x19), none, none]) rfl ?_
      refine AW.goto (t := 88) (dat D_X4_worthOf 51 rfl) rfl ?_
      cases h
      exact AW.to (hk9 _ rfl) (lle_s rfl (lle_s rfl (lle_s rfl (lle_s rfl (lle_s rfl (lle_s rfl (lle_n (lle_n (lle_z)))))))))
  refine AW.to (ls'' := [some (vR 53), some (vI a0), some (vI a1), some (vI a2), some (vI a3), some (vI 0), none, none]) ?_ (lle_s rfl (lle_s rfl (lle_s rfl (lle_s rfl (lle_s rfl (lle_s rfl (lle_n (lle_n (lle_z)))))))))
  refine aw_iter (fun s : Int × SG => AW Γ mX4_worthOf 4 (0, r) (85, τ) 0 0 9 [some (vR 53), some (vI a0), some (vI a1), some (vI a2), some (vI a3), some (vI (s.1)), none, none] [] (85, s.2)) (fun s y h hk5 hb5 => ?_) _ _ hi5
  obtain ⟨z3, σ4⟩ := s
  show AW Γ mX4_worthOf 4 (0, r) (85, τ) 0 0 9 [some (vR 53), some (vI a0), some (vI a1), some (vI a2), some (vI a3), some (vI z3), none, none] [] (85, σ4)
  have h : X4_worthOf_l9 n a3 z3 σ4 = some y := h
  unfold X4_worthOf_l9 at h
  refine AW.iload (n := 11) (dat D_X4_worthOf 6 rfl) rfl rfl ?_
  refine AW.iload (n := 13) (dat D_X4_worthOf 7 rfl) rfl rfl ?_
  refine AW.icmp_gtH (t := 85) (n := 16) h (dat D_X4_worthOf 8 rfl) rfl rfl rfl rfl (fun h => ?_) (fun h => ?_)
  · cases h
    have hb := hb5 _ rfl
    cases hb
    exact AW.to hR5 (lle_s rfl (lle_s rfl (lle_s rfl (lle_s rfl (lle_s rfl (lle_n (lle_n (lle_n (lle_z)))))))))
  · refine AW.iconst (n := 17) (dat D_X4_worthOf 9 rfl) rfl ?_
    refine AW.istore (n := 19) (ls' := [some (vR 53), some (vI a0), some (vI a1), some (vI a2), some (vI a3), some (vI z3), some (vI 0), none]) (dat D_X4_worthOf 10 rfl) rfl (le45 rfl) (le45 rfl) rfl rfl ?_
    obtain ⟨b22, hi22, hq22⟩ := ob_some h
    obtain ⟨σ23, e22⟩ : ∃ z, z = b22 := ⟨_, rfl⟩
    subst e22
    have hR22 : AW Γ mX4_worthOf 4 (0, r) (85, τ) 0 0 79 [some (vR 53), some (vI a0), some (vI a1), some (vI a2), some (vI a3), some (vI z3), none, none] [] (85, σ23) := by
      have h : X4_worthOf_e19 n z3 σ23 = some _ := hq22
      unfold X4_worthOf_e19 at h
      refine AW.iincH h (n := 82) (dat D_X4_worthOf 40 rfl) rfl rfl (le45 rfl) rfl (fun x24 h => ?_)
      refine AW.lq (ls' := [some (vR 53), some (vI a0), some (vI a1), some (vI a2), some (vI a3), some (vI x24), none, none]) rfl ?_
      refine AW.goto (t := 9) (dat D_X4_worthOf 41 rfl) rfl ?_
      cases h
      exact AW.to (hk5 _ rfl) (lle_s rfl (lle_s rfl (lle_s rfl (lle_s rfl (lle_s rfl (lle_s rfl (lle_n (lle_n (lle_z)))))))))
    refine AW.to (ls'' := [some (vR 53), some (vI a0), some (vI a1), some (vI a2), some (vI a3), some (vI z3), some (vI 0), none]) ?_ (lle_s rfl (lle_s rfl (lle_s rfl (lle_s rfl (lle_s rfl (lle_s rfl (lle_s rfl (lle_n (lle_z)))))))))
    refine aw_iter (fun s : Int × SG => AW Γ mX4_worthOf 4 (0, r) (85, τ) 0 0 19 [some (vR 53), some (vI a0), some (vI a1), some (vI a2), some (vI a3), some (vI z3), some (vI (s.1)), none] [] (85, s.2)) (fun s y h hk22 hb22 => ?_) _ _ hi22
    obtain ⟨z20, σ21⟩ := s
    show AW Γ mX4_worthOf 4 (0, r) (85, τ) 0 0 19 [some (vR 53), some (vI a0), some (vI a1), some (vI a2), some (vI a3), some (vI z3), some (vI z20), none] [] (85, σ21)
    have h : X4_worthOf_l19 n z3 z20 σ21 = some y := h
    unfold X4_worthOf_l19 at h
    refine AW.iload (n := 21) (dat D_X4_worthOf 11 rfl) rfl rfl ?_
    refine AW.aload_n (n := 22) (dat D_X4_worthOf 12 rfl) rfl rfl ?_
    refine AW.getI (n := 25) fX4_2 wF_X4_30 ly_53 (le45 rfl) rfl rfl (dat D_X4_worthOf 13 rfl) rfl ?_
    refine AW.icmp_geH (t := 79) (n := 28) h (dat D_X4_worthOf 14 rfl) rfl rfl rfl rfl (fun h => ?_) (fun h => ?_)
    · cases h
      have hb := hb22 _ rfl
      cases hb
      exact AW.to hR22 (lle_s rfl (lle_s rfl (lle_s rfl (lle_s rfl (lle_s rfl (lle_s rfl (lle_n (lle_n (lle_z)))))))))
    · refine AW.iload (n := 30) (dat D_X4_worthOf 15 rfl) rfl rfl ?_
      refine AW.istore (n := 32) (ls' := [some (vR 53), some (vI a0), some (vI a1), some (vI a2), some (vI a3), some (vI z3), some (vI z20), some (vI z20)]) (dat D_X4_worthOf 16 rfl) rfl (le45 rfl) (le45 rfl) rfl rfl ?_
      obtain ⟨b27, hi27, hq27⟩ := ob_some h
      obtain ⟨σ28, e27⟩ : ∃ z, z = b27 := ⟨_, rfl⟩
      subst e27
      have hR27 : AW Γ mX4_worthOf 4 (0, r) (85, τ) 0 0 73 [some (vR 53), some (vI a0), some (vI a1), some (vI a2), some (vI a3), some (vI z3), some (vI z20), none] [] (85, σ28) := by
        have h : X4_worthOf_e32 n z20 σ28 = some _ := hq27
        unfold X4_worthOf_e32 at h
        refine AW.iincH h (n := 76) (dat D_X4_worthOf 38 rfl) rfl rfl (le45 rfl) rfl (fun x29 h => ?_)
        refine AW.lq (ls' := [some (vR 53), some (vI a0), some (vI a1), some (vI a2), some (vI a3), some (vI z3), some (vI x29), none]) rfl ?_
        refine AW.goto (t := 19) (dat D_X4_worthOf 39 rfl) rfl ?_
        cases h
        exact AW.to (hk22 _ rfl) (lle_s rfl (lle_s rfl (lle_s rfl (lle_s rfl (lle_s rfl (lle_s rfl (lle_s rfl (lle_n (lle_z)))))))))
      refine AW.to (ls'' := [some (vR 53), some (vI a0), some (vI a1), some (vI a2), some (vI a3), some (vI z3), some (vI z20), some (vI z20)]) ?_ (lle_s rfl (lle_s rfl (lle_s rfl (lle_s rfl (lle_s rfl (lle_s rfl (lle_s rfl (lle_s rfl (lle_z)))))))))
      refine aw_iter (fun s : Int × SG => AW Γ mX4_worthOf 4 (0, r) (85, τ) 0 0 32 [some (vR 53), some (vI a0), some (vI a1), some (vI a2), some (vI a3), some (vI z3), some (vI z20), some (vI (s.1))] [] (85, s.2)) (fun s y h hk27 hb27 => ?_) _ _ hi27
      obtain ⟨z25, σ26⟩ := s
      show AW Γ mX4_worthOf 4 (0, r) (85, τ) 0 0 32 [some (vR 53), some (vI a0), some (vI a1), some (vI a2), some (vI a3), some (vI z3), some (vI z20), some (vI z25)] [] (85, σ26)
      have h : X4_worthOf_l32 n z20 z3 z25 σ26 = some y := h
      unfold X4_worthOf_l32 at h
      refine AW.iload (n := 34) (dat D_X4_worthOf 17 rfl) rfl rfl ?_
      refine AW.aload_n (n := 35) (dat D_X4_worthOf 18 rfl) rfl rfl ?_
      refine AW.getI (n := 38) fX4_2 wF_X4_30 ly_53 (le45 rfl) rfl rfl (dat D_X4_worthOf 19 rfl) rfl ?_
      refine AW.icmp_geH (t := 73) (n := 41) h (dat D_X4_worthOf 20 rfl) rfl rfl rfl rfl (fun h => ?_) (fun h => ?_)
      · cases h
        have hb := hb27 _ rfl
        cases hb
        exact AW.to hR27 (lle_s rfl (lle_s rfl (lle_s rfl (lle_s rfl (lle_s rfl (lle_s rfl (lle_s rfl (lle_n (lle_z)))))))))
      · refine AW.aload_n (n := 42) (dat D_X4_worthOf 21 rfl) rfl rfl ?_
        refine AW.iload (n := 44) (dat D_X4_worthOf 22 rfl) rfl rfl ?_
        refine AW.iload (n := 46) (dat D_X4_worthOf 23 rfl) rfl rfl ?_
        refine AW.iload (n := 48) (dat D_X4_worthOf 24 rfl) rfl rfl ?_
        refine AW.aload_n (n := 49) (dat D_X4_worthOf 25 rfl) rfl rfl ?_
        refine AW.getR (n := 52) (t := 54) fX4_1 wF_X4_11 ly_53 (le45 rfl) rfl (dat D_X4_worthOf 26 rfl) rfl ?_
        refine AW.iload (n := 54) (dat D_X4_worthOf 27 rfl) rfl rfl ?_
        refine AW.ialdH h (n := 55) rfl ly_54 (le45 rfl) (dat D_X4_worthOf 28 rfl) rfl (fun j30 h => ?_)
        refine AW.aload_n (n := 56) (dat D_X4_worthOf 29 rfl) rfl rfl ?_
        refine AW.getR (n := 59) (t := 54) fX4_1 wF_X4_11 ly_53 (le45 rfl) rfl (dat D_X4_worthOf 30 rfl) rfl ?_
        refine AW.iload (n := 61) (dat D_X4_worthOf 31 rfl) rfl rfl ?_
        refine AW.ialdH h (n := 62) rfl ly_54 (le45 rfl) (dat D_X4_worthOf 32 rfl) rfl (fun j31 h => ?_)
        refine AW.iadd (n := 63) (dat D_X4_worthOf 33 rfl) rfl ?_
        refine AW.i2l (n := 64) (dat D_X4_worthOf 34 rfl) rfl ?_
        obtain ⟨σ33, hc32, h⟩ := ob_some h
        refine AW.cV (n := 67) (as := [vI z3, vI z20, vI z25, vL (w32 ((σ26 54 j30) + (σ26 54 j31)))]) (st := []) (st' := []) (uc' := 0) (us' := 0) (A_X4_write hΓ hc32) cf_X4_write ly_53 (le45 rfl) vc_4 (le45 rfl) wM_X4_34 (le45 rfl) (le45 rfl) (dat D_X4_worthOf 35 rfl) rfl rfl (le45 rfl) (le45 rfl) rfl (fun _ => ?_) nlt0
        refine AW.iincH h (n := 70) (dat D_X4_worthOf 36 rfl) rfl rfl (le45 rfl) rfl (fun x34 h => ?_)
        refine AW.lq (ls' := [some (vR 53), some (vI a0), some (vI a1), some (vI a2), some (vI a3), some (vI z3), some (vI z20), some (vI x34)]) rfl ?_
        refine AW.goto (t := 32) (dat D_X4_worthOf 37 rfl) rfl ?_
        cases h
        exact AW.to (hk27 _ rfl) (lle_s rfl (lle_s rfl (lle_s rfl (lle_s rfl (lle_s rfl (lle_s rfl (lle_s rfl (lle_s rfl (lle_z)))))))))
def L_X11_worth : List (Nat × Instr × Nat) := [(0, .aload_n 0, 1), (1, .iload_n 1, 1), (2, .invokevirtual 145, 3), (5, .aload_n 0, 1), (6, .iload_n 2, 1), (7, .iload_n 3, 1), (8, .iconst 0, 1), (9, .invokevirtual 303, 3), (12, .aload_n 0, 1), (13, .getfield 55, 3), (16, .getfield 148, 3), (19, .iload_n 1, 1), (20, .aaload, 1), (21, .astore 4, 2), (23, .aload_n 0, 1), (24, .getfield 80, 3), (27, .aload 4, 2), (29, .getfield 184, 3), (32, .aload 4, 2), (34, .getfield 187, 3), (37, .iload_n 2, 1), (38, .iload_n 3, 1), (39, .invokevirtual 307, 3), (42, .lreturn, 1)]
theorem D_X11_worth : dOK cX11_worth L_X11_worth = true := by decide +kernel
theorem cf_X11_worth : CFV mX11_worth 3 := ⟨wI_X11_worth, wS_X11_worth, wN_WaveRight, wC_X11_worth, rfl, ⟨by decide +kernel, by decide +kernel, by decide +kernel⟩, le45 rfl⟩
def X11_worth (n : Nat) (a0 : Int) (a1 : Int) (a2 : Int) (σ : SG) : Option ((Nat × Int) × SG) :=
  (X11_mustBeSurfer n a0 σ).bind fun t2 => if t2 = 0 then
  (X11_mustLookAhead n a1 a2 0 σ).bind fun t4 => if t4 = 0 then
  rdA 5 a0 fun j5 => ckR isSw (σ 34 j5) fun k6 =>
  bnd2 (X4_worthOf n (σ k6 10) (σ k6 11) a1 a2 σ) fun v8 σ9 =>
  some (((0, v8), σ9))
  else some (((t4, 0), σ))
  else some (((t2, 0), σ))
set_option maxHeartbeats 4000000 in
set_option maxRecDepth 100000 in
theorem A_X11_worth {Γ : GA} (hΓ : (gl Γ).stackTraces = false) {n : Nat} {a0 : Int} {a1 : Int} {a2 : Int} {σ : SG} {o : Nat × Int} {τ : SG}  (h : X11_worth n a0 a1 a2 σ = some (o, τ)) : AM Γ mX11_worth 9 8 48 [vR 0, vI a0, vI a1, vI a2] (85, σ) o (85, τ) := by
  refine AM.of pl_X11 rfl wC_X11_worth (le45 rfl) hΓ ?_
  refine AW.to (ls'' := [some (vR 0), some (vI a0), some (vI a1), some (vI a2), none]) ?_ (lle_s rfl (lle_s rfl (lle_s rfl (lle_s rfl (lle_e (lle_z))))))
  unfold X11_worth at h
  refine AW.aload_n (n := 1) (dat D_X11_worth 0 rfl) rfl rfl ?_
  refine AW.iload_n (n := 2) (dat D_X11_worth 1 rfl) rfl rfl ?_
  obtain ⟨t2, hc1, h⟩ := ob_some h
  refine AW.cV (n := 5) (as := [vI a0]) (st := []) (st' := []) (uc' := 7) (us' := 42) (A_X11_mustBeSurfer hΓ hc1) cf_X11_mustBeSurfer ly_0 (le45 rfl) vc_11 (le45 rfl) wM_X11_145 (le45 rfl) (le45 rfl) (dat D_X11_worth 2 rfl) rfl rfl (le45 rfl) (le45 rfl) rfl (fun q => ?_) (fun q => ?_)
  rotate_left
  · have h := ite_f h (by have q : 0 < t2 := q; omega)
    cases h
    exact AX.out rfl q rfl rfl
  have h := ite_t h q
  refine AW.aload_n (n := 6) (dat D_X11_worth 3 rfl) rfl rfl ?_
  refine AW.iload_n (n := 7) (dat D_X11_worth 4 rfl) rfl rfl ?_
  refine AW.iload_n (n := 8) (dat D_X11_worth 5 rfl) rfl rfl ?_
  refine AW.iconst (n := 9) (dat D_X11_worth 6 rfl) rfl ?_
  obtain ⟨t4, hc3, h⟩ := ob_some h
  refine AW.cV (n := 12) (as := [vI a1, vI a2, vI 0]) (st := []) (st' := []) (uc' := 6) (us' := 36) (A_X11_mustLookAhead hΓ hc3) cf_X11_mustLookAhead ly_0 (le45 rfl) vc_11 (le45 rfl) wM_X11_303 (le45 rfl) (le45 rfl) (dat D_X11_worth 7 rfl) rfl rfl (le45 rfl) (le45 rfl) rfl (fun q => ?_) (fun q => ?_)
  rotate_left
  · have h := ite_f h (by have q : 0 < t4 := q; omega)
    cases h
    exact AX.out rfl q rfl rfl
  have h := ite_t h q
  refine AW.aload_n (n := 13) (dat D_X11_worth 8 rfl) rfl rfl ?_
  refine AW.getR (n := 16) (t := 19) fX11_6 wF_X11_55 ly_0 (le45 rfl) rfl (dat D_X11_worth 9 rfl) rfl ?_
  refine AW.getR (n := 19) (t := 34) fX1_2 wF_X11_148 ly_19 (le45 rfl) rfl (dat D_X11_worth 10 rfl) rfl ?_
  refine AW.iload_n (n := 20) (dat D_X11_worth 11 rfl) rfl rfl ?_
  refine AW.aaldH h (n := 21) rfl ly_34 (le45 rfl) (dat D_X11_worth 12 rfl) rfl (fun j5 k6 hpk6 h => ?_)
  refine AW.astore (n := 23) (ls' := [some (vR 0), some (vI a0), some (vI a1), some (vI a2), some (vR k6)]) (dat D_X11_worth 13 rfl) rfl (le45 rfl) (le45 rfl) rfl rfl ?_
  refine AW.aload_n (n := 24) (dat D_X11_worth 14 rfl) rfl rfl ?_
  refine AW.getR (n := 27) (t := 53) fX11_9 wF_X11_80 ly_0 (le45 rfl) rfl (dat D_X11_worth 15 rfl) rfl ?_
  refine AW.aload (n := 29) (dat D_X11_worth 16 rfl) rfl rfl ?_
  refine AW.getI (n := 32) fX9_10 wF_X11_184 (isSw_ly0 hpk6) (by have := isSw_lt hpk6; omega) rfl rfl (dat D_X11_worth 17 rfl) rfl ?_
  refine AW.aload (n := 34) (dat D_X11_worth 18 rfl) rfl rfl ?_
  refine AW.getI (n := 37) fX9_11 wF_X11_187 (isSw_ly0 hpk6) (by have := isSw_lt hpk6; omega) rfl rfl (dat D_X11_worth 19 rfl) rfl ?_
  refine AW.iload_n (n := 38) (dat D_X11_worth 20 rfl) rfl rfl ?_
  refine AW.iload_n (n := 39) (dat D_X11_worth 21 rfl) rfl rfl ?_
  obtain ⟨v8, σ9, hc7, h⟩ := bnd2_some h
  refine AW.cV (n := 42) (as := [vI (σ k6 10), vI (σ k6 11), vI a1, vI a2]) (st := []) (st' := [vL v8]) (uc' := 6) (us' := 36) (A_X4_worthOf hΓ hc7) cf_X4_worthOf ly_53 (le45 rfl) vc_4 (le45 rfl) wM_X11_307 (le45 rfl) (le45 rfl) (dat D_X11_worth 22 rfl) rfl rfl (le45 rfl) (le45 rfl) rfl (fun _ => ?_) nlt0
  cases h
  exact AW.lret rfl rfl rfl (dat D_X11_worth 23 rfl)
def L_X4_leastToTake : List (Nat × Instr × Nat) := [(0, .aload_n 0, 1), (1, .iload_n 1, 1), (2, .iload_n 2, 1), (3, .iload_n 3, 1), (4, .iload 4, 2), (6, .invokevirtual 50, 3), (9, .lstore 5, 2), (11, .iconst 0, 1), (12, .istore 7, 2), (14, .bipush 101, 2), (16, .istore 8, 2), (18, .iload 7, 2), (20, .iload 8, 2), (22, .if_icmp .ge 63, 3), (25, .iload 7, 2), (27, .iload 8, 2), (29, .iadd, 1), (30, .iconst 2, 1), (31, .idiv, 1), (32, .istore 9, 2), (34, .iload_n 2, 1), (35, .iload_n 1, 1), (36, .iload 9, 2), (38, .invokestatic 54, 3), (41, .invokestatic 60, 3), (44, .istore 10, 2), (46, .aload_n 0, 1), (47, .iload_n 1, 1), (48, .iload 9, 2), (50, .invokestatic 60, 3), (53, .iload 10, 2), (55, .iload_n 3, 1), (56, .iload 4, 2), (58, .iconst 1, 1), (59, .isub, 1), (60, .invokevirtual 50, 3), (63, .lload 5, 2), (65, .lcmp, 1), (66, .ifCond .lt 10, 3), (69, .iload 9, 2), (71, .istore 8, 2), (73, .goto 9, 3), (76, .iload 9, 2), (78, .iconst 1, 1), (79, .iadd, 1), (80, .istore 7, 2), (82, .goto (-64), 3), (85, .iload 7, 2), (87, .bipush 100, 2), (89, .if_icmp .le 7, 3), (92, .iconst (-1), 1), (93, .goto 5, 3), (96, .iload 7, 2), (98, .ireturn, 1)]
theorem D_X4_leastToTake : dOK cX4_leastToTake L_X4_leastToTake = true := by decide +kernel
theorem cf_X4_leastToTake : CFV mX4_leastToTake 4 := ⟨wI_X4_leastToTake, wS_X4_leastToTake, wN_WaveRight_Looking, wC_X4_leastToTake, rfl, ⟨by decide +kernel, by decide +kernel, by decide +kernel⟩, le45 rfl⟩
def X4_leastToTake_e18 (n : Nat) (e8 : Int) (σ9 : SG) : Option (Int × SG) :=
  if w32 e8 ≤ 100 then
    some ((e8, σ9))
  else
    some (((-1), σ9))
def X4_leastToTake_j82 (n : Nat) (σ15 : SG) (y16 : Int) (y17 : Int) : Option ((Int × Int × SG) ⊕ (Int × SG)) :=
  some (.inl (y16, y17, σ15))
def X4_leastToTake_l18 (n : Nat) (a1 : Int) (a0 : Int) (a2 : Int) (a3 : Int) (v2 : Int) (z4 : Int) (z5 : Int) (σ6 : SG) : Option ((Int × Int × SG) ⊕ (Int × SG)) :=
  if w32 z5 ≤ w32 z4 then
    some (.inr (z4, σ6))
  else
    if w32 2 = 0 then none else
    lt (dv32 (z4 + z5) 2) fun x11 =>
    lt (mx32 a1 (mn32 a0 x11)) fun x12 =>
    bnd2 (X4_worthOf n (mx32 a0 x11) x12 a2 (a3 - 1) σ6) fun v14 σ15 =>
    ((if w32 (cmpL v14 v2) < 0 then
      lt (x11 + 1) fun x19 =>
      some ((x19, z5))
    else
      some ((z4, x11))) : Option (Int × Int)).bind (fun s => X4_leastToTake_j82 n σ15 s.1 s.2)
def X4_leastToTake (n : Nat) (a0 : Int) (a1 : Int) (a2 : Int) (a3 : Int) (σ : SG) : Option (Int × SG) :=
  bnd2 (X4_worthOf n a0 a1 a2 a3 σ) fun v2 σ3 =>
  ((iter n (fun s : Int × Int × SG => X4_leastToTake_l18 n a1 a0 a2 a3 v2 s.1 s.2.1 s.2.2) (0, 101, σ3)) : Option (Int × SG)).bind (fun s => X4_leastToTake_e18 n s.1 s.2)
set_option maxHeartbeats 4000000 in
set_option maxRecDepth 100000 in
theorem A_X4_leastToTake {Γ : GA} (hΓ : (gl Γ).stackTraces = false) {n : Nat} {a0 : Int} {a1 : Int} {a2 : Int} {a3 : Int} {σ : SG} {r : Int} {τ : SG}  (h : X4_leastToTake n a0 a1 a2 a3 σ = some (r, τ)) : AM Γ mX4_leastToTake 5 0 0 [vR 53, vI a0, vI a1, vI a2, vI a3] (85, σ) (0, r) (85, τ) := by
  refine AM.of pl_X4 rfl wC_X4_leastToTake (le45 rfl) hΓ ?_
  refine AW.to (ls'' := [some (vR 53), some (vI a0), some (vI a1), some (vI a2), some (vI a3), none, none, none, none, none, none]) ?_ (lle_s rfl (lle_s rfl (lle_s rfl (lle_s rfl (lle_s rfl (lle_e (lle_e (lle_e (lle_e (lle_e (lle_e (lle_z))))))))))))
  unfold X4_leastToTake at h
  refine AW.aload_n (n := 1) (dat D_X4_leastToTake 0 rfl) rfl rfl ?_
  refine AW.iload_n (n := 2) (dat D_X4_leastToTake 1 rfl) rfl rfl ?_
  refine AW.iload_n (n := 3) (dat D_X4_leastToTake 2 rfl) rfl rfl ?_
  refine AW.iload_n (n := 4) (dat D_X4_leastToTake 3 rfl) rfl rfl ?_
  refine AW.iload (n := 6) (dat D_X4_leastToTake 4 rfl) rfl rfl ?_
  obtain ⟨v2, σ3, hc1, h⟩ := bnd2_some h
  refine AW.cV (n := 9) (as := [vI a0, vI a1, vI a2, vI a3]) (st := []) (st' := [vL v2]) (uc' := 0) (us' := 0) (A_X4_worthOf hΓ hc1) cf_X4_worthOf ly_53 (le45 rfl) vc_4 (le45 rfl) wM_X4_50 (le45 rfl) (le45 rfl) (dat D_X4_leastToTake 5 rfl) rfl rfl (le45 rfl) (le45 rfl) rfl (fun _ => ?_) nlt0
  refine AW.lstore (n := 11) (ls' := [some (vR 53), some (vI a0), some (vI a1), some (vI a2), some (vI a3), some (vL v2), none, none, none, none, none]) (dat D_X4_leastToTake 6 rfl) rfl (le45 rfl) (le45 rfl) rfl rfl ?_
  refine AW.iconst (n := 12) (dat D_X4_leastToTake 7 rfl) rfl ?_
  refine AW.istore (n := 14) (ls' := [some (vR 53), some (vI a0), some (vI a1), some (vI a2), some (vI a3), some (vL v2), none, some (vI 0), none, none, none]) (dat D_X4_leastToTake 8 rfl) rfl (le45 rfl) (le45 rfl) rfl rfl ?_
  refine AW.bipush (n := 16) (dat D_X4_leastToTake 9 rfl) rfl (by decide) ?_
  refine AW.istore (n := 18) (ls' := [some (vR 53), some (vI a0), some (vI a1), some (vI a2), some (vI a3), some (vL v2), none, some (vI 0), some (vI 101), none, none]) (dat D_X4_leastToTake 10 rfl) rfl (le45 rfl) (le45 rfl) rfl rfl ?_
  obtain ⟨b7, hi7, hq7⟩ := ob_some h
  obtain ⟨e8, σ9⟩ := b7
  have hR7 : AW Γ mX4_leastToTake 5 (0, r) (85, τ) 0 0 85 [none, none, none, none, none, none, none, some (vI e8), none, none, none] [] (85, σ9) := by
    have h : X4_leastToTake_e18 n e8 σ9 = some _ := hq7
    unfold X4_leastToTake_e18 at h
    refine AW.iload (n := 87) (dat D_X4_leastToTake 47 rfl) rfl rfl ?_
    refine AW.bipush (n := 89) (dat D_X4_leastToTake 48 rfl) rfl (by decide) ?_
    refine AW.icmp_leH (t := 96) (n := 92) h (dat D_X4_leastToTake 49 rfl) rfl rfl rfl (by decide) (fun h => ?_) (fun h => ?_)
    · refine AW.iload (n := 98) (dat D_X4_leastToTake 52 rfl) rfl rfl ?_
      cases h
      exact AW.iret rfl rfl rfl (dat D_X4_leastToTake 53 rfl)
    · refine AW.iconst (n := 93) (dat D_X4_leastToTake 50 rfl) rfl ?_
      refine AW.goto (t := 98) (dat D_X4_leastToTake 51 rfl) rfl ?_
      cases h
      exact AW.iret rfl rfl rfl (dat D_X4_leastToTake 53 rfl)
  refine AW.to (ls'' := [some (vR 53), some (vI a0), some (vI a1), some (vI a2), some (vI a3), some (vL v2), none, some (vI 0), some (vI 101), none, none]) ?_ (lle_s rfl (lle_s rfl (lle_s rfl (lle_s rfl (lle_s rfl (lle_s rfl (lle_n (lle_s rfl (lle_s rfl (lle_n (lle_n (lle_z))))))))))))
  refine aw_iter (fun s : Int × Int × SG => AW Γ mX4_leastToTake 5 (0, r) (85, τ) 0 0 18 [some (vR 53), some (vI a0), some (vI a1), some (vI a2), some (vI a3), some (vL v2), none, some (vI (s.1)), some (vI (s.2.1)), none, none] [] (85, s.2.2)) (fun s y h hk7 hb7 => ?_) _ _ hi7
  obtain ⟨z4, z5, σ6⟩ := s
  show AW Γ mX4_leastToTake 5 (0, r) (85, τ) 0 0 18 [some (vR 53), some (vI a0), some (vI a1), some (vI a2), some (vI a3), some (vL v2), none, some (vI z4), some (vI z5), none, none] [] (85, σ6)
  have h : X4_leastToTake_l18 n a1 a0 a2 a3 v2 z4 z5 σ6 = some y := h
  unfold X4_leastToTake_l18 at h
  refine AW.iload (n := 20) (dat D_X4_leastToTake 11 rfl) rfl rfl ?_
  refine AW.iload (n := 22) (dat D_X4_leastToTake 12 rfl) rfl rfl ?_
  refine AW.icmp_geH (t := 85) (n := 25) h (dat D_X4_leastToTake 13 rfl) rfl rfl rfl rfl (fun h => ?_) (fun h => ?_)
  · cases h
    have hb := hb7 _ rfl
    cases hb
    exact AW.to hR7 (lle_n (lle_n (lle_n (lle_n (lle_n (lle_n (lle_n (lle_s rfl (lle_n (lle_n (lle_n (lle_z))))))))))))
  · refine AW.iload (n := 27) (dat D_X4_leastToTake 14 rfl) rfl rfl ?_
    refine AW.iload (n := 29) (dat D_X4_leastToTake 15 rfl) rfl rfl ?_
    refine AW.iadd (n := 30) (dat D_X4_leastToTake 16 rfl) rfl ?_
    refine AW.iconst (n := 31) (dat D_X4_leastToTake 17 rfl) rfl ?_
    obtain ⟨q10, h⟩ := ite_n h
    refine AW.idiv (n := 32) (dat D_X4_leastToTake 18 rfl) rfl q10 ?_
    refine AW.ltI h (fun x11 h => ?_)
    refine AW.istore (n := 34) (ls' := [some (vR 53), some (vI a0), some (vI a1), some (vI a2), some (vI a3), some (vL v2), none, some (vI z4), some (vI z5), some (vI x11), none]) (dat D_X4_leastToTake 19 rfl) rfl (le45 rfl) (le45 rfl) rfl rfl ?_
    refine AW.iload_n (n := 35) (dat D_X4_leastToTake 20 rfl) rfl rfl ?_
    refine AW.iload_n (n := 36) (dat D_X4_leastToTake 21 rfl) rfl rfl ?_
    refine AW.iload (n := 38) (dat D_X4_leastToTake 22 rfl) rfl rfl ?_
    refine AW.mmin (n := 41) wM_X4_54 (le45 rfl) (le45 rfl) (dat D_X4_leastToTake 23 rfl) rfl ?_
    refine AW.mmax (n := 44) wM_X4_60 (le45 rfl) (le45 rfl) (dat D_X4_leastToTake 24 rfl) rfl ?_
    refine AW.ltI h (fun x12 h => ?_)
    refine AW.istore (n := 46) (ls' := [some (vR 53), some (vI a0), some (vI a1), some (vI a2), some (vI a3), some (vL v2), none, some (vI z4), some (vI z5), some (vI x11), some (vI x12)]) (dat D_X4_leastToTake 25 rfl) rfl (le45 rfl) (le45 rfl) rfl rfl ?_
    refine AW.aload_n (n := 47) (dat D_X4_leastToTake 26 rfl) rfl rfl ?_
    refine AW.iload_n (n := 48) (dat D_X4_leastToTake 27 rfl) rfl rfl ?_
    refine AW.iload (n := 50) (dat D_X4_leastToTake 28 rfl) rfl rfl ?_
    refine AW.mmax (n := 53) wM_X4_60 (le45 rfl) (le45 rfl) (dat D_X4_leastToTake 29 rfl) rfl ?_
    refine AW.iload (n := 55) (dat D_X4_leastToTake 30 rfl) rfl rfl ?_
    refine AW.iload_n (n := 56) (dat D_X4_leastToTake 31 rfl) rfl rfl ?_
    refine AW.iload (n := 58) (dat D_X4_leastToTake 32 rfl) rfl rfl ?_
    refine AW.iconst (n := 59) (dat D_X4_leastToTake 33 rfl) rfl ?_
    refine AW.isub (n := 60) (dat D_X4_leastToTake 34 rfl) rfl ?_
    obtain ⟨v14, σ15, hc13, h⟩ := bnd2_some h
    refine AW.cV (n := 63) (as := [vI (mx32 a0 x11), vI x12, vI a2, vI (a3 - 1)]) (st := []) (st' := [vL v14]) (uc' := 0) (us' := 0) (A_X4_worthOf hΓ hc13) cf_X4_worthOf ly_53 (le45 rfl) vc_4 (le45 rfl) wM_X4_50 (le45 rfl) (le45 rfl) (dat D_X4_leastToTake 35 rfl) rfl rfl (le45 rfl) (le45 rfl) rfl (fun _ => ?_) nlt0
    refine AW.lload (n := 65) (dat D_X4_leastToTake 36 rfl) rfl rfl ?_
    refine AW.lcmp (n := 66) (dat D_X4_leastToTake 37 rfl) rfl ?_
    obtain ⟨s18, h, hq18⟩ := ob_some h
    obtain ⟨y16, y17⟩ := s18
    have hJ18 : AW Γ mX4_leastToTake 5 (0, r) (85, τ) 0 0 82 [some (vR 53), some (vI a0), some (vI a1), some (vI a2), some (vI a3), some (vL v2), none, some (vI y16), some (vI y17), none, none] [] (85, σ15) := by
      have h : X4_leastToTake_j82 n σ15 y16 y17 = some _ := hq18
      unfold X4_leastToTake_j82 at h
      refine AW.goto (t := 18) (dat D_X4_leastToTake 46 rfl) rfl ?_
      cases h
      exact AW.to (hk7 _ rfl) (lle_s rfl (lle_s rfl (lle_s rfl (lle_s rfl (lle_s rfl (lle_s rfl (lle_n (lle_s rfl (lle_s rfl (lle_n (lle_n (lle_z))))))))))))
    refine AW.if_ltH (t := 76) (n := 69) h (dat D_X4_leastToTake 38 rfl) rfl rfl (fun h => ?_) (fun h => ?_)
    · refine AW.iload (n := 78) (dat D_X4_leastToTake 42 rfl) rfl rfl ?_
      refine AW.iconst (n := 79) (dat D_X4_leastToTake 43 rfl) rfl ?_
      refine AW.iadd (n := 80) (dat D_X4_leastToTake 44 rfl) rfl ?_
      refine AW.ltI h (fun x19 h => ?_)
      refine AW.istore (n := 82) (ls' := [some (vR 53), some (vI a0), some (vI a1), some (vI a2), some (vI a3), some (vL v2), none, some (vI x19), some (vI z5), some (vI x11), some (vI x12)]) (dat D_X4_leastToTake 45 rfl) rfl (le45 rfl) (le45 rfl) rfl rfl ?_
      cases h
      exact AW.to hJ18 (lle_s rfl (lle_s rfl (lle_s rfl (lle_s rfl (lle_s rfl (lle_s rfl (lle_n (lle_s rfl (lle_s rfl (lle_n (lle_n (lle_z))))))))))))
    · refine AW.iload (n := 71) (dat D_X4_leastToTake 39 rfl) rfl rfl ?_
      refine AW.istore (n := 73) (ls' := [some (vR 53), some (vI a0), some (vI a1), some (vI a2), some (vI a3), some (vL v2), none, some (vI z4), some (vI x11), some (vI x11), some (vI x12)]) (dat D_X4_leastToTake 40 rfl) rfl (le45 rfl) (le45 rfl) rfl rfl ?_
      refine AW.goto (t := 82) (dat D_X4_leastToTake 41 rfl) rfl ?_
      cases h
      exact AW.to hJ18 (lle_s rfl (lle_s rfl (lle_s rfl (lle_s rfl (lle_s rfl (lle_s rfl (lle_n (lle_s rfl (lle_s rfl (lle_n (lle_n (lle_z))))))))))))
def L_X11_least : List (Nat × Instr × Nat) := [(0, .aload_n 0, 1), (1, .iload_n 1, 1), (2, .invokevirtual 145, 3), (5, .aload_n 0, 1), (6, .iload_n 2, 1), (7, .iload_n 3, 1), (8, .iconst 1, 1), (9, .invokevirtual 303, 3), (12, .aload_n 0, 1), (13, .getfield 55, 3), (16, .getfield 148, 3), (19, .iload_n 1, 1), (20, .aaload, 1), (21, .astore 4, 2), (23, .aload_n 0, 1), (24, .getfield 80, 3), (27, .aload 4, 2), (29, .getfield 184, 3), (32, .aload 4, 2), (34, .getfield 187, 3), (37, .iload_n 2, 1), (38, .iload_n 3, 1), (39, .invokevirtual 311, 3), (42, .ireturn, 1)]
theorem D_X11_least : dOK cX11_least L_X11_least = true := by decide +kernel
theorem cf_X11_least : CFV mX11_least 3 := ⟨wI_X11_least, wS_X11_least, wN_WaveRight, wC_X11_least, rfl, ⟨by decide +kernel, by decide +kernel, by decide +kernel⟩, le45 rfl⟩
def X11_least (n : Nat) (a0 : Int) (a1 : Int) (a2 : Int) (σ : SG) : Option ((Nat × Int) × SG) :=
  (X11_mustBeSurfer n a0 σ).bind fun t2 => if t2 = 0 then
  (X11_mustLookAhead n a1 a2 1 σ).bind fun t4 => if t4 = 0 then
  rdA 5 a0 fun j5 => ckR isSw (σ 34 j5) fun k6 =>
  bnd2 (X4_leastToTake n (σ k6 10) (σ k6 11) a1 a2 σ) fun v8 σ9 =>
  some (((0, v8), σ9))
  else some (((t4, 0), σ))
  else some (((t2, 0), σ))
set_option maxHeartbeats 4000000 in
set_option maxRecDepth 100000 in
theorem A_X11_least {Γ : GA} (hΓ : (gl Γ).stackTraces = false) {n : Nat} {a0 : Int} {a1 : Int} {a2 : Int} {σ : SG} {o : Nat × Int} {τ : SG}  (h : X11_least n a0 a1 a2 σ = some (o, τ)) : AM Γ mX11_least 9 8 48 [vR 0, vI a0, vI a1, vI a2] (85, σ) o (85, τ) := by
  refine AM.of pl_X11 rfl wC_X11_least (le45 rfl) hΓ ?_
  refine AW.to (ls'' := [some (vR 0), some (vI a0), some (vI a1), some (vI a2), none]) ?_ (lle_s rfl (lle_s rfl (lle_s rfl (lle_s rfl (lle_e (lle_z))))))
  unfold X11_least at h
  refine AW.aload_n (n := 1) (dat D_X11_least 0 rfl) rfl rfl ?_
  refine AW.iload_n (n := 2) (dat D_X11_least 1 rfl) rfl rfl ?_
  obtain ⟨t2, hc1, h⟩ := ob_some h
  refine AW.cV (n := 5) (as := [vI a0]) (st := []) (st' := []) (uc' := 7) (us' := 42) (A_X11_mustBeSurfer hΓ hc1) cf_X11_mustBeSurfer ly_0 (le45 rfl) vc_11 (le45 rfl) wM_X11_145 (le45 rfl) (le45 rfl) (dat D_X11_least 2 rfl) rfl rfl (le45 rfl) (le45 rfl) rfl (fun q => ?_) (fun q => ?_)
  rotate_left
  · have h := ite_f h (by have q : 0 < t2 := q; omega)
    cases h
    exact AX.out rfl q rfl rfl
  have h := ite_t h q
  refine AW.aload_n (n := 6) (dat D_X11_least 3 rfl) rfl rfl ?_
  refine AW.iload_n (n := 7) (dat D_X11_least 4 rfl) rfl rfl ?_
  refine AW.iload_n (n := 8) (dat D_X11_least 5 rfl) rfl rfl ?_
  refine AW.iconst (n := 9) (dat D_X11_least 6 rfl) rfl ?_
  obtain ⟨t4, hc3, h⟩ := ob_some h
  refine AW.cV (n := 12) (as := [vI a1, vI a2, vI 1]) (st := []) (st' := []) (uc' := 6) (us' := 36) (A_X11_mustLookAhead hΓ hc3) cf_X11_mustLookAhead ly_0 (le45 rfl) vc_11 (le45 rfl) wM_X11_303 (le45 rfl) (le45 rfl) (dat D_X11_least 7 rfl) rfl rfl (le45 rfl) (le45 rfl) rfl (fun q => ?_) (fun q => ?_)
  rotate_left
  · have h := ite_f h (by have q : 0 < t4 := q; omega)
    cases h
    exact AX.out rfl q rfl rfl
  have h := ite_t h q
  refine AW.aload_n (n := 13) (dat D_X11_least 8 rfl) rfl rfl ?_
  refine AW.getR (n := 16) (t := 19) fX11_6 wF_X11_55 ly_0 (le45 rfl) rfl (dat D_X11_least 9 rfl) rfl ?_
  refine AW.getR (n := 19) (t := 34) fX1_2 wF_X11_148 ly_19 (le45 rfl) rfl (dat D_X11_least 10 rfl) rfl ?_
  refine AW.iload_n (n := 20) (dat D_X11_least 11 rfl) rfl rfl ?_
  refine AW.aaldH h (n := 21) rfl ly_34 (le45 rfl) (dat D_X11_least 12 rfl) rfl (fun j5 k6 hpk6 h => ?_)
  refine AW.astore (n := 23) (ls' := [some (vR 0), some (vI a0), some (vI a1), some (vI a2), some (vR k6)]) (dat D_X11_least 13 rfl) rfl (le45 rfl) (le45 rfl) rfl rfl ?_
  refine AW.aload_n (n := 24) (dat D_X11_least 14 rfl) rfl rfl ?_
  refine AW.getR (n := 27) (t := 53) fX11_9 wF_X11_80 ly_0 (le45 rfl) rfl (dat D_X11_least 15 rfl) rfl ?_
  refine AW.aload (n := 29) (dat D_X11_least 16 rfl) rfl rfl ?_
  refine AW.getI (n := 32) fX9_10 wF_X11_184 (isSw_ly0 hpk6) (by have := isSw_lt hpk6; omega) rfl rfl (dat D_X11_least 17 rfl) rfl ?_
  refine AW.aload (n := 34) (dat D_X11_least 18 rfl) rfl rfl ?_
  refine AW.getI (n := 37) fX9_11 wF_X11_187 (isSw_ly0 hpk6) (by have := isSw_lt hpk6; omega) rfl rfl (dat D_X11_least 19 rfl) rfl ?_
  refine AW.iload_n (n := 38) (dat D_X11_least 20 rfl) rfl rfl ?_
  refine AW.iload_n (n := 39) (dat D_X11_least 21 rfl) rfl rfl ?_
  obtain ⟨v8, σ9, hc7, h⟩ := bnd2_some h
  refine AW.cV (n := 42) (as := [vI (σ k6 10), vI (σ k6 11), vI a1, vI a2]) (st := []) (st' := [vI v8]) (uc' := 6) (us' := 36) (A_X4_leastToTake hΓ hc7) cf_X4_leastToTake ly_53 (le45 rfl) vc_4 (le45 rfl) wM_X11_311 (le45 rfl) (le45 rfl) (dat D_X11_least 22 rfl) rfl rfl (le45 rfl) (le45 rfl) rfl (fun _ => ?_) nlt0
  cases h
  exact AW.iret rfl rfl rfl (dat D_X11_least 23 rfl)
def L_X11_took : List (Nat × Instr × Nat) := [(0, .aload_n 0, 1), (1, .iload_n 1, 1), (2, .invokevirtual 134, 3), (5, .iload_n 1, 1), (6, .aload_n 0, 1), (7, .getfield 55, 3), (10, .getfield 315, 3), (13, .if_icmp .ge 14, 3), (16, .iload_n 1, 1), (17, .aload_n 0, 1), (18, .getfield 55, 3), (21, .getfield 213, 3), (24, .if_icmp .ne 14, 3), (27, .new 246, 3), (30, .dup, 1), (31, .ldc_w 318, 3), (34, .invokespecial 250, 3), (37, .athrow, 1), (38, .aload_n 0, 1), (39, .iload_n 2, 1), (40, .iconst 4, 1), (41, .invokevirtual 137, 3), (44, .aload_n 0, 1), (45, .getfield 55, 3), (48, .getfield 320, 3), (51, .iload_n 1, 1), (52, .iconst 4, 1), (53, .imul, 1), (54, .iload_n 2, 1), (55, .iadd, 1), (56, .iaload, 1), (57, .ireturn, 1)]
theorem D_X11_took : dOK cX11_took L_X11_took = true := by decide +kernel
theorem cf_X11_took : CFV mX11_took 2 := ⟨wI_X11_took, wS_X11_took, wN_WaveRight, wC_X11_took, rfl, ⟨by decide +kernel, by decide +kernel, by decide +kernel⟩, le45 rfl⟩
def X11_took (n : Nat) (a0 : Int) (a1 : Int) (σ : SG) : Option ((Nat × Int) × SG) :=
  (X11_mustBeWave n a0 σ).bind fun t2 => if t2 = 0 then
  if w32 (σ 19 12) ≤ w32 a0 then
    some (((3, 0), σ))
  else
    if w32 a0 = w32 (σ 19 13) then
      some (((3, 0), σ))
    else
      (X11_mustBeOneOf n a1 4 σ).bind fun t4 => if t4 = 0 then
      rdA 80 ((a0 * 4) + a1) fun j5 =>
      some (((0, (σ 37 j5)), σ))
      else some (((t4, 0), σ))
  else some (((t2, 0), σ))
set_option maxHeartbeats 4000000 in
set_option maxRecDepth 100000 in
theorem A_X11_took {Γ : GA} (hΓ : (gl Γ).stackTraces = false) {n : Nat} {a0 : Int} {a1 : Int} {σ : SG} {o : Nat × Int} {τ : SG}  (h : X11_took n a0 a1 σ = some (o, τ)) : AM Γ mX11_took 9 8 48 [vR 0, vI a0, vI a1] (85, σ) o (85, τ) := by
  refine AM.of pl_X11 rfl wC_X11_took (le45 rfl) hΓ ?_
  refine AW.to (ls'' := [some (vR 0), some (vI a0), some (vI a1)]) ?_ (lle_s rfl (lle_s rfl (lle_s rfl (lle_z))))
  unfold X11_took at h
  refine AW.aload_n (n := 1) (dat D_X11_took 0 rfl) rfl rfl ?_
  refine AW.iload_n (n := 2) (dat D_X11_took 1 rfl) rfl rfl ?_
  obtain ⟨t2, hc1, h⟩ := ob_some h
  refine AW.cV (n := 5) (as := [vI a0]) (st := []) (st' := []) (uc' := 7) (us' := 42) (A_X11_mustBeWave hΓ hc1) cf_X11_mustBeWave ly_0 (le45 rfl) vc_11 (le45 rfl) wM_X11_134 (le45 rfl) (le45 rfl) (dat D_X11_took 2 rfl) rfl rfl (le45 rfl) (le45 rfl) rfl (fun q => ?_) (fun q => ?_)
  rotate_left
  · have h := ite_f h (by have q : 0 < t2 := q; omega)
    cases h
    exact AX.out rfl q rfl rfl
  have h := ite_t h q
  refine AW.iload_n (n := 6) (dat D_X11_took 3 rfl) rfl rfl ?_
  refine AW.aload_n (n := 7) (dat D_X11_took 4 rfl) rfl rfl ?_
  refine AW.getR (n := 10) (t := 19) fX11_6 wF_X11_55 ly_0 (le45 rfl) rfl (dat D_X11_took 5 rfl) rfl ?_
  refine AW.getI (n := 13) fX1_12 wF_X11_315 ly_19 (le45 rfl) rfl rfl (dat D_X11_took 6 rfl) rfl ?_
  refine AW.icmp_geH (t := 27) (n := 16) h (dat D_X11_took 7 rfl) rfl rfl rfl rfl (fun h => ?_) (fun h => ?_)
  · cases h
    exact AW.throw3W (j := 45)  wL_X11_246 wN_java_util_NoSuchElementException rfl wM_X11_250 (dat D_X11_took 13 rfl) (dat D_X11_took 14 rfl) (dat D_X11_took 15 rfl) (dat D_X11_took 16 rfl) (dat D_X11_took 17 rfl) rfl (le45 rfl) (le45 rfl) rfl rfl (le45 rfl) (le45 rfl)
  · refine AW.iload_n (n := 17) (dat D_X11_took 8 rfl) rfl rfl ?_
    refine AW.aload_n (n := 18) (dat D_X11_took 9 rfl) rfl rfl ?_
    refine AW.getR (n := 21) (t := 19) fX11_6 wF_X11_55 ly_0 (le45 rfl) rfl (dat D_X11_took 10 rfl) rfl ?_
    refine AW.getI (n := 24) fX1_13 wF_X11_213 ly_19 (le45 rfl) rfl rfl (dat D_X11_took 11 rfl) rfl ?_
    refine AW.icmp_neH (t := 38) (n := 27) h (dat D_X11_took 12 rfl) rfl rfl rfl rfl (fun h => ?_) (fun h => ?_)
    · cases h
      exact AW.throw3W (j := 45)  wL_X11_246 wN_java_util_NoSuchElementException rfl wM_X11_250 (dat D_X11_took 13 rfl) (dat D_X11_took 14 rfl) (dat D_X11_took 15 rfl) (dat D_X11_took 16 rfl) (dat D_X11_took 17 rfl) rfl (le45 rfl) (le45 rfl) rfl rfl (le45 rfl) (le45 rfl)
    · refine AW.aload_n (n := 39) (dat D_X11_took 18 rfl) rfl rfl ?_
      refine AW.iload_n (n := 40) (dat D_X11_took 19 rfl) rfl rfl ?_
      refine AW.iconst (n := 41) (dat D_X11_took 20 rfl) rfl ?_
      obtain ⟨t4, hc3, h⟩ := ob_some h
      refine AW.cV (n := 44) (as := [vI a1, vI 4]) (st := []) (st' := []) (uc' := 6) (us' := 36) (A_X11_mustBeOneOf hΓ hc3) cf_X11_mustBeOneOf ly_0 (le45 rfl) vc_11 (le45 rfl) wM_X11_137 (le45 rfl) (le45 rfl) (dat D_X11_took 21 rfl) rfl rfl (le45 rfl) (le45 rfl) rfl (fun q => ?_) (fun q => ?_)
      rotate_left
      · have h := ite_f h (by have q : 0 < t4 := q; omega)
        cases h
        exact AX.out rfl q rfl rfl
      have h := ite_t h q
      refine AW.aload_n (n := 45) (dat D_X11_took 22 rfl) rfl rfl ?_
      refine AW.getR (n := 48) (t := 19) fX11_6 wF_X11_55 ly_0 (le45 rfl) rfl (dat D_X11_took 23 rfl) rfl ?_
      refine AW.getR (n := 51) (t := 37) fX1_4 wF_X11_320 ly_19 (le45 rfl) rfl (dat D_X11_took 24 rfl) rfl ?_
      refine AW.iload_n (n := 52) (dat D_X11_took 25 rfl) rfl rfl ?_
      refine AW.iconst (n := 53) (dat D_X11_took 26 rfl) rfl ?_
      refine AW.imul (n := 54) (dat D_X11_took 27 rfl) rfl ?_
      refine AW.iload_n (n := 55) (dat D_X11_took 28 rfl) rfl rfl ?_
      refine AW.iadd (n := 56) (dat D_X11_took 29 rfl) rfl ?_
      refine AW.ialdH h (n := 57) rfl ly_37 (le45 rfl) (dat D_X11_took 30 rfl) rfl (fun j5 h => ?_)
      cases h
      exact AW.iret rfl rfl rfl (dat D_X11_took 31 rfl)
def L_X1_minuteAt : List (Nat × Instr × Nat) := [(0, .aload_n 1, 1), (1, .getfield 118, 3), (4, .ifCond .eq 10, 3), (7, .aload_n 0, 1), (8, .getfield 81, 3), (11, .goto 7, 3), (14, .aload_n 1, 1), (15, .getfield 132, 3), (18, .istore_n 3, 1), (19, .iload_n 3, 1), (20, .aload_n 1, 1), (21, .iload_n 2, 1), (22, .aload_n 1, 1), (23, .getfield 135, 3), (26, .isub, 1), (27, .invokestatic 165, 3), (30, .invokevirtual 234, 3), (33, .iadd, 1), (34, .ireturn, 1)]
theorem D_X1_minuteAt : dOK cX1_minuteAt L_X1_minuteAt = true := by decide +kernel
theorem cf_X1_minuteAt : CFV mX1_minuteAt 2 := ⟨wI_X1_minuteAt, wS_X1_minuteAt, wN_WaveRight_Heat, wC_X1_minuteAt, rfl, ⟨by decide +kernel, by decide +kernel, by decide +kernel⟩, le45 rfl⟩
def X1_minuteAt_j18 (n : Nat) (a0 : Nat) (a1 : Int) (σ : SG) (y1 : Int) : Option (Int) :=
  (X9_minutesFor n a0 (ab32 (a1 - (σ a0 3))) σ).bind fun v4 =>
  some ((y1 + v4))
def X1_minuteAt (n : Nat) (a0 : Nat) (a1 : Int) (σ : SG) : Option (Int) :=
  ((if w32 (σ a0 6) = 0 then
    some ((σ a0 8))
  else
    some ((σ 19 9))) : Option (Int)).bind (fun s => X1_minuteAt_j18 n a0 a1 σ s)
set_option maxHeartbeats 4000000 in
set_option maxRecDepth 100000 in
theorem A_X1_minuteAt {Γ : GA} (hΓ : (gl Γ).stackTraces = false) {n : Nat} {a0 : Nat} {a1 : Int} {σ : SG} {r : Int} (hpa0 : isSw a0 = true) (h : X1_minuteAt n a0 a1 σ = some r) : AM Γ mX1_minuteAt 2 0 0 [vR 19, vR a0, vI a1] (85, σ) (0, r) (85, σ) := by
  refine AM.of pl_X1 rfl wC_X1_minuteAt (le45 rfl) hΓ ?_
  refine AW.to (ls'' := [some (vR 19), some (vR a0), some (vI a1), none]) ?_ (lle_s rfl (lle_s rfl (lle_s rfl (lle_e (lle_z)))))
  unfold X1_minuteAt at h
  refine AW.aload_n (n := 1) (dat D_X1_minuteAt 0 rfl) rfl rfl ?_
  refine AW.getI (n := 4) fX9_6 wF_X1_118 (isSw_ly0 hpa0) (by have := isSw_lt hpa0; omega) rfl rfl (dat D_X1_minuteAt 1 rfl) rfl ?_
  obtain ⟨s2, h, hq2⟩ := ob_some h
  obtain ⟨y1, e2⟩ : ∃ z, z = s2 := ⟨_, rfl⟩
  subst e2
  have hJ2 : AW Γ mX1_minuteAt 2 (0, r) (85, σ) 0 0 18 [none, some (vR a0), some (vI a1), none] [vI y1] (85, σ) := by
    have h : X1_minuteAt_j18 n a0 a1 σ y1 = some _ := hq2
    unfold X1_minuteAt_j18 at h
    refine AW.istore_n (n := 19) (ls' := [none, some (vR a0), some (vI a1), some (vI y1)]) (dat D_X1_minuteAt 8 rfl) rfl (le45 rfl) (le45 rfl) rfl rfl ?_
    refine AW.iload_n (n := 20) (dat D_X1_minuteAt 9 rfl) rfl rfl ?_
    refine AW.aload_n (n := 21) (dat D_X1_minuteAt 10 rfl) rfl rfl ?_
    refine AW.iload_n (n := 22) (dat D_X1_minuteAt 11 rfl) rfl rfl ?_
    refine AW.aload_n (n := 23) (dat D_X1_minuteAt 12 rfl) rfl rfl ?_
    refine AW.getI (n := 26) fX9_3 wF_X1_135 (isSw_ly0 hpa0) (by have := isSw_lt hpa0; omega) rfl rfl (dat D_X1_minuteAt 13 rfl) rfl ?_
    refine AW.isub (n := 27) (dat D_X1_minuteAt 14 rfl) rfl ?_
    refine AW.mabs (n := 30) wM_X1_165 (le45 rfl) (le45 rfl) (dat D_X1_minuteAt 15 rfl) rfl ?_
    obtain ⟨v4, hc3, h⟩ := ob_some h
    refine AW.cV (n := 33) (as := [vI (ab32 (a1 - (σ a0 3)))]) (st := [vI y1]) (st' := [vI v4, vI y1]) (uc' := 0) (us' := 0) (A_X9_minutesFor hΓ hpa0 hc3) cf_X9_minutesFor (isSw_ly0 hpa0) (by have := isSw_lt hpa0; omega) vc_9 (le45 rfl) wM_X1_234 (le45 rfl) (le45 rfl) (dat D_X1_minuteAt 16 rfl) rfl rfl (le45 rfl) (le45 rfl) rfl (fun _ => ?_) nlt0
    refine AW.iadd (n := 34) (dat D_X1_minuteAt 17 rfl) rfl ?_
    cases h
    exact AW.iret rfl rfl rfl (dat D_X1_minuteAt 18 rfl)
  refine AW.if_eqH (t := 14) (n := 7) h (dat D_X1_minuteAt 2 rfl) rfl rfl (fun h => ?_) (fun h => ?_)
  · refine AW.aload_n (n := 15) (dat D_X1_minuteAt 6 rfl) rfl rfl ?_
    refine AW.getI (n := 18) fX9_8 wF_X1_132 (isSw_ly0 hpa0) (by have := isSw_lt hpa0; omega) rfl rfl (dat D_X1_minuteAt 7 rfl) rfl ?_
    cases h
    exact AW.to hJ2 (lle_n (lle_s rfl (lle_s rfl (lle_n (lle_z)))))
  · refine AW.aload_n (n := 8) (dat D_X1_minuteAt 3 rfl) rfl rfl ?_
    refine AW.getI (n := 11) fX1_9 wF_X1_81 ly_19 (le45 rfl) rfl rfl (dat D_X1_minuteAt 4 rfl) rfl ?_
    refine AW.goto (t := 18) (dat D_X1_minuteAt 5 rfl) rfl ?_
    cases h
    exact AW.to hJ2 (lle_n (lle_s rfl (lle_s rfl (lle_n (lle_z)))))
def L_X11_swim : List (Nat × Instr × Nat) := [(0, .aload_n 0, 1), (1, .iload_n 1, 1), (2, .invokevirtual 145, 3), (5, .aload_n 0, 1), (6, .iload_n 2, 1), (7, .invokevirtual 193, 3), (10, .aload_n 0, 1), (11, .iload_n 1, 1), (12, .invokevirtual 275, 3), (15, .aload_n 0, 1), (16, .getfield 55, 3), (19, .aload_n 0, 1), (20, .getfield 55, 3), (23, .getfield 148, 3), (26, .iload_n 1, 1), (27, .aaload, 1), (28, .iload_n 2, 1), (29, .invokevirtual 323, 3), (32, .ireturn, 1)]
theorem D_X11_swim : dOK cX11_swim L_X11_swim = true := by decide +kernel
theorem cf_X11_swim : CFV mX11_swim 2 := ⟨wI_X11_swim, wS_X11_swim, wN_WaveRight, wC_X11_swim, rfl, ⟨by decide +kernel, by decide +kernel, by decide +kernel⟩, le45 rfl⟩
def X11_swim (n : Nat) (a0 : Int) (a1 : Int) (σ : SG) : Option ((Nat × Int) × SG) :=
  (X11_mustBeSurfer n a0 σ).bind fun t2 => if t2 = 0 then
  (X11_mustBePlace n a1 σ).bind fun t4 => if t4 = 0 then
  (X11_mustHaveTime n a0 σ).bind fun t6 => if t6 = 0 then
  rdA 5 a0 fun j7 => ckR isSw (σ 34 j7) fun k8 =>
  (X1_minuteAt n k8 a1 σ).bind fun v10 =>
  some (((0, v10), σ))
  else some (((t6, 0), σ))
  else some (((t4, 0), σ))
  else some (((t2, 0), σ))
set_option maxHeartbeats 4000000 in
set_option maxRecDepth 100000 in
theorem A_X11_swim {Γ : GA} (hΓ : (gl Γ).stackTraces = false) {n : Nat} {a0 : Int} {a1 : Int} {σ : SG} {o : Nat × Int} {τ : SG}  (h : X11_swim n a0 a1 σ = some (o, τ)) : AM Γ mX11_swim 9 8 48 [vR 0, vI a0, vI a1] (85, σ) o (85, τ) := by
  refine AM.of pl_X11 rfl wC_X11_swim (le45 rfl) hΓ ?_
  refine AW.to (ls'' := [some (vR 0), some (vI a0), some (vI a1)]) ?_ (lle_s rfl (lle_s rfl (lle_s rfl (lle_z))))
  unfold X11_swim at h
  refine AW.aload_n (n := 1) (dat D_X11_swim 0 rfl) rfl rfl ?_
  refine AW.iload_n (n := 2) (dat D_X11_swim 1 rfl) rfl rfl ?_
  obtain ⟨t2, hc1, h⟩ := ob_some h
  refine AW.cV (n := 5) (as := [vI a0]) (st := []) (st' := []) (uc' := 7) (us' := 42) (A_X11_mustBeSurfer hΓ hc1) cf_X11_mustBeSurfer ly_0 (le45 rfl) vc_11 (le45 rfl) wM_X11_145 (le45 rfl) (le45 rfl) (dat D_X11_swim 2 rfl) rfl rfl (le45 rfl) (le45 rfl) rfl (fun q => ?_) (fun q => ?_)
  rotate_left
  · have h := ite_f h (by have q : 0 < t2 := q; omega)
    cases h
    exact AX.out rfl q rfl rfl
  have h := ite_t h q
  refine AW.aload_n (n := 6) (dat D_X11_swim 3 rfl) rfl rfl ?_
  refine AW.iload_n (n := 7) (dat D_X11_swim 4 rfl) rfl rfl ?_
  obtain ⟨t4, hc3, h⟩ := ob_some h
  refine AW.cV (n := 10) (as := [vI a1]) (st := []) (st' := []) (uc' := 6) (us' := 36) (A_X11_mustBePlace hΓ hc3) cf_X11_mustBePlace ly_0 (le45 rfl) vc_11 (le45 rfl) wM_X11_193 (le45 rfl) (le45 rfl) (dat D_X11_swim 5 rfl) rfl rfl (le45 rfl) (le45 rfl) rfl (fun q => ?_) (fun q => ?_)
  rotate_left
  · have h := ite_f h (by have q : 0 < t4 := q; omega)
    cases h
    exact AX.out rfl q rfl rfl
  have h := ite_t h q
  refine AW.aload_n (n := 11) (dat D_X11_swim 6 rfl) rfl rfl ?_
  refine AW.iload_n (n := 12) (dat D_X11_swim 7 rfl) rfl rfl ?_
  obtain ⟨t6, hc5, h⟩ := ob_some h
  refine AW.cV (n := 15) (as := [vI a0]) (st := []) (st' := []) (uc' := 5) (us' := 30) (A_X11_mustHaveTime hΓ hc5) cf_X11_mustHaveTime ly_0 (le45 rfl) vc_11 (le45 rfl) wM_X11_275 (le45 rfl) (le45 rfl) (dat D_X11_swim 8 rfl) rfl rfl (le45 rfl) (le45 rfl) rfl (fun q => ?_) (fun q => ?_)
  rotate_left
  · have h := ite_f h (by have q : 0 < t6 := q; omega)
    cases h
    exact AX.out rfl q rfl rfl
  have h := ite_t h q
  refine AW.aload_n (n := 16) (dat D_X11_swim 9 rfl) rfl rfl ?_
  refine AW.getR (n := 19) (t := 19) fX11_6 wF_X11_55 ly_0 (le45 rfl) rfl (dat D_X11_swim 10 rfl) rfl ?_
  refine AW.aload_n (n := 20) (dat D_X11_swim 11 rfl) rfl rfl ?_
  refine AW.getR (n := 23) (t := 19) fX11_6 wF_X11_55 ly_0 (le45 rfl) rfl (dat D_X11_swim 12 rfl) rfl ?_
  refine AW.getR (n := 26) (t := 34) fX1_2 wF_X11_148 ly_19 (le45 rfl) rfl (dat D_X11_swim 13 rfl) rfl ?_
  refine AW.iload_n (n := 27) (dat D_X11_swim 14 rfl) rfl rfl ?_
  refine AW.aaldH h (n := 28) rfl ly_34 (le45 rfl) (dat D_X11_swim 15 rfl) rfl (fun j7 k8 hpk8 h => ?_)
  refine AW.iload_n (n := 29) (dat D_X11_swim 16 rfl) rfl rfl ?_
  obtain ⟨v10, hc9, h⟩ := ob_some h
  refine AW.cV (n := 32) (as := [vR k8, vI a1]) (st := []) (st' := [vI v10]) (uc' := 5) (us' := 30) (A_X1_minuteAt hΓ hpk8 hc9) cf_X1_minuteAt ly_19 (le45 rfl) vc_1 (le45 rfl) wM_X11_323 (le45 rfl) (le45 rfl) (dat D_X11_swim 17 rfl) rfl rfl (le45 rfl) (le45 rfl) rfl (fun _ => ?_) nlt0
  cases h
  exact AW.iret rfl rfl rfl (dat D_X11_swim 18 rfl)
def L_X0_reachOf : List (Nat × Instr × Nat) := [(0, .iconst 0, 1), (1, .istore 4, 2), (3, .iconst (-1), 1), (4, .istore 5, 2), (6, .iconst (-1), 1), (7, .istore 6, 2), (9, .iconst 0, 1), (10, .istore 7, 2), (12, .iload 7, 2), (14, .bipush 40, 2), (16, .if_icmp .gt 86, 3), (19, .aload_n 0, 1), (20, .getfield 18, 3), (23, .aload_n 1, 1), (24, .iload 7, 2), (26, .invokevirtual 122, 3), (29, .aload_n 0, 1), (30, .getfield 18, 3), (33, .getfield 86, 3), (36, .iload_n 2, 1), (37, .iconst 0, 1), (38, .invokevirtual 98, 3), (41, .if_icmp .gt 55, 3), (44, .aload_n 0, 1), (45, .getfield 18, 3), (48, .iload_n 2, 1), (49, .iload 7, 2), (51, .iconst 0, 1), (52, .iconst 1, 1), (53, .invokevirtual 41, 3), (56, .ifCond .ne 18, 3), (59, .aload_n 0, 1), (60, .getfield 18, 3), (63, .iload_n 2, 1), (64, .iload 7, 2), (66, .iconst 1, 1), (67, .iconst 1, 1), (68, .invokevirtual 41, 3), (71, .ifCond .eq 25, 3), (74, .iinc 4 1, 3), (77, .iload 5, 2), (79, .iconst (-1), 1), (80, .if_icmp .ne 8, 3), (83, .iload 7, 2), (85, .goto 5, 3), (88, .iload 5, 2), (90, .istore 5, 2), (92, .iload 7, 2), (94, .istore 6, 2), (96, .iinc 7 1, 3), (99, .goto (-87), 3), (102, .iload_n 3, 1), (103, .ifCond .ne 8, 3), (106, .iload 4, 2), (108, .goto 15, 3), (111, .iload_n 3, 1), (112, .iconst 1, 1), (113, .if_icmp .ne 8, 3), (116, .iload 5, 2), (118, .goto 5, 3), (121, .iload 6, 2), (123, .ireturn, 1)]
theorem D_X0_reachOf : dOK cX0_reachOf L_X0_reachOf = true := by decide +kernel
theorem cf_X0_reachOf : CFV mX0_reachOf 3 := ⟨wI_X0_reachOf, wS_X0_reachOf, wN_WaveRight_Advice, wC_X0_reachOf, rfl, ⟨by decide +kernel, by decide +kernel, by decide +kernel⟩, le45 rfl⟩
def X0_reachOf_e12 (n : Nat) (a2 : Int) (e6 : Int) (e7 : Int) (e8 : Int) : Option (Int) :=
  if w32 a2 = 0 then
    some (e6)
  else
    if w32 a2 = 1 then
      some (e7)
    else
      some (e8)
def X0_reachOf_j96 (n : Nat) (z4 : Int) (y14 : Int) (y15 : Int) (y16 : Int) : Option ((Int × Int × Int × Int) ⊕ (Int × Int × Int)) :=
  lt (z4 + 1) fun x18 =>
  some (.inl (y14, y15, y16, x18))
def X0_reachOf_j90 (n : Nat) (x21 : Int) (z4 : Int) (y22 : Int) : Option (Int × Int × Int) :=
  some ((x21, y22, z4))
def X0_reachOf_j90x (n : Nat) (x26 : Int) (z4 : Int) (y27 : Int) : Option (Int × Int × Int) :=
  some ((x26, y27, z4))
def X0_reachOf_l12 (n : Nat) (a0 : Nat) (σ : SG) (a1 : Int) (z1 : Int) (z2 : Int) (z3 : Int) (z4 : Int) : Option ((Int × Int × Int × Int) ⊕ (Int × Int × Int)) :=
  if 40 < w32 z4 then
    some (.inr (z1, z2, z3))
  else
    (X1_minuteAt n a0 z4 σ).bind fun v10 =>
    ckR isSea (σ 19 0) fun k11 =>
    (X6_factOf n k11 a1 0 σ).bind fun v13 =>
    ((if w32 v13 < w32 v10 then
      some ((z1, z2, z3))
    else
      (X1_canGo n a1 z4 0 1 σ).bind fun v20 =>
      if w32 v20 = 0 then
        (X1_canGo n a1 z4 1 1 σ).bind fun v25 =>
        if w32 v25 = 0 then
          some ((z1, z2, z3))
        else
          lt (z1 + 1) fun x26 =>
          ((if w32 z2 = (-1) then
            some (z4)
          else
            some (z2)) : Option (Int)).bind (fun s => X0_reachOf_j90x n x26 z4 s)
      else
        lt (z1 + 1) fun x21 =>
        ((if w32 z2 = (-1) then
          some (z4)
        else
          some (z2)) : Option (Int)).bind (fun s => X0_reachOf_j90 n x21 z4 s)) : Option (Int × Int × Int)).bind (fun s => X0_reachOf_j96 n z4 s.1 s.2.1 s.2.2)
def X0_reachOf (n : Nat) (a0 : Nat) (a1 : Int) (a2 : Int) (σ : SG) : Option (Int) :=
  ((iter n (fun s : Int × Int × Int × Int => X0_reachOf_l12 n a0 σ a1 s.1 s.2.1 s.2.2.1 s.2.2.2) (0, (-1), (-1), 0)) : Option (Int × Int × Int)).bind (fun s => X0_reachOf_e12 n a2 s.1 s.2.1 s.2.2)
set_option maxHeartbeats 4000000 in
set_option maxRecDepth 100000 in
theorem A_X0_reachOf {Γ : GA} (hΓ : (gl Γ).stackTraces = false) {n : Nat} {a0 : Nat} {a1 : Int} {a2 : Int} {σ : SG} {r : Int} (hpa0 : isSw a0 = true) (h : X0_reachOf n a0 a1 a2 σ = some r) : AM Γ mX0_reachOf 3 0 0 [vR 50, vR a0, vI a1, vI a2] (85, σ) (0, r) (85, σ) := by
  refine AM.of pl_X0 rfl wC_X0_reachOf (le45 rfl) hΓ ?_
  refine AW.to (ls'' := [some (vR 50), some (vR a0), some (vI a1), some (vI a2), none, none, none, none]) ?_ (lle_s rfl (lle_s rfl (lle_s rfl (lle_s rfl (lle_e (lle_e (lle_e (lle_e (lle_z)))))))))
  unfold X0_reachOf at h
  refine AW.iconst (n := 1) (dat D_X0_reachOf 0 rfl) rfl ?_
  refine AW.istore (n := 3) (ls' := [some (vR 50), some (vR a0), some (vI a1), some (vI a2), some (vI 0), none, none, none]) (dat D_X0_reachOf 1 rfl) rfl (le45 rfl) (le45 rfl) rfl rfl ?_
  refine AW.iconst (n := 4) (dat D_X0_reachOf 2 rfl) rfl ?_
  refine AW.istore (n := 6) (ls' := [some (vR 50), some (vR a0), some (vI a1), some (vI a2), some (vI 0), some (vI (-1)), none, none]) (dat D_X0_reachOf 3 rfl) rfl (le45 rfl) (le45 rfl) rfl rfl ?_
  refine AW.iconst (n := 7) (dat D_X0_reachOf 4 rfl) rfl ?_
  refine AW.istore (n := 9) (ls' := [some (vR 50), some (vR a0), some (vI a1), some (vI a2), some (vI 0), some (vI (-1)), some (vI (-1)), none]) (dat D_X0_reachOf 5 rfl) rfl (le45 rfl) (le45 rfl) rfl rfl ?_
  refine AW.iconst (n := 10) (dat D_X0_reachOf 6 rfl) rfl ?_
  refine AW.istore (n := 12) (ls' := [some (vR 50), some (vR a0), some (vI a1), some (vI a2), some (vI 0), some (vI (-1)), some (vI (-1)), some (vI 0)]) (dat D_X0_reachOf 7 rfl) rfl (le45 rfl) (le45 rfl) rfl rfl ?_
  obtain ⟨b5, hi5, hq5⟩ := ob_some h
  obtain ⟨e6, e7, e8⟩ := b5
  have hR5 : AW Γ mX0_reachOf 3 (0, r) (85, σ) 0 0 102 [none, none, none, some (vI a2), some (vI e6), some (vI e7), some (vI e8), none] [] (85, σ) := by
    have h : X0_reachOf_e12 n a2 e6 e7 e8 = some _ := hq5
    unfold X0_reachOf_e12 at h
    refine AW.iload_n (n := 103) (dat D_X0_reachOf 51 rfl) rfl rfl ?_
    refine AW.if_neH (t := 111) (n := 106) h (dat D_X0_reachOf 52 rfl) rfl rfl (fun h => ?_) (fun h => ?_)
    · refine AW.iload (n := 108) (dat D_X0_reachOf 53 rfl) rfl rfl ?_
      refine AW.goto (t := 123) (dat D_X0_reachOf 54 rfl) rfl ?_
      cases h
      exact AW.iret rfl rfl rfl (dat D_X0_reachOf 61 rfl)
    · refine AW.iload_n (n := 112) (dat D_X0_reachOf 55 rfl) rfl rfl ?_
      refine AW.iconst (n := 113) (dat D_X0_reachOf 56 rfl) rfl ?_
      refine AW.icmp_neH (t := 121) (n := 116) h (dat D_X0_reachOf 57 rfl) rfl rfl rfl (by decide) (fun h => ?_) (fun h => ?_)
      · refine AW.iload (n := 118) (dat D_X0_reachOf 58 rfl) rfl rfl ?_
        refine AW.goto (t := 123) (dat D_X0_reachOf 59 rfl) rfl ?_
        cases h
        exact AW.iret rfl rfl rfl (dat D_X0_reachOf 61 rfl)
      · refine AW.iload (n := 123) (dat D_X0_reachOf 60 rfl) rfl rfl ?_
        cases h
        exact AW.iret rfl rfl rfl (dat D_X0_reachOf 61 rfl)
  refine AW.to (ls'' := [some (vR 50), some (vR a0), some (vI a1), some (vI a2), some (vI 0), some (vI (-1)), some (vI (-1)), some (vI 0)]) ?_ (lle_s rfl (lle_s rfl (lle_s rfl (lle_s rfl (lle_s rfl (lle_s rfl (lle_s rfl (lle_s rfl (lle_z)))))))))
  refine aw_iter (fun s : Int × Int × Int × Int => AW Γ mX0_reachOf 3 (0, r) (85, σ) 0 0 12 [some (vR 50), some (vR a0), some (vI a1), some (vI a2), some (vI (s.1)), some (vI (s.2.1)), some (vI (s.2.2.1)), some (vI (s.2.2.2))] [] (85, σ)) (fun s y h hk5 hb5 => ?_) _ _ hi5
  obtain ⟨z1, z2, z3, z4⟩ := s
  show AW Γ mX0_reachOf 3 (0, r) (85, σ) 0 0 12 [some (vR 50), some (vR a0), some (vI a1), some (vI a2), some (vI z1), some (vI z2), some (vI z3), some (vI z4)] [] (85, σ)
  have h : X0_reachOf_l12 n a0 σ a1 z1 z2 z3 z4 = some y := h
  unfold X0_reachOf_l12 at h
  refine AW.iload (n := 14) (dat D_X0_reachOf 8 rfl) rfl rfl ?_
  refine AW.bipush (n := 16) (dat D_X0_reachOf 9 rfl) rfl (by decide) ?_
  refine AW.icmp_gtH (t := 102) (n := 19) h (dat D_X0_reachOf 10 rfl) rfl rfl rfl (by decide) (fun h => ?_) (fun h => ?_)
  · cases h
    have hb := hb5 _ rfl
    cases hb
    exact AW.to hR5 (lle_n (lle_n (lle_n (lle_s rfl (lle_s rfl (lle_s rfl (lle_s rfl (lle_n (lle_z)))))))))
  · refine AW.aload_n (n := 20) (dat D_X0_reachOf 11 rfl) rfl rfl ?_
    refine AW.getR (n := 23) (t := 19) fX0_0 wF_X0_18 ly_50 (le45 rfl) rfl (dat D_X0_reachOf 12 rfl) rfl ?_
    refine AW.aload_n (n := 24) (dat D_X0_reachOf 13 rfl) rfl rfl ?_
    refine AW.iload (n := 26) (dat D_X0_reachOf 14 rfl) rfl rfl ?_
    obtain ⟨v10, hc9, h⟩ := ob_some h
    refine AW.cV (n := 29) (as := [vR a0, vI z4]) (st := []) (st' := [vI v10]) (uc' := 0) (us' := 0) (A_X1_minuteAt hΓ hpa0 hc9) cf_X1_minuteAt ly_19 (le45 rfl) vc_1 (le45 rfl) wM_X0_122 (le45 rfl) (le45 rfl) (dat D_X0_reachOf 15 rfl) rfl rfl (le45 rfl) (le45 rfl) rfl (fun _ => ?_) nlt0
    refine AW.aload_n (n := 30) (dat D_X0_reachOf 16 rfl) rfl rfl ?_
    refine AW.getR (n := 33) (t := 19) fX0_0 wF_X0_18 ly_50 (le45 rfl) rfl (dat D_X0_reachOf 17 rfl) rfl ?_
    refine AW.getQH h (n := 36) fX1_0 wF_X0_86 ly_19 (le45 rfl) rfl rfl (dat D_X0_reachOf 18 rfl) rfl (fun k11 hpk11 h => ?_)
    refine AW.iload_n (n := 37) (dat D_X0_reachOf 19 rfl) rfl rfl ?_
    refine AW.iconst (n := 38) (dat D_X0_reachOf 20 rfl) rfl ?_
    obtain ⟨v13, hc12, h⟩ := ob_some h
    refine AW.cV (n := 41) (as := [vI a1, vI 0]) (st := [vI v10]) (st' := [vI v13, vI v10]) (uc' := 0) (us' := 0) (A_X6_factOf hΓ hpk11 hc12) cf_X6_factOf (isSea_ly0 hpk11) (by have := isSea_lt hpk11; omega) vc_6 (le45 rfl) wM_X0_98 (le45 rfl) (le45 rfl) (dat D_X0_reachOf 21 rfl) rfl rfl (le45 rfl) (le45 rfl) rfl (fun _ => ?_) nlt0
    obtain ⟨s17, h, hq17⟩ := ob_some h
    obtain ⟨y14, y15, y16⟩ := s17
    have hJ17 : AW Γ mX0_reachOf 3 (0, r) (85, σ) 0 0 96 [some (vR 50), some (vR a0), some (vI a1), some (vI a2), some (vI y14), some (vI y15), some (vI y16), some (vI z4)] [] (85, σ) := by
      have h : X0_reachOf_j96 n z4 y14 y15 y16 = some _ := hq17
      unfold X0_reachOf_j96 at h
      refine AW.iincH h (n := 99) (dat D_X0_reachOf 49 rfl) rfl rfl (le45 rfl) rfl (fun x18 h => ?_)
      refine AW.lq (ls' := [some (vR 50), some (vR a0), some (vI a1), some (vI a2), some (vI y14), some (vI y15), some (vI y16), some (vI x18)]) rfl ?_
      refine AW.goto (t := 12) (dat D_X0_reachOf 50 rfl) rfl ?_
      cases h
      exact AW.to (hk5 _ rfl) (lle_s rfl (lle_s rfl (lle_s rfl (lle_s rfl (lle_s rfl (lle_s rfl (lle_s rfl (lle_s rfl (lle_z)))))))))
    refine AW.icmp_gtH (t := 96) (n := 44) h (dat D_X0_reachOf 22 rfl) rfl rfl rfl rfl (fun h => ?_) (fun h => ?_)
    · cases h
      exact AW.to hJ17 (lle_s rfl (lle_s rfl (lle_s rfl (lle_s rfl (lle_s rfl (lle_s rfl (lle_s rfl (lle_s rfl (lle_z)))))))))
    · refine AW.aload_n (n := 45) (dat D_X0_reachOf 23 rfl) rfl rfl ?_
      refine AW.getR (n := 48) (t := 19) fX0_0 wF_X0_18 ly_50 (le45 rfl) rfl (dat D_X0_reachOf 24 rfl) rfl ?_
      refine AW.iload_n (n := 49) (dat D_X0_reachOf 25 rfl) rfl rfl ?_
      refine AW.iload (n := 51) (dat D_X0_reachOf 26 rfl) rfl rfl ?_
      refine AW.iconst (n := 52) (dat D_X0_reachOf 27 rfl) rfl ?_
      refine AW.iconst (n := 53) (dat D_X0_reachOf 28 rfl) rfl ?_
      obtain ⟨v20, hc19, h⟩ := ob_some h
      refine AW.cV (n := 56) (as := [vI a1, vI z4, vI 0, vI 1]) (st := []) (st' := [vI v20]) (uc' := 0) (us' := 0) (A_X1_canGo hΓ hc19) cf_X1_canGo ly_19 (le45 rfl) vc_1 (le45 rfl) wM_X0_41 (le45 rfl) (le45 rfl) (dat D_X0_reachOf 29 rfl) rfl rfl (le45 rfl) (le45 rfl) rfl (fun _ => ?_) nlt0
      refine AW.if_neH (t := 74) (n := 59) h (dat D_X0_reachOf 30 rfl) rfl rfl (fun h => ?_) (fun h => ?_)
      · refine AW.aload_n (n := 60) (dat D_X0_reachOf 31 rfl) rfl rfl ?_
        refine AW.getR (n := 63) (t := 19) fX0_0 wF_X0_18 ly_50 (le45 rfl) rfl (dat D_X0_reachOf 32 rfl) rfl ?_
        refine AW.iload_n (n := 64) (dat D_X0_reachOf 33 rfl) rfl rfl ?_
        refine AW.iload (n := 66) (dat D_X0_reachOf 34 rfl) rfl rfl ?_
        refine AW.iconst (n := 67) (dat D_X0_reachOf 35 rfl) rfl ?_
        refine AW.iconst (n := 68) (dat D_X0_reachOf 36 rfl) rfl ?_
        obtain ⟨v25, hc24, h⟩ := ob_some h
        refine AW.cV (n := 71) (as := [vI a1, vI z4, vI 1, vI 1]) (st := []) (st' := [vI v25]) (uc' := 0) (us' := 0) (A_X1_canGo hΓ hc24) cf_X1_canGo ly_19 (le45 rfl) vc_1 (le45 rfl) wM_X0_41 (le45 rfl) (le45 rfl) (dat D_X0_reachOf 37 rfl) rfl rfl (le45 rfl) (le45 rfl) rfl (fun _ => ?_) nlt0
        refine AW.if_eqH (t := 96) (n := 74) h (dat D_X0_reachOf 38 rfl) rfl rfl (fun h => ?_) (fun h => ?_)
        · cases h
          exact AW.to hJ17 (lle_s rfl (lle_s rfl (lle_s rfl (lle_s rfl (lle_s rfl (lle_s rfl (lle_s rfl (lle_s rfl (lle_z)))))))))
        · refine AW.iincH h (n := 77) (dat D_X0_reachOf 39 rfl) rfl rfl (le45 rfl) rfl (fun x26 h => ?_)
          refine AW.lq (ls' := [some (vR 50), some (vR a0), some (vI a1), some (vI a2), some (vI x26), some (vI z2), some (vI z3), some (vI z4)]) rfl ?_
          refine AW.iload (n := 79) (dat D_X0_reachOf 40 rfl) rfl rfl ?_
          refine AW.iconst (n := 80) (dat D_X0_reachOf 41 rfl) rfl ?_
          obtain ⟨s28, h, hq28⟩ := ob_some h
          obtain ⟨y27, e28⟩ : ∃ z, z = s28 := ⟨_, rfl⟩
          subst e28
          have hJ28 : AW Γ mX0_reachOf 3 (0, r) (85, σ) 0 0 90 [some (vR 50), some (vR a0), some (vI a1), some (vI a2), some (vI x26), none, none, some (vI z4)] [vI y27] (85, σ) := by
            have h : X0_reachOf_j90x n x26 z4 y27 = some _ := hq28
            unfold X0_reachOf_j90x at h
            refine AW.istore (n := 92) (ls' := [some (vR 50), some (vR a0), some (vI a1), some (vI a2), some (vI x26), some (vI y27), none, some (vI z4)]) (dat D_X0_reachOf 46 rfl) rfl (le45 rfl) (le45 rfl) rfl rfl ?_
            refine AW.iload (n := 94) (dat D_X0_reachOf 47 rfl) rfl rfl ?_
            refine AW.istore (n := 96) (ls' := [some (vR 50), some (vR a0), some (vI a1), some (vI a2), some (vI x26), some (vI y27), some (vI z4), some (vI z4)]) (dat D_X0_reachOf 48 rfl) rfl (le45 rfl) (le45 rfl) rfl rfl ?_
            cases h
            exact AW.to hJ17 (lle_s rfl (lle_s rfl (lle_s rfl (lle_s rfl (lle_s rfl (lle_s rfl (lle_s rfl (lle_s rfl (lle_z)))))))))
          refine AW.icmp_neH (t := 88) (n := 83) h (dat D_X0_reachOf 42 rfl) rfl rfl rfl (by decide) (fun h => ?_) (fun h => ?_)
          · refine AW.iload (n := 85) (dat D_X0_reachOf 43 rfl) rfl rfl ?_
            refine AW.goto (t := 90) (dat D_X0_reachOf 44 rfl) rfl ?_
            cases h
            exact AW.to hJ28 (lle_s rfl (lle_s rfl (lle_s rfl (lle_s rfl (lle_s rfl (lle_n (lle_n (lle_s rfl (lle_z)))))))))
          · refine AW.iload (n := 90) (dat D_X0_reachOf 45 rfl) rfl rfl ?_
            cases h
            exact AW.to hJ28 (lle_s rfl (lle_s rfl (lle_s rfl (lle_s rfl (lle_s rfl (lle_n (lle_n (lle_s rfl (lle_z)))))))))
      · refine AW.iincH h (n := 77) (dat D_X0_reachOf 39 rfl) rfl rfl (le45 rfl) rfl (fun x21 h => ?_)
        refine AW.lq (ls' := [some (vR 50), some (vR a0), some (vI a1), some (vI a2), some (vI x21), some (vI z2), some (vI z3), some (vI z4)]) rfl ?_
        refine AW.iload (n := 79) (dat D_X0_reachOf 40 rfl) rfl rfl ?_
        refine AW.iconst (n := 80) (dat D_X0_reachOf 41 rfl) rfl ?_
        obtain ⟨s23, h, hq23⟩ := ob_some h
        obtain ⟨y22, e23⟩ : ∃ z, z = s23 := ⟨_, rfl⟩
        subst e23
        have hJ23 : AW Γ mX0_reachOf 3 (0, r) (85, σ) 0 0 90 [some (vR 50), some (vR a0), some (vI a1), some (vI a2), some (vI x21), none, none, some (vI z4)] [vI y22] (85, σ) := by
          have h : X0_reachOf_j90 n x21 z4 y22 = some _ := hq23
          unfold X0_reachOf_j90 at h
          refine AW.istore (n := 92) (ls' := [some (vR 50), some (vR a0), some (vI a1), some (vI a2), some (vI x21), some (vI y22), none, some (vI z4)]) (dat D_X0_reachOf 46 rfl) rfl (le45 rfl) (le45 rfl) rfl rfl ?_
          refine AW.iload (n := 94) (dat D_X0_reachOf 47 rfl) rfl rfl ?_
          refine AW.istore (n := 96) (ls' := [some (vR 50), some (vR a0), some (vI a1), some (vI a2), some (vI x21), some (vI y22), some (vI z4), some (vI z4)]) (dat D_X0_reachOf 48 rfl) rfl (le45 rfl) (le45 rfl) rfl rfl ?_
          cases h
          exact AW.to hJ17 (lle_s rfl (lle_s rfl (lle_s rfl (lle_s rfl (lle_s rfl (lle_s rfl (lle_s rfl (lle_s rfl (lle_z)))))))))
        refine AW.icmp_neH (t := 88) (n := 83) h (dat D_X0_reachOf 42 rfl) rfl rfl rfl (by decide) (fun h => ?_) (fun h => ?_)
        · refine AW.iload (n := 85) (dat D_X0_reachOf 43 rfl) rfl rfl ?_
          refine AW.goto (t := 90) (dat D_X0_reachOf 44 rfl) rfl ?_
          cases h
          exact AW.to hJ23 (lle_s rfl (lle_s rfl (lle_s rfl (lle_s rfl (lle_s rfl (lle_n (lle_n (lle_s rfl (lle_z)))))))))
        · refine AW.iload (n := 90) (dat D_X0_reachOf 45 rfl) rfl rfl ?_
          cases h
          exact AW.to hJ23 (lle_s rfl (lle_s rfl (lle_s rfl (lle_s rfl (lle_s rfl (lle_n (lle_n (lle_s rfl (lle_z)))))))))
def L_X11_reach : List (Nat × Instr × Nat) := [(0, .aload_n 0, 1), (1, .iload_n 1, 1), (2, .invokevirtual 145, 3), (5, .aload_n 0, 1), (6, .iload_n 2, 1), (7, .invokevirtual 134, 3), (10, .iload_n 2, 1), (11, .aload_n 0, 1), (12, .getfield 55, 3), (15, .getfield 315, 3), (18, .if_icmp .ge 14, 3), (21, .new 246, 3), (24, .dup, 1), (25, .ldc_w 326, 3), (28, .invokespecial 250, 3), (31, .athrow, 1), (32, .aload_n 0, 1), (33, .iload_n 3, 1), (34, .iconst 3, 1), (35, .invokevirtual 137, 3), (38, .aload_n 0, 1), (39, .iload_n 1, 1), (40, .invokevirtual 275, 3), (43, .aload_n 0, 1), (44, .getfield 73, 3), (47, .aload_n 0, 1), (48, .getfield 55, 3), (51, .getfield 148, 3), (54, .iload_n 1, 1), (55, .aaload, 1), (56, .iload_n 2, 1), (57, .iload_n 3, 1), (58, .invokevirtual 328, 3), (61, .ireturn, 1)]
theorem D_X11_reach : dOK cX11_reach L_X11_reach = true := by decide +kernel
theorem cf_X11_reach : CFV mX11_reach 3 := ⟨wI_X11_reach, wS_X11_reach, wN_WaveRight, wC_X11_reach, rfl, ⟨by decide +kernel, by decide +kernel, by decide +kernel⟩, le45 rfl⟩
def X11_reach (n : Nat) (a0 : Int) (a1 : Int) (a2 : Int) (σ : SG) : Option ((Nat × Int) × SG) :=
  (X11_mustBeSurfer n a0 σ).bind fun t2 => if t2 = 0 then
  (X11_mustBeWave n a1 σ).bind fun t4 => if t4 = 0 then
  if w32 (σ 19 12) ≤ w32 a1 then
    (X11_mustBeOneOf n a2 3 σ).bind fun t6 => if t6 = 0 then
    (X11_mustHaveTime n a0 σ).bind fun t8 => if t8 = 0 then
    rdA 5 a0 fun j9 => ckR isSw (σ 34 j9) fun k10 =>
    (X0_reachOf n k10 a1 a2 σ).bind fun v12 =>
    some (((0, v12), σ))
    else some (((t8, 0), σ))
    else some (((t6, 0), σ))
  else
    some (((3, 0), σ))
  else some (((t4, 0), σ))
  else some (((t2, 0), σ))
set_option maxHeartbeats 4000000 in
set_option maxRecDepth 100000 in
theorem A_X11_reach {Γ : GA} (hΓ : (gl Γ).stackTraces = false) {n : Nat} {a0 : Int} {a1 : Int} {a2 : Int} {σ : SG} {o : Nat × Int} {τ : SG}  (h : X11_reach n a0 a1 a2 σ = some (o, τ)) : AM Γ mX11_reach 9 8 48 [vR 0, vI a0, vI a1, vI a2] (85, σ) o (85, τ) := by
  refine AM.of pl_X11 rfl wC_X11_reach (le45 rfl) hΓ ?_
  refine AW.to (ls'' := [some (vR 0), some (vI a0), some (vI a1), some (vI a2)]) ?_ (lle_s rfl (lle_s rfl (lle_s rfl (lle_s rfl (lle_z)))))
  unfold X11_reach at h
  refine AW.aload_n (n := 1) (dat D_X11_reach 0 rfl) rfl rfl ?_
  refine AW.iload_n (n := 2) (dat D_X11_reach 1 rfl) rfl rfl ?_
  obtain ⟨t2, hc1, h⟩ := ob_some h
  refine AW.cV (n := 5) (as := [vI a0]) (st := []) (st' := []) (uc' := 7) (us' := 42) (A_X11_mustBeSurfer hΓ hc1) cf_X11_mustBeSurfer ly_0 (le45 rfl) vc_11 (le45 rfl) wM_X11_145 (le45 rfl) (le45 rfl) (dat D_X11_reach 2 rfl) rfl rfl (le45 rfl) (le45 rfl) rfl (fun q => ?_) (fun q => ?_)
  rotate_left
  · have h := ite_f h (by have q : 0 < t2 := q; omega)
    cases h
    exact AX.out rfl q rfl rfl
  have h := ite_t h q
  refine AW.aload_n (n := 6) (dat D_X11_reach 3 rfl) rfl rfl ?_
  refine AW.iload_n (n := 7) (dat D_X11_reach 4 rfl) rfl rfl ?_
  obtain ⟨t4, hc3, h⟩ := ob_some h
  refine AW.cV (n := 10) (as := [vI a1]) (st := []) (st' := []) (uc' := 6) (us' := 36) (A_X11_mustBeWave hΓ hc3) cf_X11_mustBeWave ly_0 (le45 rfl) vc_11 (le45 rfl) wM_X11_134 (le45 rfl) (le45 rfl) (dat D_X11_reach 5 rfl) rfl rfl (le45 rfl) (le45 rfl) rfl (fun q => ?_) (fun q => ?_)
  rotate_left
  · have h := ite_f h (by have q : 0 < t4 := q; omega)
    cases h
    exact AX.out rfl q rfl rfl
  have h := ite_t h q
  refine AW.iload_n (n := 11) (dat D_X11_reach 6 rfl) rfl rfl ?_
  refine AW.aload_n (n := 12) (dat D_X11_reach 7 rfl) rfl rfl ?_
  refine AW.getR (n := 15) (t := 19) fX11_6 wF_X11_55 ly_0 (le45 rfl) rfl (dat D_X11_reach 8 rfl) rfl ?_
  refine AW.getI (n := 18) fX1_12 wF_X11_315 ly_19 (le45 rfl) rfl rfl (dat D_X11_reach 9 rfl) rfl ?_
  refine AW.icmp_geH (t := 32) (n := 21) h (dat D_X11_reach 10 rfl) rfl rfl rfl rfl (fun h => ?_) (fun h => ?_)
  · refine AW.aload_n (n := 33) (dat D_X11_reach 16 rfl) rfl rfl ?_
    refine AW.iload_n (n := 34) (dat D_X11_reach 17 rfl) rfl rfl ?_
    refine AW.iconst (n := 35) (dat D_X11_reach 18 rfl) rfl ?_
    obtain ⟨t6, hc5, h⟩ := ob_some h
    refine AW.cV (n := 38) (as := [vI a2, vI 3]) (st := []) (st' := []) (uc' := 5) (us' := 30) (A_X11_mustBeOneOf hΓ hc5) cf_X11_mustBeOneOf ly_0 (le45 rfl) vc_11 (le45 rfl) wM_X11_137 (le45 rfl) (le45 rfl) (dat D_X11_reach 19 rfl) rfl rfl (le45 rfl) (le45 rfl) rfl (fun q => ?_) (fun q => ?_)
    rotate_left
    · have h := ite_f h (by have q : 0 < t6 := q; omega)
      cases h
      exact AX.out rfl q rfl rfl
    have h := ite_t h q
    refine AW.aload_n (n := 39) (dat D_X11_reach 20 rfl) rfl rfl ?_
    refine AW.iload_n (n := 40) (dat D_X11_reach 21 rfl) rfl rfl ?_
    obtain ⟨t8, hc7, h⟩ := ob_some h
    refine AW.cV (n := 43) (as := [vI a0]) (st := []) (st' := []) (uc' := 4) (us' := 24) (A_X11_mustHaveTime hΓ hc7) cf_X11_mustHaveTime ly_0 (le45 rfl) vc_11 (le45 rfl) wM_X11_275 (le45 rfl) (le45 rfl) (dat D_X11_reach 22 rfl) rfl rfl (le45 rfl) (le45 rfl) rfl (fun q => ?_) (fun q => ?_)
    rotate_left
    · have h := ite_f h (by have q : 0 < t8 := q; omega)
      cases h
      exact AX.out rfl q rfl rfl
    have h := ite_t h q
    refine AW.aload_n (n := 44) (dat D_X11_reach 23 rfl) rfl rfl ?_
    refine AW.getR (n := 47) (t := 50) fX11_8 wF_X11_73 ly_0 (le45 rfl) rfl (dat D_X11_reach 24 rfl) rfl ?_
    refine AW.aload_n (n := 48) (dat D_X11_reach 25 rfl) rfl rfl ?_
    refine AW.getR (n := 51) (t := 19) fX11_6 wF_X11_55 ly_0 (le45 rfl) rfl (dat D_X11_reach 26 rfl) rfl ?_
    refine AW.getR (n := 54) (t := 34) fX1_2 wF_X11_148 ly_19 (le45 rfl) rfl (dat D_X11_reach 27 rfl) rfl ?_
    refine AW.iload_n (n := 55) (dat D_X11_reach 28 rfl) rfl rfl ?_
    refine AW.aaldH h (n := 56) rfl ly_34 (le45 rfl) (dat D_X11_reach 29 rfl) rfl (fun j9 k10 hpk10 h => ?_)
    refine AW.iload_n (n := 57) (dat D_X11_reach 30 rfl) rfl rfl ?_
    refine AW.iload_n (n := 58) (dat D_X11_reach 31 rfl) rfl rfl ?_
    obtain ⟨v12, hc11, h⟩ := ob_some h
    refine AW.cV (n := 61) (as := [vR k10, vI a1, vI a2]) (st := []) (st' := [vI v12]) (uc' := 4) (us' := 24) (A_X0_reachOf hΓ hpk10 hc11) cf_X0_reachOf ly_50 (le45 rfl) vc_0 (le45 rfl) wM_X11_328 (le45 rfl) (le45 rfl) (dat D_X11_reach 32 rfl) rfl rfl (le45 rfl) (le45 rfl) rfl (fun _ => ?_) nlt0
    cases h
    exact AW.iret rfl rfl rfl (dat D_X11_reach 33 rfl)
  · cases h
    exact AW.throw3W (j := 46)  wL_X11_246 wN_java_util_NoSuchElementException rfl wM_X11_250 (dat D_X11_reach 11 rfl) (dat D_X11_reach 12 rfl) (dat D_X11_reach 13 rfl) (dat D_X11_reach 14 rfl) (dat D_X11_reach 15 rfl) rfl (le45 rfl) (le45 rfl) rfl rfl (le45 rfl) (le45 rfl)
def L_X11_count : List (Nat × Instr × Nat) := [(0, .iload_n 1, 1), (1, .tableswitch 248 0 14 #[75, 86, 97, 105, 113, 124, 135, 143, 159, 178, 187, 195, 203, 211, 239], 75), (76, .aload_n 0, 1), (77, .getfield 55, 3), (80, .getfield 102, 3), (83, .getfield 122, 3), (86, .ireturn, 1), (87, .aload_n 0, 1), (88, .getfield 55, 3), (91, .getfield 102, 3), (94, .getfield 108, 3), (97, .ireturn, 1), (98, .aload_n 0, 1), (99, .getfield 55, 3), (102, .getfield 331, 3), (105, .ireturn, 1), (106, .aload_n 0, 1), (107, .getfield 55, 3), (110, .getfield 334, 3), (113, .ireturn, 1), (114, .aload_n 0, 1), (115, .getfield 55, 3), (118, .getfield 102, 3), (121, .getfield 337, 3), (124, .ireturn, 1), (125, .aload_n 0, 1), (126, .getfield 55, 3), (129, .getfield 102, 3), (132, .getfield 340, 3), (135, .ireturn, 1), (136, .aload_n 0, 1), (137, .getfield 55, 3), (140, .getfield 213, 3), (143, .ireturn, 1), (144, .aload_n 0, 1), (145, .getfield 55, 3), (148, .getfield 278, 3), (151, .ifCond .eq 7, 3), (154, .iconst 1, 1), (155, .goto 4, 3), (158, .iconst 0, 1), (159, .ireturn, 1), (160, .aload_n 0, 1), (161, .getfield 55, 3), (164, .getfield 198, 3), (167, .getfield 343, 3), (170, .ifCond .eq 7, 3), (173, .iconst 1, 1), (174, .goto 4, 3), (177, .iconst 0, 1), (178, .ireturn, 1), (179, .aload_n 0, 1), (180, .getfield 55, 3), (183, .iconst 0, 1), (184, .invokevirtual 346, 3), (187, .ireturn, 1), (188, .aload_n 0, 1), (189, .getfield 55, 3), (192, .getfield 350, 3), (195, .ireturn, 1), (196, .aload_n 0, 1), (197, .getfield 55, 3), (200, .getfield 353, 3), (203, .ireturn, 1), (204, .aload_n 0, 1), (205, .getfield 55, 3), (208, .getfield 356, 3), (211, .ireturn, 1), (212, .aload_n 0, 1), (213, .getfield 55, 3), (216, .getfield 116, 3), (219, .getfield 119, 3), (222, .ifCond .ne 7, 3), (225, .iconst (-1), 1), (226, .goto 13, 3), (229, .aload_n 0, 1), (230, .getfield 55, 3), (233, .getfield 116, 3), (236, .getfield 119, 3), (239, .ireturn, 1), (240, .aload_n 0, 1), (241, .getfield 55, 3), (244, .iconst 1, 1), (245, .invokevirtual 346, 3), (248, .ireturn, 1), (249, .iconst (-1), 1), (250, .ireturn, 1)]
theorem D_X11_count : dOK cX11_count L_X11_count = true := by decide +kernel
theorem cf_X11_count : CFV mX11_count 1 := ⟨wI_X11_count, wS_X11_count, wN_WaveRight, wC_X11_count, rfl, ⟨by decide +kernel, by decide +kernel, by decide +kernel⟩, le45 rfl⟩
def X11_count (n : Nat) (a0 : Int) (σ : SG) : Option (Int) :=
  if w32 a0 = 0 then
    ckR isSea (σ 19 0) fun k1 =>
    some ((σ k1 5))
  else if w32 a0 = 1 then
    ckR isSea (σ 19 0) fun k3 =>
    some ((σ k3 6))
  else if w32 a0 = 2 then
    some ((σ 19 9))
  else if w32 a0 = 3 then
    some ((σ 19 10))
  else if w32 a0 = 4 then
    ckR isSea (σ 19 0) fun k7 =>
    some ((σ k7 7))
  else if w32 a0 = 5 then
    ckR isSea (σ 19 0) fun k9 =>
    some ((σ k9 8))
  else if w32 a0 = 6 then
    some ((σ 19 13))
  else if w32 a0 = 7 then
    if w32 (σ 19 14) = 0 then
      some (0)
    else
      some (1)
  else if w32 a0 = 8 then
    if w32 (σ 35 2) = 0 then
      some (0)
    else
      some (1)
  else if w32 a0 = 9 then
    (X1_bitsOf n 0 σ).bind fun v15 =>
    some (v15)
  else if w32 a0 = 10 then
    some ((σ 19 11))
  else if w32 a0 = 11 then
    some ((σ 19 7))
  else if w32 a0 = 12 then
    some ((σ 19 8))
  else if w32 a0 = 13 then
    ckR isJudge (σ 19 1) fun k20 =>
    if w32 (σ k20 6) = 0 then
      some ((-1))
    else
      ckR isJudge (σ 19 1) fun k21 =>
      some ((σ k21 6))
  else if w32 a0 = 14 then
    (X1_bitsOf n 1 σ).bind fun v24 =>
    some (v24)
  else 
    some ((-1))
set_option maxHeartbeats 4000000 in
set_option maxRecDepth 100000 in
theorem A_X11_count {Γ : GA} (hΓ : (gl Γ).stackTraces = false) {n : Nat} {a0 : Int} {σ : SG} {r : Int}  (h : X11_count n a0 σ = some r) : AM Γ mX11_count 2 0 0 [vR 0, vI a0] (85, σ) (0, r) (85, σ) := by
  refine AM.of pl_X11 rfl wC_X11_count (le45 rfl) hΓ ?_
  refine AW.to (ls'' := [some (vR 0), some (vI a0)]) ?_ (lle_s rfl (lle_s rfl (lle_z)))
  unfold X11_count at h
  refine AW.iload_n (n := 1) (dat D_X11_count 0 rfl) rfl rfl ?_
  by_cases q2 : w32 a0 = 0
  · have h := ite_t h q2
    refine AW.tIn (dat D_X11_count 1 rfl) q2 (by decide) (by decide) (t := 76) rfl rfl ?_
    refine AW.aload_n (n := 77) (dat D_X11_count 2 rfl) rfl rfl ?_
    refine AW.getR (n := 80) (t := 19) fX11_6 wF_X11_55 ly_0 (le45 rfl) rfl (dat D_X11_count 3 rfl) rfl ?_
    refine AW.getQH h (n := 83) fX1_0 wF_X11_102 ly_19 (le45 rfl) rfl rfl (dat D_X11_count 4 rfl) rfl (fun k1 hpk1 h => ?_)
    refine AW.getI (n := 86) fX6_5 wF_X11_122 (isSea_ly0 hpk1) (by have := isSea_lt hpk1; omega) rfl rfl (dat D_X11_count 5 rfl) rfl ?_
    cases h
    exact AW.iret rfl rfl rfl (dat D_X11_count 6 rfl)
  have h := ite_f h q2
  by_cases q4 : w32 a0 = 1
  · have h := ite_t h q4
    refine AW.tIn (dat D_X11_count 1 rfl) q4 (by decide) (by decide) (t := 87) rfl rfl ?_
    refine AW.aload_n (n := 88) (dat D_X11_count 7 rfl) rfl rfl ?_
    refine AW.getR (n := 91) (t := 19) fX11_6 wF_X11_55 ly_0 (le45 rfl) rfl (dat D_X11_count 8 rfl) rfl ?_
    refine AW.getQH h (n := 94) fX1_0 wF_X11_102 ly_19 (le45 rfl) rfl rfl (dat D_X11_count 9 rfl) rfl (fun k3 hpk3 h => ?_)
    refine AW.getI (n := 97) fX6_6 wF_X11_108 (isSea_ly0 hpk3) (by have := isSea_lt hpk3; omega) rfl rfl (dat D_X11_count 10 rfl) rfl ?_
    cases h
    exact AW.iret rfl rfl rfl (dat D_X11_count 11 rfl)
  have h := ite_f h q4
  by_cases q5 : w32 a0 = 2
  · have h := ite_t h q5
    refine AW.tIn (dat D_X11_count 1 rfl) q5 (by decide) (by decide) (t := 98) rfl rfl ?_
    refine AW.aload_n (n := 99) (dat D_X11_count 12 rfl) rfl rfl ?_
    refine AW.getR (n := 102) (t := 19) fX11_6 wF_X11_55 ly_0 (le45 rfl) rfl (dat D_X11_count 13 rfl) rfl ?_
    refine AW.getI (n := 105) fX1_9 wF_X11_331 ly_19 (le45 rfl) rfl rfl (dat D_X11_count 14 rfl) rfl ?_
    cases h
    exact AW.iret rfl rfl rfl (dat D_X11_count 15 rfl)
  have h := ite_f h q5
  by_cases q6 : w32 a0 = 3
  · have h := ite_t h q6
    refine AW.tIn (dat D_X11_count 1 rfl) q6 (by decide) (by decide) (t := 106) rfl rfl ?_
    refine AW.aload_n (n := 107) (dat D_X11_count 16 rfl) rfl rfl ?_
    refine AW.getR (n := 110) (t := 19) fX11_6 wF_X11_55 ly_0 (le45 rfl) rfl (dat D_X11_count 17 rfl) rfl ?_
    refine AW.getI (n := 113) fX1_10 wF_X11_334 ly_19 (le45 rfl) rfl rfl (dat D_X11_count 18 rfl) rfl ?_
    cases h
    exact AW.iret rfl rfl rfl (dat D_X11_count 19 rfl)
  have h := ite_f h q6
  by_cases q8 : w32 a0 = 4
  · have h := ite_t h q8
    refine AW.tIn (dat D_X11_count 1 rfl) q8 (by decide) (by decide) (t := 114) rfl rfl ?_
    refine AW.aload_n (n := 115) (dat D_X11_count 20 rfl) rfl rfl ?_
    refine AW.getR (n := 118) (t := 19) fX11_6 wF_X11_55 ly_0 (le45 rfl) rfl (dat D_X11_count 21 rfl) rfl ?_
    refine AW.getQH h (n := 121) fX1_0 wF_X11_102 ly_19 (le45 rfl) rfl rfl (dat D_X11_count 22 rfl) rfl (fun k7 hpk7 h => ?_)
    refine AW.getI (n := 124) fX6_7 wF_X11_337 (isSea_ly0 hpk7) (by have := isSea_lt hpk7; omega) rfl rfl (dat D_X11_count 23 rfl) rfl ?_
    cases h
    exact AW.iret rfl rfl rfl (dat D_X11_count 24 rfl)
  have h := ite_f h q8
  by_cases q10 : w32 a0 = 5
  · have h := ite_t h q10
    refine AW.tIn (dat D_X11_count 1 rfl) q10 (by decide) (by decide) (t := 125) rfl rfl ?_
    refine AW.aload_n (n := 126) (dat D_X11_count 25 rfl) rfl rfl ?_
    refine AW.getR (n := 129) (t := 19) fX11_6 wF_X11_55 ly_0 (le45 rfl) rfl (dat D_X11_count 26 rfl) rfl ?_
    refine AW.getQH h (n := 132) fX1_0 wF_X11_102 ly_19 (le45 rfl) rfl rfl (dat D_X11_count 27 rfl) rfl (fun k9 hpk9 h => ?_)
    refine AW.getI (n := 135) fX6_8 wF_X11_340 (isSea_ly0 hpk9) (by have := isSea_lt hpk9; omega) rfl rfl (dat D_X11_count 28 rfl) rfl ?_
    cases h
    exact AW.iret rfl rfl rfl (dat D_X11_count 29 rfl)
  have h := ite_f h q10
  by_cases q11 : w32 a0 = 6
  · have h := ite_t h q11
    refine AW.tIn (dat D_X11_count 1 rfl) q11 (by decide) (by decide) (t := 136) rfl rfl ?_
    refine AW.aload_n (n := 137) (dat D_X11_count 30 rfl) rfl rfl ?_
    refine AW.getR (n := 140) (t := 19) fX11_6 wF_X11_55 ly_0 (le45 rfl) rfl (dat D_X11_count 31 rfl) rfl ?_
    refine AW.getI (n := 143) fX1_13 wF_X11_213 ly_19 (le45 rfl) rfl rfl (dat D_X11_count 32 rfl) rfl ?_
    cases h
    exact AW.iret rfl rfl rfl (dat D_X11_count 33 rfl)
  have h := ite_f h q11
  by_cases q12 : w32 a0 = 7
  · have h := ite_t h q12
    refine AW.tIn (dat D_X11_count 1 rfl) q12 (by decide) (by decide) (t := 144) rfl rfl ?_
    refine AW.aload_n (n := 145) (dat D_X11_count 34 rfl) rfl rfl ?_
    refine AW.getR (n := 148) (t := 19) fX11_6 wF_X11_55 ly_0 (le45 rfl) rfl (dat D_X11_count 35 rfl) rfl ?_
    refine AW.getI (n := 151) fX1_14 wF_X11_278 ly_19 (le45 rfl) rfl rfl (dat D_X11_count 36 rfl) rfl ?_
    refine AW.if_eqH (t := 158) (n := 154) h (dat D_X11_count 37 rfl) rfl rfl (fun h => ?_) (fun h => ?_)
    · refine AW.iconst (n := 159) (dat D_X11_count 40 rfl) rfl ?_
      cases h
      exact AW.iret rfl rfl rfl (dat D_X11_count 41 rfl)
    · refine AW.iconst (n := 155) (dat D_X11_count 38 rfl) rfl ?_
      refine AW.goto (t := 159) (dat D_X11_count 39 rfl) rfl ?_
      cases h
      exact AW.iret rfl rfl rfl (dat D_X11_count 41 rfl)
  have h := ite_f h q12
  by_cases q13 : w32 a0 = 8
  · have h := ite_t h q13
    refine AW.tIn (dat D_X11_count 1 rfl) q13 (by decide) (by decide) (t := 160) rfl rfl ?_
    refine AW.aload_n (n := 161) (dat D_X11_count 42 rfl) rfl rfl ?_
    refine AW.getR (n := 164) (t := 19) fX11_6 wF_X11_55 ly_0 (le45 rfl) rfl (dat D_X11_count 43 rfl) rfl ?_
    refine AW.getR (n := 167) (t := 35) fX1_3 wF_X11_198 ly_19 (le45 rfl) rfl (dat D_X11_count 44 rfl) rfl ?_
    refine AW.getI (n := 170) fX5_2 wF_X11_343 ly_35 (le45 rfl) rfl rfl (dat D_X11_count 45 rfl) rfl ?_
    refine AW.if_eqH (t := 177) (n := 173) h (dat D_X11_count 46 rfl) rfl rfl (fun h => ?_) (fun h => ?_)
    · refine AW.iconst (n := 178) (dat D_X11_count 49 rfl) rfl ?_
      cases h
      exact AW.iret rfl rfl rfl (dat D_X11_count 50 rfl)
    · refine AW.iconst (n := 174) (dat D_X11_count 47 rfl) rfl ?_
      refine AW.goto (t := 178) (dat D_X11_count 48 rfl) rfl ?_
      cases h
      exact AW.iret rfl rfl rfl (dat D_X11_count 50 rfl)
  have h := ite_f h q13
  by_cases q16 : w32 a0 = 9
  · have h := ite_t h q16
    refine AW.tIn (dat D_X11_count 1 rfl) q16 (by decide) (by decide) (t := 179) rfl rfl ?_
    refine AW.aload_n (n := 180) (dat D_X11_count 51 rfl) rfl rfl ?_
    refine AW.getR (n := 183) (t := 19) fX11_6 wF_X11_55 ly_0 (le45 rfl) rfl (dat D_X11_count 52 rfl) rfl ?_
    refine AW.iconst (n := 184) (dat D_X11_count 53 rfl) rfl ?_
    obtain ⟨v15, hc14, h⟩ := ob_some h
    refine AW.cV (n := 187) (as := [vI 0]) (st := []) (st' := [vI v15]) (uc' := 0) (us' := 0) (A_X1_bitsOf hΓ hc14) cf_X1_bitsOf ly_19 (le45 rfl) vc_1 (le45 rfl) wM_X11_346 (le45 rfl) (le45 rfl) (dat D_X11_count 54 rfl) rfl rfl (le45 rfl) (le45 rfl) rfl (fun _ => ?_) nlt0
    cases h
    exact AW.iret rfl rfl rfl (dat D_X11_count 55 rfl)
  have h := ite_f h q16
  by_cases q17 : w32 a0 = 10
  · have h := ite_t h q17
    refine AW.tIn (dat D_X11_count 1 rfl) q17 (by decide) (by decide) (t := 188) rfl rfl ?_
    refine AW.aload_n (n := 189) (dat D_X11_count 56 rfl) rfl rfl ?_
    refine AW.getR (n := 192) (t := 19) fX11_6 wF_X11_55 ly_0 (le45 rfl) rfl (dat D_X11_count 57 rfl) rfl ?_
    refine AW.getI (n := 195) fX1_11 wF_X11_350 ly_19 (le45 rfl) rfl rfl (dat D_X11_count 58 rfl) rfl ?_
    cases h
    exact AW.iret rfl rfl rfl (dat D_X11_count 59 rfl)
  have h := ite_f h q17
  by_cases q18 : w32 a0 = 11
  · have h := ite_t h q18
    refine AW.tIn (dat D_X11_count 1 rfl) q18 (by decide) (by decide) (t := 196) rfl rfl ?_
    refine AW.aload_n (n := 197) (dat D_X11_count 60 rfl) rfl rfl ?_
    refine AW.getR (n := 200) (t := 19) fX11_6 wF_X11_55 ly_0 (le45 rfl) rfl (dat D_X11_count 61 rfl) rfl ?_
    refine AW.getI (n := 203) fX1_7 wF_X11_353 ly_19 (le45 rfl) rfl rfl (dat D_X11_count 62 rfl) rfl ?_
    cases h
    exact AW.iret rfl rfl rfl (dat D_X11_count 63 rfl)
  have h := ite_f h q18
  by_cases q19 : w32 a0 = 12
  · have h := ite_t h q19
    refine AW.tIn (dat D_X11_count 1 rfl) q19 (by decide) (by decide) (t := 204) rfl rfl ?_
    refine AW.aload_n (n := 205) (dat D_X11_count 64 rfl) rfl rfl ?_
    refine AW.getR (n := 208) (t := 19) fX11_6 wF_X11_55 ly_0 (le45 rfl) rfl (dat D_X11_count 65 rfl) rfl ?_
    refine AW.getI (n := 211) fX1_8 wF_X11_356 ly_19 (le45 rfl) rfl rfl (dat D_X11_count 66 rfl) rfl ?_
    cases h
    exact AW.iret rfl rfl rfl (dat D_X11_count 67 rfl)
  have h := ite_f h q19
  by_cases q22 : w32 a0 = 13
  · have h := ite_t h q22
    refine AW.tIn (dat D_X11_count 1 rfl) q22 (by decide) (by decide) (t := 212) rfl rfl ?_
    refine AW.aload_n (n := 213) (dat D_X11_count 68 rfl) rfl rfl ?_
    refine AW.getR (n := 216) (t := 19) fX11_6 wF_X11_55 ly_0 (le45 rfl) rfl (dat D_X11_count 69 rfl) rfl ?_
    refine AW.getQH h (n := 219) fX1_1 wF_X11_116 ly_19 (le45 rfl) rfl rfl (dat D_X11_count 70 rfl) rfl (fun k20 hpk20 h => ?_)
    refine AW.getI (n := 222) fX2_6 wF_X11_119 (isJudge_ly0 hpk20) (by have := isJudge_lt hpk20; omega) rfl rfl (dat D_X11_count 71 rfl) rfl ?_
    refine AW.if_neH (t := 229) (n := 225) h (dat D_X11_count 72 rfl) rfl rfl (fun h => ?_) (fun h => ?_)
    · refine AW.iconst (n := 226) (dat D_X11_count 73 rfl) rfl ?_
      refine AW.goto (t := 239) (dat D_X11_count 74 rfl) rfl ?_
      cases h
      exact AW.iret rfl rfl rfl (dat D_X11_count 79 rfl)
    · refine AW.aload_n (n := 230) (dat D_X11_count 75 rfl) rfl rfl ?_
      refine AW.getR (n := 233) (t := 19) fX11_6 wF_X11_55 ly_0 (le45 rfl) rfl (dat D_X11_count 76 rfl) rfl ?_
      refine AW.getQH h (n := 236) fX1_1 wF_X11_116 ly_19 (le45 rfl) rfl rfl (dat D_X11_count 77 rfl) rfl (fun k21 hpk21 h => ?_)
      refine AW.getI (n := 239) fX2_6 wF_X11_119 (isJudge_ly0 hpk21) (by have := isJudge_lt hpk21; omega) rfl rfl (dat D_X11_count 78 rfl) rfl ?_
      cases h
      exact AW.iret rfl rfl rfl (dat D_X11_count 79 rfl)
  have h := ite_f h q22
  by_cases q25 : w32 a0 = 14
  · have h := ite_t h q25
    refine AW.tIn (dat D_X11_count 1 rfl) q25 (by decide) (by decide) (t := 240) rfl rfl ?_
    refine AW.aload_n (n := 241) (dat D_X11_count 80 rfl) rfl rfl ?_
    refine AW.getR (n := 244) (t := 19) fX11_6 wF_X11_55 ly_0 (le45 rfl) rfl (dat D_X11_count 81 rfl) rfl ?_
    refine AW.iconst (n := 245) (dat D_X11_count 82 rfl) rfl ?_
    obtain ⟨v24, hc23, h⟩ := ob_some h
    refine AW.cV (n := 248) (as := [vI 1]) (st := []) (st' := [vI v24]) (uc' := 0) (us' := 0) (A_X1_bitsOf hΓ hc23) cf_X1_bitsOf ly_19 (le45 rfl) vc_1 (le45 rfl) wM_X11_346 (le45 rfl) (le45 rfl) (dat D_X11_count 83 rfl) rfl rfl (le45 rfl) (le45 rfl) rfl (fun _ => ?_) nlt0
    cases h
    exact AW.iret rfl rfl rfl (dat D_X11_count 84 rfl)
  have h := ite_f h q25
  refine AW.tOut (dat D_X11_count 1 rfl) (by omega) (t := 249) rfl ?_
  refine AW.iconst (n := 250) (dat D_X11_count 85 rfl) rfl ?_
  cases h
  exact AW.iret rfl rfl rfl (dat D_X11_count 86 rfl)
def L_X12_thrown : List (Nat × Instr × Nat) := [(0, .aload_n 0, 1), (1, .getfield 105, 3), (4, .ireturn, 1)]
theorem D_X12_thrown : dOK cX12_thrown L_X12_thrown = true := by decide +kernel
theorem cf_X12_thrown : CFV mX12_thrown 0 := ⟨wI_X12_thrown, wS_X12_thrown, wN_WaveRightModel, wC_X12_thrown, rfl, ⟨by decide +kernel, by decide +kernel, by decide +kernel⟩, le45 rfl⟩
def X12_thrown (n : Nat) (σ : SG) : Option (Int) :=
  some ((σ 57 0))
set_option maxHeartbeats 4000000 in
set_option maxRecDepth 100000 in
theorem A_X12_thrown {Γ : GA} (hΓ : (gl Γ).stackTraces = false) {n : Nat} {σ : SG} {r : Int}  (h : X12_thrown n σ = some r) : AM Γ mX12_thrown 1 0 0 [vR 57] (85, σ) (0, r) (85, σ) := by
  refine AM.of pl_X12 rfl wC_X12_thrown (le45 rfl) hΓ ?_
  refine AW.to (ls'' := [some (vR 57)]) ?_ (lle_s rfl (lle_z))
  unfold X12_thrown at h
  refine AW.aload_n (n := 1) (dat D_X12_thrown 0 rfl) rfl rfl ?_
  refine AW.getI (n := 4) fX12_0 wF_X12_105 ly_57 (le45 rfl) rfl rfl (dat D_X12_thrown 1 rfl) rfl ?_
  cases h
  exact AW.iret rfl rfl rfl (dat D_X12_thrown 2 rfl)
def L_X12_throwsIf : List (Nat × Instr × Nat) := [(0, .iload_n 1, 1), (1, .ifCond .eq 8, 3), (4, .aload_n 0, 1), (5, .iload_n 2, 1), (6, .putfield 105, 3), (9, .iload_n 1, 1), (10, .ireturn, 1)]
theorem D_X12_throwsIf : dOK cX12_throwsIf L_X12_throwsIf = true := by decide +kernel
theorem cf_X12_throwsIf : CFV mX12_throwsIf 2 := ⟨wI_X12_throwsIf, wS_X12_throwsIf, wN_WaveRightModel, wC_X12_throwsIf, rfl, ⟨by decide +kernel, by decide +kernel, by decide +kernel⟩, le45 rfl⟩
def X12_throwsIf (n : Nat) (a0 : Int) (a1 : Int) (σ : SG) : Option (Int × SG) :=
  if w32 a0 = 0 then
    some ((wZ a0, σ))
  else
    lt (up σ 57 0 a1) fun σ1 =>
    some ((wZ a0, σ1))
set_option maxHeartbeats 4000000 in
set_option maxRecDepth 100000 in
theorem A_X12_throwsIf {Γ : GA} (hΓ : (gl Γ).stackTraces = false) {n : Nat} {a0 : Int} {a1 : Int} {σ : SG} {r : Int} {τ : SG}  (h : X12_throwsIf n a0 a1 σ = some (r, τ)) : AM Γ mX12_throwsIf 1 0 0 [vR 57, vI a0, vI a1] (85, σ) (0, r) (85, τ) := by
  refine AM.of pl_X12 rfl wC_X12_throwsIf (le45 rfl) hΓ ?_
  refine AW.to (ls'' := [some (vR 57), some (vI a0), some (vI a1)]) ?_ (lle_s rfl (lle_s rfl (lle_s rfl (lle_z))))
  unfold X12_throwsIf at h
  refine AW.iload_n (n := 1) (dat D_X12_throwsIf 0 rfl) rfl rfl ?_
  refine AW.if_eqH (t := 9) (n := 4) h (dat D_X12_throwsIf 1 rfl) rfl rfl (fun h => ?_) (fun h => ?_)
  · refine AW.iload_n (n := 10) (dat D_X12_throwsIf 5 rfl) rfl rfl ?_
    cases h
    exact AW.zret rfl rfl rfl rfl (dat D_X12_throwsIf 6 rfl)
  · refine AW.aload_n (n := 5) (dat D_X12_throwsIf 2 rfl) rfl rfl ?_
    refine AW.iload_n (n := 6) (dat D_X12_throwsIf 3 rfl) rfl rfl ?_
    refine AW.putI (n := 9) fX12_0 wF_X12_105 ly_57 (le45 rfl) rfl rfl rfl (dat D_X12_throwsIf 4 rfl) rfl ?_
    refine AW.ltS h (fun σ1 h => ?_)
    refine AW.iload_n (n := 10) (dat D_X12_throwsIf 5 rfl) rfl rfl ?_
    cases h
    exact AW.zret rfl rfl rfl rfl (dat D_X12_throwsIf 6 rfl)
def L_X12_in : List (Nat × Instr × Nat) := [(0, .iload_n 0, 1), (1, .iload_n 1, 1), (2, .if_icmp .lt 12, 3), (5, .iload_n 0, 1), (6, .iload_n 2, 1), (7, .if_icmp .gt 7, 3), (10, .iconst 1, 1), (11, .goto 4, 3), (14, .iconst 0, 1), (15, .ireturn, 1)]
theorem D_X12_in : dOK cX12_in L_X12_in = true := by decide +kernel
theorem cf_X12_in : CFS mX12_in 3 := ⟨wT_X12_in, wN_WaveRightModel, wC_X12_in, rfl, ⟨by decide +kernel, by decide +kernel, by decide +kernel⟩, le45 rfl⟩
def X12_in (n : Nat) (a0 : Int) (a1 : Int) (a2 : Int) (σ : SG) : Option (Int) :=
  if w32 a0 < w32 a1 then
    some (0)
  else
    if w32 a2 < w32 a0 then
      some (0)
    else
      some (1)
set_option maxHeartbeats 4000000 in
set_option maxRecDepth 100000 in
theorem A_X12_in {Γ : GA} (hΓ : (gl Γ).stackTraces = false) {n : Nat} {a0 : Int} {a1 : Int} {a2 : Int} {σ : SG} {r : Int}  (h : X12_in n a0 a1 a2 σ = some r) : AM Γ mX12_in 1 0 0 [vI a0, vI a1, vI a2] (85, σ) (0, r) (85, σ) := by
  refine AM.of pl_X12 rfl wC_X12_in (le45 rfl) hΓ ?_
  refine AW.to (ls'' := [some (vI a0), some (vI a1), some (vI a2)]) ?_ (lle_s rfl (lle_s rfl (lle_s rfl (lle_z))))
  unfold X12_in at h
  refine AW.iload_n (n := 1) (dat D_X12_in 0 rfl) rfl rfl ?_
  refine AW.iload_n (n := 2) (dat D_X12_in 1 rfl) rfl rfl ?_
  refine AW.icmp_ltH (t := 14) (n := 5) h (dat D_X12_in 2 rfl) rfl rfl rfl rfl (fun h => ?_) (fun h => ?_)
  · refine AW.iconst (n := 15) (dat D_X12_in 8 rfl) rfl ?_
    cases h
    exact AW.zret rfl (by decide) rfl rfl (dat D_X12_in 9 rfl)
  · refine AW.iload_n (n := 6) (dat D_X12_in 3 rfl) rfl rfl ?_
    refine AW.iload_n (n := 7) (dat D_X12_in 4 rfl) rfl rfl ?_
    refine AW.icmp_gtH (t := 14) (n := 10) h (dat D_X12_in 5 rfl) rfl rfl rfl rfl (fun h => ?_) (fun h => ?_)
    · refine AW.iconst (n := 15) (dat D_X12_in 8 rfl) rfl ?_
      cases h
      exact AW.zret rfl (by decide) rfl rfl (dat D_X12_in 9 rfl)
    · refine AW.iconst (n := 11) (dat D_X12_in 6 rfl) rfl ?_
      refine AW.goto (t := 15) (dat D_X12_in 7 rfl) rfl ?_
      cases h
      exact AW.zret rfl (by decide) rfl rfl (dat D_X12_in 9 rfl)
def L_X12_feed : List (Nat × Instr × Nat) := [(0, .aload_n 0, 1), (1, .iconst 0, 1), (2, .putfield 105, 3), (5, .aload_n 0, 1), (6, .getfield 108, 3), (9, .bipush 20, 2), (11, .iadd, 1), (12, .sipush 400, 3), (15, .if_icmp .le 5, 3), (18, .iconst (-1), 1), (19, .ireturn, 1), (20, .aload_n 0, 1), (21, .getfield 13, 3), (24, .iconst 0, 1), (25, .iload_n 1, 1), (26, .iastore, 1), (27, .aload_n 0, 1), (28, .getfield 13, 3), (31, .iconst 1, 1), (32, .iload_n 2, 1), (33, .iastore, 1), (34, .aload_n 0, 1), (35, .getfield 13, 3), (38, .iconst 2, 1), (39, .iload_n 3, 1), (40, .iastore, 1), (41, .aload_n 0, 1), (42, .getfield 13, 3), (45, .iconst 3, 1), (46, .iload 4, 2), (48, .iastore, 1), (49, .aload_n 0, 1), (50, .getfield 13, 3), (53, .iconst 4, 1), (54, .iload 5, 2), (56, .iastore, 1), (57, .iconst 0, 1), (58, .istore 6, 2), (60, .iload 6, 2), (62, .bipush 20, 2), (64, .if_icmp .ge 42, 3), (67, .aload_n 0, 1), (68, .getfield 9, 3), (71, .aload_n 0, 1), (72, .getfield 108, 3), (75, .iload 6, 2), (77, .iadd, 1), (78, .aload_n 0, 1), (79, .getfield 13, 3), (82, .iload 6, 2), (84, .iconst 4, 1), (85, .idiv, 1), (86, .iaload, 1), (87, .bipush 24, 2), (89, .bipush 8, 2), (91, .iload 6, 2), (93, .iconst 4, 1), (94, .irem, 1), (95, .imul, 1), (96, .isub, 1), (97, .ishr, 1), (98, .i2b, 1), (99, .bastore, 1), (100, .iinc 6 1, 3), (103, .goto (-43), 3), (106, .aload_n 0, 1), (107, .dup, 1), (108, .getfield 108, 3), (111, .bipush 20, 2), (113, .iadd, 1), (114, .putfield 108, 3), (117, .aload_n 0, 1), (118, .getfield 108, 3), (121, .ireturn, 1)]
theorem D_X12_feed : dOK cX12_feed L_X12_feed = true := by decide +kernel
theorem cf_X12_feed : CFV mX12_feed 5 := ⟨wI_X12_feed, wS_X12_feed, wN_WaveRightModel, wC_X12_feed, rfl, ⟨by decide +kernel, by decide +kernel, by decide +kernel⟩, le45 rfl⟩
def X12_feed_e60 (n : Nat) (σ15 : SG) : Option (Int × SG) :=
  lt (up σ15 57 2 ((σ15 57 2) + 20)) fun σ16 =>
  some (((σ16 57 2), σ16))
def X12_feed_l60 (n : Nat) (z12 : Int) (σ13 : SG) : Option ((Int × SG) ⊕ (SG)) :=
  if 20 ≤ w32 z12 then
    some (.inr σ13)
  else
    if w32 4 = 0 then none else
    rdA 5 (dv32 z12 4) fun j18 =>
    if w32 4 = 0 then none else
    rdA 400 ((σ13 57 2) + z12) fun j20 => lt (up σ13 58 j20 (w8 (w8 (bShr (σ13 59 j18) (24 - (8 * (rm32 z12 4))))))) fun σ21 =>
    lt (z12 + 1) fun x22 =>
    some (.inl (x22, σ21))
def X12_feed (n : Nat) (a0 : Int) (a1 : Int) (a2 : Int) (a3 : Int) (a4 : Int) (σ : SG) : Option (Int × SG) :=
  lt (up σ 57 0 0) fun σ1 =>
  if w32 ((σ1 57 2) + 20) ≤ 400 then
    rdA 5 0 fun j2 => lt (up σ1 59 j2 a0) fun σ3 =>
    rdA 5 1 fun j4 => lt (up σ3 59 j4 a1) fun σ5 =>
    rdA 5 2 fun j6 => lt (up σ5 59 j6 a2) fun σ7 =>
    rdA 5 3 fun j8 => lt (up σ7 59 j8 a3) fun σ9 =>
    rdA 5 4 fun j10 => lt (up σ9 59 j10 a4) fun σ11 =>
    ((iter n (fun s : Int × SG => X12_feed_l60 n s.1 s.2) (0, σ11)) : Option (SG)).bind (fun s => X12_feed_e60 n s)
  else
    some (((-1), σ1))
set_option maxHeartbeats 4000000 in
set_option maxRecDepth 100000 in
theorem A_X12_feed {Γ : GA} (hΓ : (gl Γ).stackTraces = false) {n : Nat} {a0 : Int} {a1 : Int} {a2 : Int} {a3 : Int} {a4 : Int} {σ : SG} {r : Int} {τ : SG}  (h : X12_feed n a0 a1 a2 a3 a4 σ = some (r, τ)) : AM Γ mX12_feed 1 0 0 [vR 57, vI a0, vI a1, vI a2, vI a3, vI a4] (85, σ) (0, r) (85, τ) := by
  refine AM.of pl_X12 rfl wC_X12_feed (le45 rfl) hΓ ?_
  refine AW.to (ls'' := [some (vR 57), some (vI a0), some (vI a1), some (vI a2), some (vI a3), some (vI a4), none]) ?_ (lle_s rfl (lle_s rfl (lle_s rfl (lle_s rfl (lle_s rfl (lle_s rfl (lle_e (lle_z))))))))
  unfold X12_feed at h
  refine AW.aload_n (n := 1) (dat D_X12_feed 0 rfl) rfl rfl ?_
  refine AW.iconst (n := 2) (dat D_X12_feed 1 rfl) rfl ?_
  refine AW.putI (n := 5) fX12_0 wF_X12_105 ly_57 (le45 rfl) rfl rfl rfl (dat D_X12_feed 2 rfl) rfl ?_
  refine AW.ltS h (fun σ1 h => ?_)
  refine AW.aload_n (n := 6) (dat D_X12_feed 3 rfl) rfl rfl ?_
  refine AW.getI (n := 9) fX12_2 wF_X12_108 ly_57 (le45 rfl) rfl rfl (dat D_X12_feed 4 rfl) rfl ?_
  refine AW.bipush (n := 11) (dat D_X12_feed 5 rfl) rfl (by decide) ?_
  refine AW.iadd (n := 12) (dat D_X12_feed 6 rfl) rfl ?_
  refine AW.sipush (n := 15) (dat D_X12_feed 7 rfl) rfl (by decide) ?_
  refine AW.icmp_leH (t := 20) (n := 18) h (dat D_X12_feed 8 rfl) rfl rfl rfl (by decide) (fun h => ?_) (fun h => ?_)
  · refine AW.aload_n (n := 21) (dat D_X12_feed 11 rfl) rfl rfl ?_
    refine AW.getR (n := 24) (t := 59) fX12_3 wF_X12_13 ly_57 (le45 rfl) rfl (dat D_X12_feed 12 rfl) rfl ?_
    refine AW.iconst (n := 25) (dat D_X12_feed 13 rfl) rfl ?_
    refine AW.iload_n (n := 26) (dat D_X12_feed 14 rfl) rfl rfl ?_
    refine AW.iastH h (n := 27) rfl ly_59 (le45 rfl) (dat D_X12_feed 15 rfl) rfl (fun j2 h => ?_)
    refine AW.ltS h (fun σ3 h => ?_)
    refine AW.aload_n (n := 28) (dat D_X12_feed 16 rfl) rfl rfl ?_
    refine AW.getR (n := 31) (t := 59) fX12_3 wF_X12_13 ly_57 (le45 rfl) rfl (dat D_X12_feed 17 rfl) rfl ?_
    refine AW.iconst (n := 32) (dat D_X12_feed 18 rfl) rfl ?_
    refine AW.iload_n (n := 33) (dat D_X12_feed 19 rfl) rfl rfl ?_
    refine AW.iastH h (n := 34) rfl ly_59 (le45 rfl) (dat D_X12_feed 20 rfl) rfl (fun j4 h => ?_)
    refine AW.ltS h (fun σ5 h => ?_)
    refine AW.aload_n (n := 35) (dat D_X12_feed 21 rfl) rfl rfl ?_
    refine AW.getR (n := 38) (t := 59) fX12_3 wF_X12_13 ly_57 (le45 rfl) rfl (dat D_X12_feed 22 rfl) rfl ?_
    refine AW.iconst (n := 39) (dat D_X12_feed 23 rfl) rfl ?_
    refine AW.iload_n (n := 40) (dat D_X12_feed 24 rfl) rfl rfl ?_
    refine AW.iastH h (n := 41) rfl ly_59 (le45 rfl) (dat D_X12_feed 25 rfl) rfl (fun j6 h => ?_)
    refine AW.ltS h (fun σ7 h => ?_)
    refine AW.aload_n (n := 42) (dat D_X12_feed 26 rfl) rfl rfl ?_
    refine AW.getR (n := 45) (t := 59) fX12_3 wF_X12_13 ly_57 (le45 rfl) rfl (dat D_X12_feed 27 rfl) rfl ?_
    refine AW.iconst (n := 46) (dat D_X12_feed 28 rfl) rfl ?_
    refine AW.iload (n := 48) (dat D_X12_feed 29 rfl) rfl rfl ?_
    refine AW.iastH h (n := 49) rfl ly_59 (le45 rfl) (dat D_X12_feed 30 rfl) rfl (fun j8 h => ?_)
    refine AW.ltS h (fun σ9 h => ?_)
    refine AW.aload_n (n := 50) (dat D_X12_feed 31 rfl) rfl rfl ?_
    refine AW.getR (n := 53) (t := 59) fX12_3 wF_X12_13 ly_57 (le45 rfl) rfl (dat D_X12_feed 32 rfl) rfl ?_
    refine AW.iconst (n := 54) (dat D_X12_feed 33 rfl) rfl ?_
    refine AW.iload (n := 56) (dat D_X12_feed 34 rfl) rfl rfl ?_
    refine AW.iastH h (n := 57) rfl ly_59 (le45 rfl) (dat D_X12_feed 35 rfl) rfl (fun j10 h => ?_)
    refine AW.ltS h (fun σ11 h => ?_)
    refine AW.iconst (n := 58) (dat D_X12_feed 36 rfl) rfl ?_
    refine AW.istore (n := 60) (ls' := [some (vR 57), some (vI a0), some (vI a1), some (vI a2), some (vI a3), some (vI a4), some (vI 0)]) (dat D_X12_feed 37 rfl) rfl (le45 rfl) (le45 rfl) rfl rfl ?_
    obtain ⟨b14, hi14, hq14⟩ := ob_some h
    obtain ⟨σ15, e14⟩ : ∃ z, z = b14 := ⟨_, rfl⟩
    subst e14
    have hR14 : AW Γ mX12_feed 1 (0, r) (85, τ) 0 0 106 [some (vR 57), none, none, none, none, none, none] [] (85, σ15) := by
      have h : X12_feed_e60 n σ15 = some _ := hq14
      unfold X12_feed_e60 at h
      refine AW.aload_n (n := 107) (dat D_X12_feed 65 rfl) rfl rfl ?_
      refine AW.dup (n := 108) (dat D_X12_feed 66 rfl) rfl (cR _) ?_
      refine AW.getI (n := 111) fX12_2 wF_X12_108 ly_57 (le45 rfl) rfl rfl (dat D_X12_feed 67 rfl) rfl ?_
      refine AW.bipush (n := 113) (dat D_X12_feed 68 rfl) rfl (by decide) ?_
      refine AW.iadd (n := 114) (dat D_X12_feed 69 rfl) rfl ?_
      refine AW.putI (n := 117) fX12_2 wF_X12_108 ly_57 (le45 rfl) rfl rfl rfl (dat D_X12_feed 70 rfl) rfl ?_
      refine AW.ltS h (fun σ16 h => ?_)
      refine AW.aload_n (n := 118) (dat D_X12_feed 71 rfl) rfl rfl ?_
      refine AW.getI (n := 121) fX12_2 wF_X12_108 ly_57 (le45 rfl) rfl rfl (dat D_X12_feed 72 rfl) rfl ?_
      cases h
      exact AW.iret rfl rfl rfl (dat D_X12_feed 73 rfl)
    refine AW.to (ls'' := [some (vR 57), none, none, none, none, none, some (vI 0)]) ?_ (lle_s rfl (lle_n (lle_n (lle_n (lle_n (lle_n (lle_s rfl (lle_z))))))))
    refine aw_iter (fun s : Int × SG => AW Γ mX12_feed 1 (0, r) (85, τ) 0 0 60 [some (vR 57), none, none, none, none, none, some (vI (s.1))] [] (85, s.2)) (fun s y h hk14 hb14 => ?_) _ _ hi14
    obtain ⟨z12, σ13⟩ := s
    show AW Γ mX12_feed 1 (0, r) (85, τ) 0 0 60 [some (vR 57), none, none, none, none, none, some (vI z12)] [] (85, σ13)
    have h : X12_feed_l60 n z12 σ13 = some y := h
    unfold X12_feed_l60 at h
    refine AW.iload (n := 62) (dat D_X12_feed 38 rfl) rfl rfl ?_
    refine AW.bipush (n := 64) (dat D_X12_feed 39 rfl) rfl (by decide) ?_
    refine AW.icmp_geH (t := 106) (n := 67) h (dat D_X12_feed 40 rfl) rfl rfl rfl (by decide) (fun h => ?_) (fun h => ?_)
    · cases h
      have hb := hb14 _ rfl
      cases hb
      exact AW.to hR14 (lle_s rfl (lle_n (lle_n (lle_n (lle_n (lle_n (lle_n (lle_z))))))))
    · refine AW.aload_n (n := 68) (dat D_X12_feed 41 rfl) rfl rfl ?_
      refine AW.getR (n := 71) (t := 58) fX12_1 wF_X12_9 ly_57 (le45 rfl) rfl (dat D_X12_feed 42 rfl) rfl ?_
      refine AW.aload_n (n := 72) (dat D_X12_feed 43 rfl) rfl rfl ?_
      refine AW.getI (n := 75) fX12_2 wF_X12_108 ly_57 (le45 rfl) rfl rfl (dat D_X12_feed 44 rfl) rfl ?_
      refine AW.iload (n := 77) (dat D_X12_feed 45 rfl) rfl rfl ?_
      refine AW.iadd (n := 78) (dat D_X12_feed 46 rfl) rfl ?_
      refine AW.aload_n (n := 79) (dat D_X12_feed 47 rfl) rfl rfl ?_
      refine AW.getR (n := 82) (t := 59) fX12_3 wF_X12_13 ly_57 (le45 rfl) rfl (dat D_X12_feed 48 rfl) rfl ?_
      refine AW.iload (n := 84) (dat D_X12_feed 49 rfl) rfl rfl ?_
      refine AW.iconst (n := 85) (dat D_X12_feed 50 rfl) rfl ?_
      obtain ⟨q17, h⟩ := ite_n h
      refine AW.idiv (n := 86) (dat D_X12_feed 51 rfl) rfl q17 ?_
      refine AW.ialdH h (n := 87) rfl ly_59 (le45 rfl) (dat D_X12_feed 52 rfl) rfl (fun j18 h => ?_)
      refine AW.bipush (n := 89) (dat D_X12_feed 53 rfl) rfl (by decide) ?_
      refine AW.bipush (n := 91) (dat D_X12_feed 54 rfl) rfl (by decide) ?_
      refine AW.iload (n := 93) (dat D_X12_feed 55 rfl) rfl rfl ?_
      refine AW.iconst (n := 94) (dat D_X12_feed 56 rfl) rfl ?_
      obtain ⟨q19, h⟩ := ite_n h
      refine AW.irem (n := 95) (dat D_X12_feed 57 rfl) rfl q19 ?_
      refine AW.imul (n := 96) (dat D_X12_feed 58 rfl) rfl ?_
      refine AW.isub (n := 97) (dat D_X12_feed 59 rfl) rfl ?_
      refine AW.ishr (n := 98) (dat D_X12_feed 60 rfl) rfl ?_
      refine AW.i2b (n := 99) (dat D_X12_feed 61 rfl) rfl ?_
      refine AW.bastH h (n := 100) rfl ly_58 (le45 rfl) (dat D_X12_feed 62 rfl) rfl (fun j20 h => ?_)
      refine AW.ltS h (fun σ21 h => ?_)
      refine AW.iincH h (n := 103) (dat D_X12_feed 63 rfl) rfl rfl (le45 rfl) rfl (fun x22 h => ?_)
      refine AW.lq (ls' := [some (vR 57), none, none, none, none, none, some (vI x22)]) rfl ?_
      refine AW.goto (t := 60) (dat D_X12_feed 64 rfl) rfl ?_
      cases h
      exact AW.to (hk14 _ rfl) (lle_s rfl (lle_n (lle_n (lle_n (lle_n (lle_n (lle_s rfl (lle_z))))))))
  · refine AW.iconst (n := 19) (dat D_X12_feed 9 rfl) rfl ?_
    cases h
    exact AW.iret rfl rfl rfl (dat D_X12_feed 10 rfl)
def L_X12_end : List (Nat × Instr × Nat) := [(0, .aload_n 0, 1), (1, .iconst 0, 1), (2, .putfield 105, 3), (5, .iload_n 1, 1), (6, .ifCond .lt 11, 3), (9, .iload_n 1, 1), (10, .aload_n 0, 1), (11, .getfield 108, 3), (14, .if_icmp .le 5, 3), (17, .iconst 0, 1), (18, .ireturn, 1), (19, .aload_n 0, 1), (20, .iload_n 1, 1), (21, .putfield 108, 3), (24, .iconst 1, 1), (25, .ireturn, 1)]
theorem D_X12_end : dOK cX12_end L_X12_end = true := by decide +kernel
theorem cf_X12_end : CFV mX12_end 1 := ⟨wI_X12_end, wS_X12_end, wN_WaveRightModel, wC_X12_end, rfl, ⟨by decide +kernel, by decide +kernel, by decide +kernel⟩, le45 rfl⟩
def X12_end (n : Nat) (a0 : Int) (σ : SG) : Option (Int × SG) :=
  lt (up σ 57 0 0) fun σ1 =>
  if w32 a0 < 0 then
    some ((0, σ1))
  else
    if w32 a0 ≤ w32 (σ1 57 2) then
      lt (up σ1 57 2 a0) fun σ2 =>
      some ((1, σ2))
    else
      some ((0, σ1))
set_option maxHeartbeats 4000000 in
set_option maxRecDepth 100000 in
theorem A_X12_end {Γ : GA} (hΓ : (gl Γ).stackTraces = false) {n : Nat} {a0 : Int} {σ : SG} {r : Int} {τ : SG}  (h : X12_end n a0 σ = some (r, τ)) : AM Γ mX12_end 1 0 0 [vR 57, vI a0] (85, σ) (0, r) (85, τ) := by
  refine AM.of pl_X12 rfl wC_X12_end (le45 rfl) hΓ ?_
  refine AW.to (ls'' := [some (vR 57), some (vI a0)]) ?_ (lle_s rfl (lle_s rfl (lle_z)))
  unfold X12_end at h
  refine AW.aload_n (n := 1) (dat D_X12_end 0 rfl) rfl rfl ?_
  refine AW.iconst (n := 2) (dat D_X12_end 1 rfl) rfl ?_
  refine AW.putI (n := 5) fX12_0 wF_X12_105 ly_57 (le45 rfl) rfl rfl rfl (dat D_X12_end 2 rfl) rfl ?_
  refine AW.ltS h (fun σ1 h => ?_)
  refine AW.iload_n (n := 6) (dat D_X12_end 3 rfl) rfl rfl ?_
  refine AW.if_ltH (t := 17) (n := 9) h (dat D_X12_end 4 rfl) rfl rfl (fun h => ?_) (fun h => ?_)
  · refine AW.iconst (n := 18) (dat D_X12_end 9 rfl) rfl ?_
    cases h
    exact AW.zret rfl (by decide) rfl rfl (dat D_X12_end 10 rfl)
  · refine AW.iload_n (n := 10) (dat D_X12_end 5 rfl) rfl rfl ?_
    refine AW.aload_n (n := 11) (dat D_X12_end 6 rfl) rfl rfl ?_
    refine AW.getI (n := 14) fX12_2 wF_X12_108 ly_57 (le45 rfl) rfl rfl (dat D_X12_end 7 rfl) rfl ?_
    refine AW.icmp_leH (t := 19) (n := 17) h (dat D_X12_end 8 rfl) rfl rfl rfl rfl (fun h => ?_) (fun h => ?_)
    · refine AW.aload_n (n := 20) (dat D_X12_end 11 rfl) rfl rfl ?_
      refine AW.iload_n (n := 21) (dat D_X12_end 12 rfl) rfl rfl ?_
      refine AW.putI (n := 24) fX12_2 wF_X12_108 ly_57 (le45 rfl) rfl rfl rfl (dat D_X12_end 13 rfl) rfl ?_
      refine AW.ltS h (fun σ2 h => ?_)
      refine AW.iconst (n := 25) (dat D_X12_end 14 rfl) rfl ?_
      cases h
      exact AW.zret rfl (by decide) rfl rfl (dat D_X12_end 15 rfl)
    · refine AW.iconst (n := 18) (dat D_X12_end 9 rfl) rfl ?_
      cases h
      exact AW.zret rfl (by decide) rfl rfl (dat D_X12_end 10 rfl)
def L_X12_begins : List (Nat × Instr × Nat) := [(0, .aload_n 0, 1), (1, .aload_n 0, 1), (2, .getfield 108, 3), (5, .putfield 111, 3), (8, .aload_n 0, 1), (9, .iconst 0, 1), (10, .putfield 108, 3), (13, .aload_n 0, 1), (14, .iconst 0, 1), (15, .putfield 114, 3), (18, .aload_n 0, 1), (19, .iconst (-1), 1), (20, .putfield 117, 3), (23, .return_, 1)]
theorem D_X12_begins : dOK cX12_begins L_X12_begins = true := by decide +kernel
theorem cf_X12_begins : CFV mX12_begins 0 := ⟨wI_X12_begins, wS_X12_begins, wN_WaveRightModel, wC_X12_begins, rfl, ⟨by decide +kernel, by decide +kernel, by decide +kernel⟩, le45 rfl⟩
def X12_begins (n : Nat) (σ : SG) : Option (SG) :=
  lt (up σ 57 6 (σ 57 2)) fun σ1 =>
  lt (up σ1 57 2 0) fun σ2 =>
  lt (up σ2 57 4 0) fun σ3 =>
  lt (up σ3 57 7 (-1)) fun σ4 =>
  some (σ4)
set_option maxHeartbeats 4000000 in
set_option maxRecDepth 100000 in
theorem A_X12_begins {Γ : GA} (hΓ : (gl Γ).stackTraces = false) {n : Nat} {σ : SG} {τ : SG}  (h : X12_begins n σ = some τ) : AM Γ mX12_begins 1 0 0 [vR 57] (85, σ) (0, 0) (85, τ) := by
  refine AM.of pl_X12 rfl wC_X12_begins (le45 rfl) hΓ ?_
  refine AW.to (ls'' := [some (vR 57)]) ?_ (lle_s rfl (lle_z))
  unfold X12_begins at h
  refine AW.aload_n (n := 1) (dat D_X12_begins 0 rfl) rfl rfl ?_
  refine AW.aload_n (n := 2) (dat D_X12_begins 1 rfl) rfl rfl ?_
  refine AW.getI (n := 5) fX12_2 wF_X12_108 ly_57 (le45 rfl) rfl rfl (dat D_X12_begins 2 rfl) rfl ?_
  refine AW.putI (n := 8) fX12_6 wF_X12_111 ly_57 (le45 rfl) rfl rfl rfl (dat D_X12_begins 3 rfl) rfl ?_
  refine AW.ltS h (fun σ1 h => ?_)
  refine AW.aload_n (n := 9) (dat D_X12_begins 4 rfl) rfl rfl ?_
  refine AW.iconst (n := 10) (dat D_X12_begins 5 rfl) rfl ?_
  refine AW.putI (n := 13) fX12_2 wF_X12_108 ly_57 (le45 rfl) rfl rfl rfl (dat D_X12_begins 6 rfl) rfl ?_
  refine AW.ltS h (fun σ2 h => ?_)
  refine AW.aload_n (n := 14) (dat D_X12_begins 7 rfl) rfl rfl ?_
  refine AW.iconst (n := 15) (dat D_X12_begins 8 rfl) rfl ?_
  refine AW.putI (n := 18) fX12_4 wF_X12_114 ly_57 (le45 rfl) rfl rfl rfl (dat D_X12_begins 9 rfl) rfl ?_
  refine AW.ltS h (fun σ3 h => ?_)
  refine AW.aload_n (n := 19) (dat D_X12_begins 10 rfl) rfl rfl ?_
  refine AW.iconst (n := 20) (dat D_X12_begins 11 rfl) rfl ?_
  refine AW.putI (n := 23) fX12_7 wF_X12_117 ly_57 (le45 rfl) rfl rfl rfl (dat D_X12_begins 12 rfl) rfl ?_
  refine AW.ltS h (fun σ4 h => ?_)
  cases h
  exact AW.vret rfl rfl rfl (dat D_X12_begins 13 rfl)
def L_X12_hasFailed : List (Nat × Instr × Nat) := [(0, .aload_n 0, 1), (1, .getfield 117, 3), (4, .iconst (-1), 1), (5, .if_icmp .eq 7, 3), (8, .iconst 1, 1), (9, .goto 4, 3), (12, .iconst 0, 1), (13, .ireturn, 1)]
theorem D_X12_hasFailed : dOK cX12_hasFailed L_X12_hasFailed = true := by decide +kernel
theorem cf_X12_hasFailed : CFV mX12_hasFailed 0 := ⟨wI_X12_hasFailed, wS_X12_hasFailed, wN_WaveRightModel, wC_X12_hasFailed, rfl, ⟨by decide +kernel, by decide +kernel, by decide +kernel⟩, le45 rfl⟩
def X12_hasFailed (n : Nat) (σ : SG) : Option (Int) :=
  if w32 (σ 57 7) = (-1) then
    some (0)
  else
    some (1)
set_option maxHeartbeats 4000000 in
set_option maxRecDepth 100000 in
theorem A_X12_hasFailed {Γ : GA} (hΓ : (gl Γ).stackTraces = false) {n : Nat} {σ : SG} {r : Int}  (h : X12_hasFailed n σ = some r) : AM Γ mX12_hasFailed 1 0 0 [vR 57] (85, σ) (0, r) (85, σ) := by
  refine AM.of pl_X12 rfl wC_X12_hasFailed (le45 rfl) hΓ ?_
  refine AW.to (ls'' := [some (vR 57)]) ?_ (lle_s rfl (lle_z))
  unfold X12_hasFailed at h
  refine AW.aload_n (n := 1) (dat D_X12_hasFailed 0 rfl) rfl rfl ?_
  refine AW.getI (n := 4) fX12_7 wF_X12_117 ly_57 (le45 rfl) rfl rfl (dat D_X12_hasFailed 1 rfl) rfl ?_
  refine AW.iconst (n := 5) (dat D_X12_hasFailed 2 rfl) rfl ?_
  refine AW.icmp_eqH (t := 12) (n := 8) h (dat D_X12_hasFailed 3 rfl) rfl rfl rfl (by decide) (fun h => ?_) (fun h => ?_)
  · refine AW.iconst (n := 13) (dat D_X12_hasFailed 6 rfl) rfl ?_
    cases h
    exact AW.zret rfl (by decide) rfl rfl (dat D_X12_hasFailed 7 rfl)
  · refine AW.iconst (n := 9) (dat D_X12_hasFailed 4 rfl) rfl ?_
    refine AW.goto (t := 13) (dat D_X12_hasFailed 5 rfl) rfl ?_
    cases h
    exact AW.zret rfl (by decide) rfl rfl (dat D_X12_hasFailed 7 rfl)
def L_X12_isAt : List (Nat × Instr × Nat) := [(0, .aload_n 0, 1), (1, .getfield 114, 3), (4, .aload_n 0, 1), (5, .getfield 111, 3), (8, .if_icmp .ge 33, 3), (11, .aload_n 0, 1), (12, .getfield 9, 3), (15, .aload_n 0, 1), (16, .getfield 114, 3), (19, .baload, 1), (20, .iload_n 1, 1), (21, .if_icmp .lt 20, 3), (24, .aload_n 0, 1), (25, .getfield 9, 3), (28, .aload_n 0, 1), (29, .getfield 114, 3), (32, .baload, 1), (33, .iload_n 2, 1), (34, .if_icmp .gt 7, 3), (37, .iconst 1, 1), (38, .goto 4, 3), (41, .iconst 0, 1), (42, .ireturn, 1)]
theorem D_X12_isAt : dOK cX12_isAt L_X12_isAt = true := by decide +kernel
theorem cf_X12_isAt : CFV mX12_isAt 2 := ⟨wI_X12_isAt, wS_X12_isAt, wN_WaveRightModel, wC_X12_isAt, rfl, ⟨by decide +kernel, by decide +kernel, by decide +kernel⟩, le45 rfl⟩
def X12_isAt (n : Nat) (a0 : Int) (a1 : Int) (σ : SG) : Option (Int) :=
  if w32 (σ 57 6) ≤ w32 (σ 57 4) then
    some (0)
  else
    rdA 400 (σ 57 4) fun j1 =>
    if w32 (σ 58 j1) < w32 a0 then
      some (0)
    else
      rdA 400 (σ 57 4) fun j2 =>
      if w32 a1 < w32 (σ 58 j2) then
        some (0)
      else
        some (1)
set_option maxHeartbeats 4000000 in
set_option maxRecDepth 100000 in
theorem A_X12_isAt {Γ : GA} (hΓ : (gl Γ).stackTraces = false) {n : Nat} {a0 : Int} {a1 : Int} {σ : SG} {r : Int}  (h : X12_isAt n a0 a1 σ = some r) : AM Γ mX12_isAt 1 0 0 [vR 57, vI a0, vI a1] (85, σ) (0, r) (85, σ) := by
  refine AM.of pl_X12 rfl wC_X12_isAt (le45 rfl) hΓ ?_
  refine AW.to (ls'' := [some (vR 57), some (vI a0), some (vI a1)]) ?_ (lle_s rfl (lle_s rfl (lle_s rfl (lle_z))))
  unfold X12_isAt at h
  refine AW.aload_n (n := 1) (dat D_X12_isAt 0 rfl) rfl rfl ?_
  refine AW.getI (n := 4) fX12_4 wF_X12_114 ly_57 (le45 rfl) rfl rfl (dat D_X12_isAt 1 rfl) rfl ?_
  refine AW.aload_n (n := 5) (dat D_X12_isAt 2 rfl) rfl rfl ?_
  refine AW.getI (n := 8) fX12_6 wF_X12_111 ly_57 (le45 rfl) rfl rfl (dat D_X12_isAt 3 rfl) rfl ?_
  refine AW.icmp_geH (t := 41) (n := 11) h (dat D_X12_isAt 4 rfl) rfl rfl rfl rfl (fun h => ?_) (fun h => ?_)
  · refine AW.iconst (n := 42) (dat D_X12_isAt 21 rfl) rfl ?_
    cases h
    exact AW.zret rfl (by decide) rfl rfl (dat D_X12_isAt 22 rfl)
  · refine AW.aload_n (n := 12) (dat D_X12_isAt 5 rfl) rfl rfl ?_
    refine AW.getR (n := 15) (t := 58) fX12_1 wF_X12_9 ly_57 (le45 rfl) rfl (dat D_X12_isAt 6 rfl) rfl ?_
    refine AW.aload_n (n := 16) (dat D_X12_isAt 7 rfl) rfl rfl ?_
    refine AW.getI (n := 19) fX12_4 wF_X12_114 ly_57 (le45 rfl) rfl rfl (dat D_X12_isAt 8 rfl) rfl ?_
    refine AW.baldH h (n := 20) rfl ly_58 (le45 rfl) (dat D_X12_isAt 9 rfl) rfl (fun j1 h => ?_)
    refine AW.iload_n (n := 21) (dat D_X12_isAt 10 rfl) rfl rfl ?_
    refine AW.icmp_ltH (t := 41) (n := 24) h (dat D_X12_isAt 11 rfl) rfl rfl rfl rfl (fun h => ?_) (fun h => ?_)
    · refine AW.iconst (n := 42) (dat D_X12_isAt 21 rfl) rfl ?_
      cases h
      exact AW.zret rfl (by decide) rfl rfl (dat D_X12_isAt 22 rfl)
    · refine AW.aload_n (n := 25) (dat D_X12_isAt 12 rfl) rfl rfl ?_
      refine AW.getR (n := 28) (t := 58) fX12_1 wF_X12_9 ly_57 (le45 rfl) rfl (dat D_X12_isAt 13 rfl) rfl ?_
      refine AW.aload_n (n := 29) (dat D_X12_isAt 14 rfl) rfl rfl ?_
      refine AW.getI (n := 32) fX12_4 wF_X12_114 ly_57 (le45 rfl) rfl rfl (dat D_X12_isAt 15 rfl) rfl ?_
      refine AW.baldH h (n := 33) rfl ly_58 (le45 rfl) (dat D_X12_isAt 16 rfl) rfl (fun j2 h => ?_)
      refine AW.iload_n (n := 34) (dat D_X12_isAt 17 rfl) rfl rfl ?_
      refine AW.icmp_gtH (t := 41) (n := 37) h (dat D_X12_isAt 18 rfl) rfl rfl rfl rfl (fun h => ?_) (fun h => ?_)
      · refine AW.iconst (n := 42) (dat D_X12_isAt 21 rfl) rfl ?_
        cases h
        exact AW.zret rfl (by decide) rfl rfl (dat D_X12_isAt 22 rfl)
      · refine AW.iconst (n := 38) (dat D_X12_isAt 19 rfl) rfl ?_
        refine AW.goto (t := 42) (dat D_X12_isAt 20 rfl) rfl ?_
        cases h
        exact AW.zret rfl (by decide) rfl rfl (dat D_X12_isAt 22 rfl)
def L_X12_blanks : List (Nat × Instr × Nat) := [(0, .aload_n 0, 1), (1, .bipush 9, 2), (3, .bipush 10, 2), (5, .invokevirtual 120, 3), (8, .ifCond .ne 14, 3), (11, .aload_n 0, 1), (12, .bipush 32, 2), (14, .bipush 32, 2), (16, .invokevirtual 120, 3), (19, .ifCond .eq 16, 3), (22, .aload_n 0, 1), (23, .dup, 1), (24, .getfield 114, 3), (27, .iconst 1, 1), (28, .iadd, 1), (29, .putfield 114, 3), (32, .goto (-32), 3), (35, .aload_n 0, 1), (36, .aload_n 0, 1), (37, .getfield 114, 3), (40, .putfield 124, 3), (43, .return_, 1)]
theorem D_X12_blanks : dOK cX12_blanks L_X12_blanks = true := by decide +kernel
theorem cf_X12_blanks : CFV mX12_blanks 0 := ⟨wI_X12_blanks, wS_X12_blanks, wN_WaveRightModel, wC_X12_blanks, rfl, ⟨by decide +kernel, by decide +kernel, by decide +kernel⟩, le45 rfl⟩
def X12_blanks_e0 (n : Nat) (σ3 : SG) : Option (SG) :=
  lt (up σ3 57 5 (σ3 57 4)) fun σ4 =>
  some (σ4)
def X12_blanks_l0 (n : Nat) (σ1 : SG) : Option ((SG) ⊕ (SG)) :=
  (X12_isAt n 9 10 σ1).bind fun v6 =>
  if w32 v6 = 0 then
    (X12_isAt n 32 32 σ1).bind fun v9 =>
    if w32 v9 = 0 then
      some (.inr σ1)
    else
      lt (up σ1 57 4 ((σ1 57 4) + 1)) fun σ10 =>
      some (.inl σ10)
  else
    lt (up σ1 57 4 ((σ1 57 4) + 1)) fun σ7 =>
    some (.inl σ7)
def X12_blanks (n : Nat) (σ : SG) : Option (SG) :=
  ((iter n (fun s : SG => X12_blanks_l0 n s) σ) : Option (SG)).bind (fun s => X12_blanks_e0 n s)
set_option maxHeartbeats 4000000 in
set_option maxRecDepth 100000 in
theorem A_X12_blanks {Γ : GA} (hΓ : (gl Γ).stackTraces = false) {n : Nat} {σ : SG} {τ : SG}  (h : X12_blanks n σ = some τ) : AM Γ mX12_blanks 2 0 0 [vR 57] (85, σ) (0, 0) (85, τ) := by
  refine AM.of pl_X12 rfl wC_X12_blanks (le45 rfl) hΓ ?_
  refine AW.to (ls'' := [some (vR 57)]) ?_ (lle_s rfl (lle_z))
  unfold X12_blanks at h
  obtain ⟨b2, hi2, hq2⟩ := ob_some h
  obtain ⟨σ3, e2⟩ : ∃ z, z = b2 := ⟨_, rfl⟩
  subst e2
  have hR2 : AW Γ mX12_blanks 2 (0, 0) (85, τ) 0 0 35 [some (vR 57)] [] (85, σ3) := by
    have h : X12_blanks_e0 n σ3 = some _ := hq2
    unfold X12_blanks_e0 at h
    refine AW.aload_n (n := 36) (dat D_X12_blanks 17 rfl) rfl rfl ?_
    refine AW.aload_n (n := 37) (dat D_X12_blanks 18 rfl) rfl rfl ?_
    refine AW.getI (n := 40) fX12_4 wF_X12_114 ly_57 (le45 rfl) rfl rfl (dat D_X12_blanks 19 rfl) rfl ?_
    refine AW.putI (n := 43) fX12_5 wF_X12_124 ly_57 (le45 rfl) rfl rfl rfl (dat D_X12_blanks 20 rfl) rfl ?_
    refine AW.ltS h (fun σ4 h => ?_)
    cases h
    exact AW.vret rfl rfl rfl (dat D_X12_blanks 21 rfl)
  refine AW.to (ls'' := [some (vR 57)]) ?_ (lle_s rfl (lle_z))
  refine aw_iter (fun s : SG => AW Γ mX12_blanks 2 (0, 0) (85, τ) 0 0 0 [some (vR 57)] [] (85, s)) (fun s y h hk2 hb2 => ?_) _ _ hi2
  obtain ⟨σ1, e2⟩ : ∃ z, z = s := ⟨_, rfl⟩
  subst e2
  show AW Γ mX12_blanks 2 (0, 0) (85, τ) 0 0 0 [some (vR 57)] [] (85, σ1)
  have h : X12_blanks_l0 n σ1 = some y := h
  unfold X12_blanks_l0 at h
  refine AW.aload_n (n := 1) (dat D_X12_blanks 0 rfl) rfl rfl ?_
  refine AW.bipush (n := 3) (dat D_X12_blanks 1 rfl) rfl (by decide) ?_
  refine AW.bipush (n := 5) (dat D_X12_blanks 2 rfl) rfl (by decide) ?_
  obtain ⟨v6, hc5, h⟩ := ob_some h
  refine AW.cV (n := 8) (as := [vI 9, vI 10]) (st := []) (st' := [vI v6]) (uc' := 0) (us' := 0) (A_X12_isAt hΓ hc5) cf_X12_isAt ly_57 (le45 rfl) vc_12 (le45 rfl) wM_X12_120 (le45 rfl) (le45 rfl) (dat D_X12_blanks 3 rfl) rfl rfl (le45 rfl) (le45 rfl) rfl (fun _ => ?_) nlt0
  refine AW.if_neH (t := 22) (n := 11) h (dat D_X12_blanks 4 rfl) rfl rfl (fun h => ?_) (fun h => ?_)
  · refine AW.aload_n (n := 12) (dat D_X12_blanks 5 rfl) rfl rfl ?_
    refine AW.bipush (n := 14) (dat D_X12_blanks 6 rfl) rfl (by decide) ?_
    refine AW.bipush (n := 16) (dat D_X12_blanks 7 rfl) rfl (by decide) ?_
    obtain ⟨v9, hc8, h⟩ := ob_some h
    refine AW.cV (n := 19) (as := [vI 32, vI 32]) (st := []) (st' := [vI v9]) (uc' := 0) (us' := 0) (A_X12_isAt hΓ hc8) cf_X12_isAt ly_57 (le45 rfl) vc_12 (le45 rfl) wM_X12_120 (le45 rfl) (le45 rfl) (dat D_X12_blanks 8 rfl) rfl rfl (le45 rfl) (le45 rfl) rfl (fun _ => ?_) nlt0
    refine AW.if_eqH (t := 35) (n := 22) h (dat D_X12_blanks 9 rfl) rfl rfl (fun h => ?_) (fun h => ?_)
    · cases h
      have hb := hb2 _ rfl
      cases hb
      exact AW.to hR2 (lle_s rfl (lle_z))
    · refine AW.aload_n (n := 23) (dat D_X12_blanks 10 rfl) rfl rfl ?_
      refine AW.dup (n := 24) (dat D_X12_blanks 11 rfl) rfl (cR _) ?_
      refine AW.getI (n := 27) fX12_4 wF_X12_114 ly_57 (le45 rfl) rfl rfl (dat D_X12_blanks 12 rfl) rfl ?_
      refine AW.iconst (n := 28) (dat D_X12_blanks 13 rfl) rfl ?_
      refine AW.iadd (n := 29) (dat D_X12_blanks 14 rfl) rfl ?_
      refine AW.putI (n := 32) fX12_4 wF_X12_114 ly_57 (le45 rfl) rfl rfl rfl (dat D_X12_blanks 15 rfl) rfl ?_
      refine AW.ltS h (fun σ10 h => ?_)
      refine AW.goto (t := 0) (dat D_X12_blanks 16 rfl) rfl ?_
      cases h
      exact AW.to (hk2 _ rfl) (lle_s rfl (lle_z))
  · refine AW.aload_n (n := 23) (dat D_X12_blanks 10 rfl) rfl rfl ?_
    refine AW.dup (n := 24) (dat D_X12_blanks 11 rfl) rfl (cR _) ?_
    refine AW.getI (n := 27) fX12_4 wF_X12_114 ly_57 (le45 rfl) rfl rfl (dat D_X12_blanks 12 rfl) rfl ?_
    refine AW.iconst (n := 28) (dat D_X12_blanks 13 rfl) rfl ?_
    refine AW.iadd (n := 29) (dat D_X12_blanks 14 rfl) rfl ?_
    refine AW.putI (n := 32) fX12_4 wF_X12_114 ly_57 (le45 rfl) rfl rfl rfl (dat D_X12_blanks 15 rfl) rfl ?_
    refine AW.ltS h (fun σ7 h => ?_)
    refine AW.goto (t := 0) (dat D_X12_blanks 16 rfl) rfl ?_
    cases h
    exact AW.to (hk2 _ rfl) (lle_s rfl (lle_z))
def L_X12_fails : List (Nat × Instr × Nat) := [(0, .aload_n 0, 1), (1, .getfield 117, 3), (4, .iconst (-1), 1), (5, .if_icmp .ne 11, 3), (8, .aload_n 0, 1), (9, .aload_n 0, 1), (10, .getfield 124, 3), (13, .putfield 117, 3), (16, .return_, 1)]
theorem D_X12_fails : dOK cX12_fails L_X12_fails = true := by decide +kernel
theorem cf_X12_fails : CFV mX12_fails 0 := ⟨wI_X12_fails, wS_X12_fails, wN_WaveRightModel, wC_X12_fails, rfl, ⟨by decide +kernel, by decide +kernel, by decide +kernel⟩, le45 rfl⟩
def X12_fails (n : Nat) (σ : SG) : Option (SG) :=
  if w32 (σ 57 7) = (-1) then
    lt (up σ 57 7 (σ 57 5)) fun σ1 =>
    some (σ1)
  else
    some (σ)
set_option maxHeartbeats 4000000 in
set_option maxRecDepth 100000 in
theorem A_X12_fails {Γ : GA} (hΓ : (gl Γ).stackTraces = false) {n : Nat} {σ : SG} {τ : SG}  (h : X12_fails n σ = some τ) : AM Γ mX12_fails 1 0 0 [vR 57] (85, σ) (0, 0) (85, τ) := by
  refine AM.of pl_X12 rfl wC_X12_fails (le45 rfl) hΓ ?_
  refine AW.to (ls'' := [some (vR 57)]) ?_ (lle_s rfl (lle_z))
  unfold X12_fails at h
  refine AW.aload_n (n := 1) (dat D_X12_fails 0 rfl) rfl rfl ?_
  refine AW.getI (n := 4) fX12_7 wF_X12_117 ly_57 (le45 rfl) rfl rfl (dat D_X12_fails 1 rfl) rfl ?_
  refine AW.iconst (n := 5) (dat D_X12_fails 2 rfl) rfl ?_
  refine AW.icmp_neH (t := 16) (n := 8) h (dat D_X12_fails 3 rfl) rfl rfl rfl (by decide) (fun h => ?_) (fun h => ?_)
  · refine AW.aload_n (n := 9) (dat D_X12_fails 4 rfl) rfl rfl ?_
    refine AW.aload_n (n := 10) (dat D_X12_fails 5 rfl) rfl rfl ?_
    refine AW.getI (n := 13) fX12_5 wF_X12_124 ly_57 (le45 rfl) rfl rfl (dat D_X12_fails 6 rfl) rfl ?_
    refine AW.putI (n := 16) fX12_7 wF_X12_117 ly_57 (le45 rfl) rfl rfl rfl (dat D_X12_fails 7 rfl) rfl ?_
    refine AW.ltS h (fun σ1 h => ?_)
    cases h
    exact AW.vret rfl rfl rfl (dat D_X12_fails 8 rfl)
  · cases h
    exact AW.vret rfl rfl rfl (dat D_X12_fails 8 rfl)
def L_X12_isSign : List (Nat × Instr × Nat) := [(0, .aload_n 0, 1), (1, .invokevirtual 127, 3), (4, .aload_n 0, 1), (5, .invokevirtual 130, 3), (8, .ifCond .ne 16, 3), (11, .aload_n 0, 1), (12, .iload_n 1, 1), (13, .iload_n 1, 1), (14, .invokevirtual 120, 3), (17, .ifCond .eq 7, 3), (20, .iconst 1, 1), (21, .goto 4, 3), (24, .iconst 0, 1), (25, .ireturn, 1)]
theorem D_X12_isSign : dOK cX12_isSign L_X12_isSign = true := by decide +kernel
theorem cf_X12_isSign : CFV mX12_isSign 1 := ⟨wI_X12_isSign, wS_X12_isSign, wN_WaveRightModel, wC_X12_isSign, rfl, ⟨by decide +kernel, by decide +kernel, by decide +kernel⟩, le45 rfl⟩
def X12_isSign (n : Nat) (a0 : Int) (σ : SG) : Option (Int × SG) :=
  (X12_blanks n σ).bind fun σ2 =>
  (X12_hasFailed n σ2).bind fun v4 =>
  if w32 v4 = 0 then
    (X12_isAt n a0 a0 σ2).bind fun v6 =>
    if w32 v6 = 0 then
      some ((0, σ2))
    else
      some ((1, σ2))
  else
    some ((0, σ2))
set_option maxHeartbeats 4000000 in
set_option maxRecDepth 100000 in
theorem A_X12_isSign {Γ : GA} (hΓ : (gl Γ).stackTraces = false) {n : Nat} {a0 : Int} {σ : SG} {r : Int} {τ : SG}  (h : X12_isSign n a0 σ = some (r, τ)) : AM Γ mX12_isSign 3 0 0 [vR 57, vI a0] (85, σ) (0, r) (85, τ) := by
  refine AM.of pl_X12 rfl wC_X12_isSign (le45 rfl) hΓ ?_
  refine AW.to (ls'' := [some (vR 57), some (vI a0)]) ?_ (lle_s rfl (lle_s rfl (lle_z)))
  unfold X12_isSign at h
  refine AW.aload_n (n := 1) (dat D_X12_isSign 0 rfl) rfl rfl ?_
  obtain ⟨σ2, hc1, h⟩ := ob_some h
  refine AW.cV (n := 4) (as := []) (st := []) (st' := []) (uc' := 0) (us' := 0) (A_X12_blanks hΓ hc1) cf_X12_blanks ly_57 (le45 rfl) vc_12 (le45 rfl) wM_X12_127 (le45 rfl) (le45 rfl) (dat D_X12_isSign 1 rfl) rfl rfl (le45 rfl) (le45 rfl) rfl (fun _ => ?_) nlt0
  refine AW.aload_n (n := 5) (dat D_X12_isSign 2 rfl) rfl rfl ?_
  obtain ⟨v4, hc3, h⟩ := ob_some h
  refine AW.cV (n := 8) (as := []) (st := []) (st' := [vI v4]) (uc' := 0) (us' := 0) (A_X12_hasFailed hΓ hc3) cf_X12_hasFailed ly_57 (le45 rfl) vc_12 (le45 rfl) wM_X12_130 (le45 rfl) (le45 rfl) (dat D_X12_isSign 3 rfl) rfl rfl (le45 rfl) (le45 rfl) rfl (fun _ => ?_) nlt0
  refine AW.if_neH (t := 24) (n := 11) h (dat D_X12_isSign 4 rfl) rfl rfl (fun h => ?_) (fun h => ?_)
  · refine AW.aload_n (n := 12) (dat D_X12_isSign 5 rfl) rfl rfl ?_
    refine AW.iload_n (n := 13) (dat D_X12_isSign 6 rfl) rfl rfl ?_
    refine AW.iload_n (n := 14) (dat D_X12_isSign 7 rfl) rfl rfl ?_
    obtain ⟨v6, hc5, h⟩ := ob_some h
    refine AW.cV (n := 17) (as := [vI a0, vI a0]) (st := []) (st' := [vI v6]) (uc' := 0) (us' := 0) (A_X12_isAt hΓ hc5) cf_X12_isAt ly_57 (le45 rfl) vc_12 (le45 rfl) wM_X12_120 (le45 rfl) (le45 rfl) (dat D_X12_isSign 8 rfl) rfl rfl (le45 rfl) (le45 rfl) rfl (fun _ => ?_) nlt0
    refine AW.if_eqH (t := 24) (n := 20) h (dat D_X12_isSign 9 rfl) rfl rfl (fun h => ?_) (fun h => ?_)
    · refine AW.iconst (n := 25) (dat D_X12_isSign 12 rfl) rfl ?_
      cases h
      exact AW.zret rfl (by decide) rfl rfl (dat D_X12_isSign 13 rfl)
    · refine AW.iconst (n := 21) (dat D_X12_isSign 10 rfl) rfl ?_
      refine AW.goto (t := 25) (dat D_X12_isSign 11 rfl) rfl ?_
      cases h
      exact AW.zret rfl (by decide) rfl rfl (dat D_X12_isSign 13 rfl)
  · refine AW.iconst (n := 25) (dat D_X12_isSign 12 rfl) rfl ?_
    cases h
    exact AW.zret rfl (by decide) rfl rfl (dat D_X12_isSign 13 rfl)
def L_X12_takes : List (Nat × Instr × Nat) := [(0, .aload_n 0, 1), (1, .iload_n 1, 1), (2, .invokevirtual 134, 3), (5, .istore_n 2, 1), (6, .iload_n 2, 1), (7, .ifCond .eq 13, 3), (10, .aload_n 0, 1), (11, .dup, 1), (12, .getfield 114, 3), (15, .iconst 1, 1), (16, .iadd, 1), (17, .putfield 114, 3), (20, .iload_n 2, 1), (21, .ireturn, 1)]
theorem D_X12_takes : dOK cX12_takes L_X12_takes = true := by decide +kernel
theorem cf_X12_takes : CFV mX12_takes 1 := ⟨wI_X12_takes, wS_X12_takes, wN_WaveRightModel, wC_X12_takes, rfl, ⟨by decide +kernel, by decide +kernel, by decide +kernel⟩, le45 rfl⟩
def X12_takes (n : Nat) (a0 : Int) (σ : SG) : Option (Int × SG) :=
  bnd2 (X12_isSign n a0 σ) fun v2 σ3 =>
  if w32 v2 = 0 then
    some ((wZ v2, σ3))
  else
    lt (up σ3 57 4 ((σ3 57 4) + 1)) fun σ4 =>
    some ((wZ v2, σ4))
set_option maxHeartbeats 4000000 in
set_option maxRecDepth 100000 in
theorem A_X12_takes {Γ : GA} (hΓ : (gl Γ).stackTraces = false) {n : Nat} {a0 : Int} {σ : SG} {r : Int} {τ : SG}  (h : X12_takes n a0 σ = some (r, τ)) : AM Γ mX12_takes 4 0 0 [vR 57, vI a0] (85, σ) (0, r) (85, τ) := by
  refine AM.of pl_X12 rfl wC_X12_takes (le45 rfl) hΓ ?_
  refine AW.to (ls'' := [some (vR 57), some (vI a0), none]) ?_ (lle_s rfl (lle_s rfl (lle_e (lle_z))))
  unfold X12_takes at h
  refine AW.aload_n (n := 1) (dat D_X12_takes 0 rfl) rfl rfl ?_
  refine AW.iload_n (n := 2) (dat D_X12_takes 1 rfl) rfl rfl ?_
  obtain ⟨v2, σ3, hc1, h⟩ := bnd2_some h
  refine AW.cV (n := 5) (as := [vI a0]) (st := []) (st' := [vI v2]) (uc' := 0) (us' := 0) (A_X12_isSign hΓ hc1) cf_X12_isSign ly_57 (le45 rfl) vc_12 (le45 rfl) wM_X12_134 (le45 rfl) (le45 rfl) (dat D_X12_takes 2 rfl) rfl rfl (le45 rfl) (le45 rfl) rfl (fun _ => ?_) nlt0
  refine AW.istore_n (n := 6) (ls' := [some (vR 57), some (vI a0), some (vI v2)]) (dat D_X12_takes 3 rfl) rfl (le45 rfl) (le45 rfl) rfl rfl ?_
  refine AW.iload_n (n := 7) (dat D_X12_takes 4 rfl) rfl rfl ?_
  refine AW.if_eqH (t := 20) (n := 10) h (dat D_X12_takes 5 rfl) rfl rfl (fun h => ?_) (fun h => ?_)
  · refine AW.iload_n (n := 21) (dat D_X12_takes 12 rfl) rfl rfl ?_
    cases h
    exact AW.zret rfl rfl rfl rfl (dat D_X12_takes 13 rfl)
  · refine AW.aload_n (n := 11) (dat D_X12_takes 6 rfl) rfl rfl ?_
    refine AW.dup (n := 12) (dat D_X12_takes 7 rfl) rfl (cR _) ?_
    refine AW.getI (n := 15) fX12_4 wF_X12_114 ly_57 (le45 rfl) rfl rfl (dat D_X12_takes 8 rfl) rfl ?_
    refine AW.iconst (n := 16) (dat D_X12_takes 9 rfl) rfl ?_
    refine AW.iadd (n := 17) (dat D_X12_takes 10 rfl) rfl ?_
    refine AW.putI (n := 20) fX12_4 wF_X12_114 ly_57 (le45 rfl) rfl rfl rfl (dat D_X12_takes 11 rfl) rfl ?_
    refine AW.ltS h (fun σ4 h => ?_)
    refine AW.iload_n (n := 21) (dat D_X12_takes 12 rfl) rfl rfl ?_
    cases h
    exact AW.zret rfl rfl rfl rfl (dat D_X12_takes 13 rfl)
def L_X12_asksSign : List (Nat × Instr × Nat) := [(0, .aload_n 0, 1), (1, .invokevirtual 130, 3), (4, .ifCond .ne 15, 3), (7, .aload_n 0, 1), (8, .iload_n 1, 1), (9, .invokevirtual 138, 3), (12, .ifCond .ne 7, 3), (15, .aload_n 0, 1), (16, .invokevirtual 141, 3), (19, .return_, 1)]
theorem D_X12_asksSign : dOK cX12_asksSign L_X12_asksSign = true := by decide +kernel
theorem cf_X12_asksSign : CFV mX12_asksSign 1 := ⟨wI_X12_asksSign, wS_X12_asksSign, wN_WaveRightModel, wC_X12_asksSign, rfl, ⟨by decide +kernel, by decide +kernel, by decide +kernel⟩, le45 rfl⟩
def X12_asksSign (n : Nat) (a0 : Int) (σ : SG) : Option (SG) :=
  (X12_hasFailed n σ).bind fun v2 =>
  if w32 v2 = 0 then
    bnd2 (X12_takes n a0 σ) fun v4 σ5 =>
    if w32 v4 = 0 then
      (X12_fails n σ5).bind fun σ7 =>
      some (σ7)
    else
      some (σ5)
  else
    some (σ)
set_option maxHeartbeats 4000000 in
set_option maxRecDepth 100000 in
theorem A_X12_asksSign {Γ : GA} (hΓ : (gl Γ).stackTraces = false) {n : Nat} {a0 : Int} {σ : SG} {τ : SG}  (h : X12_asksSign n a0 σ = some τ) : AM Γ mX12_asksSign 5 0 0 [vR 57, vI a0] (85, σ) (0, 0) (85, τ) := by
  refine AM.of pl_X12 rfl wC_X12_asksSign (le45 rfl) hΓ ?_
  refine AW.to (ls'' := [some (vR 57), some (vI a0)]) ?_ (lle_s rfl (lle_s rfl (lle_z)))
  unfold X12_asksSign at h
  refine AW.aload_n (n := 1) (dat D_X12_asksSign 0 rfl) rfl rfl ?_
  obtain ⟨v2, hc1, h⟩ := ob_some h
  refine AW.cV (n := 4) (as := []) (st := []) (st' := [vI v2]) (uc' := 0) (us' := 0) (A_X12_hasFailed hΓ hc1) cf_X12_hasFailed ly_57 (le45 rfl) vc_12 (le45 rfl) wM_X12_130 (le45 rfl) (le45 rfl) (dat D_X12_asksSign 1 rfl) rfl rfl (le45 rfl) (le45 rfl) rfl (fun _ => ?_) nlt0
  refine AW.if_neH (t := 19) (n := 7) h (dat D_X12_asksSign 2 rfl) rfl rfl (fun h => ?_) (fun h => ?_)
  · refine AW.aload_n (n := 8) (dat D_X12_asksSign 3 rfl) rfl rfl ?_
    refine AW.iload_n (n := 9) (dat D_X12_asksSign 4 rfl) rfl rfl ?_
    obtain ⟨v4, σ5, hc3, h⟩ := bnd2_some h
    refine AW.cV (n := 12) (as := [vI a0]) (st := []) (st' := [vI v4]) (uc' := 0) (us' := 0) (A_X12_takes hΓ hc3) cf_X12_takes ly_57 (le45 rfl) vc_12 (le45 rfl) wM_X12_138 (le45 rfl) (le45 rfl) (dat D_X12_asksSign 5 rfl) rfl rfl (le45 rfl) (le45 rfl) rfl (fun _ => ?_) nlt0
    refine AW.if_neH (t := 19) (n := 15) h (dat D_X12_asksSign 6 rfl) rfl rfl (fun h => ?_) (fun h => ?_)
    · refine AW.aload_n (n := 16) (dat D_X12_asksSign 7 rfl) rfl rfl ?_
      obtain ⟨σ7, hc6, h⟩ := ob_some h
      refine AW.cV (n := 19) (as := []) (st := []) (st' := []) (uc' := 0) (us' := 0) (A_X12_fails hΓ hc6) cf_X12_fails ly_57 (le45 rfl) vc_12 (le45 rfl) wM_X12_141 (le45 rfl) (le45 rfl) (dat D_X12_asksSign 8 rfl) rfl rfl (le45 rfl) (le45 rfl) rfl (fun _ => ?_) nlt0
      cases h
      exact AW.vret rfl rfl rfl (dat D_X12_asksSign 9 rfl)
    · cases h
      exact AW.vret rfl rfl rfl (dat D_X12_asksSign 9 rfl)
  · cases h
    exact AW.vret rfl rfl rfl (dat D_X12_asksSign 9 rfl)
