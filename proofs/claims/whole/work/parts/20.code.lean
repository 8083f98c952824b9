/-! ===== methods as functions, and their bytecode beside them (printed by wip/whole/gen/emit.py) ===== -/
def L_X10_append : List (Nat × Instr × Nat) := [(0, .bipush 24, 2), (2, .istore_n 2, 1), (3, .iload_n 2, 1), (4, .ifCond .lt 44, 3), (7, .aload_n 0, 1), (8, .getfield 15, 3), (11, .aload_n 0, 1), (12, .getfield 9, 3), (15, .arraylength, 1), (16, .if_icmp .ge 26, 3), (19, .aload_n 0, 1), (20, .getfield 9, 3), (23, .aload_n 0, 1), (24, .dup, 1), (25, .getfield 15, 3), (28, .dup_x1, 1), (29, .iconst 1, 1), (30, .iadd, 1), (31, .putfield 15, 3), (34, .iload_n 1, 1), (35, .iload_n 2, 1), (36, .iushr, 1), (37, .sipush 255, 3), (40, .iand, 1), (41, .iastore, 1), (42, .iinc 2 (-8), 3), (45, .goto (-42), 3), (48, .return_, 1)]
theorem D_X10_append : dOK cX10_append L_X10_append = true := by decide +kernel
theorem cf_X10_append : CFV mX10_append 1 := ⟨wI_X10_append, wS_X10_append, wN_WaveRight_Text, wC_X10_append, rfl, ⟨by decide +kernel, by decide +kernel, by decide +kernel⟩, le45 rfl⟩
def X10_append_e3 (n : Nat) (σ4 : SG) : Option (SG) :=
  some (σ4)
def X10_append_j42 (n : Nat) (z1 : Int) (σ5 : SG) : Option ((Int × SG) ⊕ (SG)) :=
  lt (z1 + (-8)) fun x7 =>
  some (.inl (x7, σ5))
def X10_append_l3 (n : Nat) (a0 : Int) (z1 : Int) (σ2 : SG) : Option ((Int × SG) ⊕ (SG)) :=
  if w32 z1 < 0 then
    some (.inr σ2)
  else
    ((if 400 ≤ w32 (σ2 15 1) then
      some (σ2)
    else
      lt (up σ2 15 1 ((σ2 15 1) + 1)) fun σ8 =>
      rdA 400 (σ2 15 1) fun j9 => lt (up σ8 16 j9 (bAnd (bUshr a0 z1) 255)) fun σ10 =>
      some (σ10)) : Option (SG)).bind (fun s => X10_append_j42 n z1 s)
def X10_append (n : Nat) (a0 : Int) (σ : SG) : Option (SG) :=
  ((iter n (fun s : Int × SG => X10_append_l3 n a0 s.1 s.2) (24, σ)) : Option (SG)).bind (fun s => X10_append_e3 n s)
set_option maxHeartbeats 4000000 in
set_option maxRecDepth 100000 in
theorem A_X10_append {Γ : GA} (hΓ : (gl Γ).stackTraces = false) {n : Nat} {a0 : Int} {σ : SG} {τ : SG}  (h : X10_append n a0 σ = some τ) : AM Γ mX10_append 1 0 0 [vR 15, vI a0] (85, σ) (0, 0) (85, τ) := by
  refine AM.of pl_X10 rfl wC_X10_append (le45 rfl) hΓ ?_
  refine AW.to (ls'' := [some (vR 15), some (vI a0), none]) ?_ (lle_s rfl (lle_s rfl (lle_e (lle_z))))
  unfold X10_append at h
  refine AW.bipush (n := 2) (dat D_X10_append 0 rfl) rfl (by decide) ?_
  refine AW.istore_n (n := 3) (ls' := [some (vR 15), some (vI a0), some (vI 24)]) (dat D_X10_append 1 rfl) rfl (le45 rfl) (le45 rfl) rfl rfl ?_
  obtain ⟨b3, hi3, hq3⟩ := ob_some h
  obtain ⟨σ4, e3⟩ : ∃ z, z = b3 := ⟨_, rfl⟩
  subst e3
  have hR3 : AW Γ mX10_append 1 (0, 0) (85, τ) 0 0 48 [none, none, none] [] (85, σ4) := by
    have h : X10_append_e3 n σ4 = some _ := hq3
    unfold X10_append_e3 at h
    cases h
    exact AW.vret rfl rfl rfl (dat D_X10_append 27 rfl)
  refine AW.to (ls'' := [some (vR 15), some (vI a0), some (vI 24)]) ?_ (lle_s rfl (lle_s rfl (lle_s rfl (lle_z))))
  refine aw_iter (fun s : Int × SG => AW Γ mX10_append 1 (0, 0) (85, τ) 0 0 3 [some (vR 15), some (vI a0), some (vI (s.1))] [] (85, s.2)) (fun s y h hk3 hb3 => ?_) _ _ hi3
  obtain ⟨z1, σ2⟩ := s
  show AW Γ mX10_append 1 (0, 0) (85, τ) 0 0 3 [some (vR 15), some (vI a0), some (vI z1)] [] (85, σ2)
  have h : X10_append_l3 n a0 z1 σ2 = some y := h
  unfold X10_append_l3 at h
  refine AW.iload_n (n := 4) (dat D_X10_append 2 rfl) rfl rfl ?_
  refine AW.if_ltH (t := 48) (n := 7) h (dat D_X10_append 3 rfl) rfl rfl (fun h => ?_) (fun h => ?_)
  · cases h
    have hb := hb3 _ rfl
    cases hb
    exact AW.to hR3 (lle_n (lle_n (lle_n (lle_z))))
  · refine AW.aload_n (n := 8) (dat D_X10_append 4 rfl) rfl rfl ?_
    refine AW.getI (n := 11) fX10_1 wF_X10_15 ly_15 (le45 rfl) rfl rfl (dat D_X10_append 5 rfl) rfl ?_
    refine AW.aload_n (n := 12) (dat D_X10_append 6 rfl) rfl rfl ?_
    refine AW.getR (n := 15) (t := 16) fX10_0 wF_X10_9 ly_15 (le45 rfl) rfl (dat D_X10_append 7 rfl) rfl ?_
    refine AW.alen20 (n := 16) (x := 400) ly_16 (le45 rfl) rfl (dat D_X10_append 8 rfl) rfl ?_
    obtain ⟨s6, h, hq6⟩ := ob_some h
    obtain ⟨σ5, e6⟩ : ∃ z, z = s6 := ⟨_, rfl⟩
    subst e6
    have hJ6 : AW Γ mX10_append 1 (0, 0) (85, τ) 0 0 42 [some (vR 15), some (vI a0), some (vI z1)] [] (85, σ5) := by
      have h : X10_append_j42 n z1 σ5 = some _ := hq6
      unfold X10_append_j42 at h
      refine AW.iincH h (n := 45) (dat D_X10_append 25 rfl) rfl rfl (le45 rfl) rfl (fun x7 h => ?_)
      refine AW.lq (ls' := [some (vR 15), some (vI a0), some (vI x7)]) rfl ?_
      refine AW.goto (t := 3) (dat D_X10_append 26 rfl) rfl ?_
      cases h
      exact AW.to (hk3 _ rfl) (lle_s rfl (lle_s rfl (lle_s rfl (lle_z))))
    refine AW.icmp_geH (t := 42) (n := 19) h (dat D_X10_append 9 rfl) rfl rfl rfl (by decide) (fun h => ?_) (fun h => ?_)
    · cases h
      exact AW.to hJ6 (lle_s rfl (lle_s rfl (lle_s rfl (lle_z))))
    · refine AW.aload_n (n := 20) (dat D_X10_append 10 rfl) rfl rfl ?_
      refine AW.getR (n := 23) (t := 16) fX10_0 wF_X10_9 ly_15 (le45 rfl) rfl (dat D_X10_append 11 rfl) rfl ?_
      refine AW.aload_n (n := 24) (dat D_X10_append 12 rfl) rfl rfl ?_
      refine AW.dup (n := 25) (dat D_X10_append 13 rfl) rfl (cR _) ?_
      refine AW.getI (n := 28) fX10_1 wF_X10_15 ly_15 (le45 rfl) rfl rfl (dat D_X10_append 14 rfl) rfl ?_
      refine AW.dup_x1 (n := 29) (dat D_X10_append 15 rfl) rfl (cI _) (cR _) ?_
      refine AW.iconst (n := 30) (dat D_X10_append 16 rfl) rfl ?_
      refine AW.iadd (n := 31) (dat D_X10_append 17 rfl) rfl ?_
      refine AW.putI (n := 34) fX10_1 wF_X10_15 ly_15 (le45 rfl) rfl rfl rfl (dat D_X10_append 18 rfl) rfl ?_
      refine AW.ltS h (fun σ8 h => ?_)
      refine AW.iload_n (n := 35) (dat D_X10_append 19 rfl) rfl rfl ?_
      refine AW.iload_n (n := 36) (dat D_X10_append 20 rfl) rfl rfl ?_
      refine AW.iushr (n := 37) (dat D_X10_append 21 rfl) rfl ?_
      refine AW.sipush (n := 40) (dat D_X10_append 22 rfl) rfl (by decide) ?_
      refine AW.iand (n := 41) (dat D_X10_append 23 rfl) rfl ?_
      refine AW.iastH h (n := 42) rfl ly_16 (le45 rfl) (dat D_X10_append 24 rfl) rfl (fun j9 h => ?_)
      refine AW.ltS h (fun σ10 h => ?_)
      cases h
      exact AW.to hJ6 (lle_s rfl (lle_s rfl (lle_s rfl (lle_z))))
def L_X11_feed : List (Nat × Instr × Nat) := [(0, .aload_n 0, 1), (1, .getfield 26, 3), (4, .getfield 84, 3), (7, .bipush 20, 2), (9, .iadd, 1), (10, .sipush 400, 3), (13, .if_icmp .le 5, 3), (16, .iconst (-1), 1), (17, .ireturn, 1), (18, .aload_n 0, 1), (19, .getfield 26, 3), (22, .iload_n 1, 1), (23, .invokevirtual 87, 3), (26, .aload_n 0, 1), (27, .getfield 26, 3), (30, .iload_n 2, 1), (31, .invokevirtual 87, 3), (34, .aload_n 0, 1), (35, .getfield 26, 3), (38, .iload_n 3, 1), (39, .invokevirtual 87, 3), (42, .aload_n 0, 1), (43, .getfield 26, 3), (46, .iload 4, 2), (48, .invokevirtual 87, 3), (51, .aload_n 0, 1), (52, .getfield 26, 3), (55, .iload 5, 2), (57, .invokevirtual 87, 3), (60, .aload_n 0, 1), (61, .getfield 26, 3), (64, .getfield 84, 3), (67, .ireturn, 1)]
theorem D_X11_feed : dOK cX11_feed L_X11_feed = true := by decide +kernel
theorem cf_X11_feed : CFV mX11_feed 5 := ⟨wI_X11_feed, wS_X11_feed, wN_WaveRight, wC_X11_feed, rfl, ⟨by decide +kernel, by decide +kernel, by decide +kernel⟩, le45 rfl⟩
def X11_feed (n : Nat) (a0 : Int) (a1 : Int) (a2 : Int) (a3 : Int) (a4 : Int) (σ : SG) : Option (Int × SG) :=
  if w32 ((σ 15 1) + 20) ≤ 400 then
    (X10_append n a0 σ).bind fun σ2 =>
    (X10_append n a1 σ2).bind fun σ4 =>
    (X10_append n a2 σ4).bind fun σ6 =>
    (X10_append n a3 σ6).bind fun σ8 =>
    (X10_append n a4 σ8).bind fun σ10 =>
    some (((σ10 15 1), σ10))
  else
    some (((-1), σ))
set_option maxHeartbeats 4000000 in
set_option maxRecDepth 100000 in
theorem A_X11_feed {Γ : GA} (hΓ : (gl Γ).stackTraces = false) {n : Nat} {a0 : Int} {a1 : Int} {a2 : Int} {a3 : Int} {a4 : Int} {σ : SG} {r : Int} {τ : SG}  (h : X11_feed n a0 a1 a2 a3 a4 σ = some (r, τ)) : AM Γ mX11_feed 2 0 0 [vR 0, vI a0, vI a1, vI a2, vI a3, vI a4] (85, σ) (0, r) (85, τ) := by
  refine AM.of pl_X11 rfl wC_X11_feed (le45 rfl) hΓ ?_
  refine AW.to (ls'' := [some (vR 0), some (vI a0), some (vI a1), some (vI a2), some (vI a3), some (vI a4)]) ?_ (lle_s rfl (lle_s rfl (lle_s rfl (lle_s rfl (lle_s rfl (lle_s rfl (lle_z)))))))
  unfold X11_feed at h
  refine AW.aload_n (n := 1) (dat D_X11_feed 0 rfl) rfl rfl ?_
  refine AW.getR (n := 4) (t := 15) fX11_2 wF_X11_26 ly_0 (le45 rfl) rfl (dat D_X11_feed 1 rfl) rfl ?_
  refine AW.getI (n := 7) fX10_1 wF_X11_84 ly_15 (le45 rfl) rfl rfl (dat D_X11_feed 2 rfl) rfl ?_
  refine AW.bipush (n := 9) (dat D_X11_feed 3 rfl) rfl (by decide) ?_
  refine AW.iadd (n := 10) (dat D_X11_feed 4 rfl) rfl ?_
  refine AW.sipush (n := 13) (dat D_X11_feed 5 rfl) rfl (by decide) ?_
  refine AW.icmp_leH (t := 18) (n := 16) h (dat D_X11_feed 6 rfl) rfl rfl rfl (by decide) (fun h => ?_) (fun h => ?_)
  · refine AW.aload_n (n := 19) (dat D_X11_feed 9 rfl) rfl rfl ?_
    refine AW.getR (n := 22) (t := 15) fX11_2 wF_X11_26 ly_0 (le45 rfl) rfl (dat D_X11_feed 10 rfl) rfl ?_
    refine AW.iload_n (n := 23) (dat D_X11_feed 11 rfl) rfl rfl ?_
    obtain ⟨σ2, hc1, h⟩ := ob_some h
    refine AW.cV (n := 26) (as := [vI a0]) (st := []) (st' := []) (uc' := 0) (us' := 0) (A_X10_append hΓ hc1) cf_X10_append ly_15 (le45 rfl) vc_10 (le45 rfl) wM_X11_87 (le45 rfl) (le45 rfl) (dat D_X11_feed 12 rfl) rfl rfl (le45 rfl) (le45 rfl) rfl (fun _ => ?_) nlt0
    refine AW.aload_n (n := 27) (dat D_X11_feed 13 rfl) rfl rfl ?_
    refine AW.getR (n := 30) (t := 15) fX11_2 wF_X11_26 ly_0 (le45 rfl) rfl (dat D_X11_feed 14 rfl) rfl ?_
    refine AW.iload_n (n := 31) (dat D_X11_feed 15 rfl) rfl rfl ?_
    obtain ⟨σ4, hc3, h⟩ := ob_some h
    refine AW.cV (n := 34) (as := [vI a1]) (st := []) (st' := []) (uc' := 0) (us' := 0) (A_X10_append hΓ hc3) cf_X10_append ly_15 (le45 rfl) vc_10 (le45 rfl) wM_X11_87 (le45 rfl) (le45 rfl) (dat D_X11_feed 16 rfl) rfl rfl (le45 rfl) (le45 rfl) rfl (fun _ => ?_) nlt0
    refine AW.aload_n (n := 35) (dat D_X11_feed 17 rfl) rfl rfl ?_
    refine AW.getR (n := 38) (t := 15) fX11_2 wF_X11_26 ly_0 (le45 rfl) rfl (dat D_X11_feed 18 rfl) rfl ?_
    refine AW.iload_n (n := 39) (dat D_X11_feed 19 rfl) rfl rfl ?_
    obtain ⟨σ6, hc5, h⟩ := ob_some h
    refine AW.cV (n := 42) (as := [vI a2]) (st := []) (st' := []) (uc' := 0) (us' := 0) (A_X10_append hΓ hc5) cf_X10_append ly_15 (le45 rfl) vc_10 (le45 rfl) wM_X11_87 (le45 rfl) (le45 rfl) (dat D_X11_feed 20 rfl) rfl rfl (le45 rfl) (le45 rfl) rfl (fun _ => ?_) nlt0
    refine AW.aload_n (n := 43) (dat D_X11_feed 21 rfl) rfl rfl ?_
    refine AW.getR (n := 46) (t := 15) fX11_2 wF_X11_26 ly_0 (le45 rfl) rfl (dat D_X11_feed 22 rfl) rfl ?_
    refine AW.iload (n := 48) (dat D_X11_feed 23 rfl) rfl rfl ?_
    obtain ⟨σ8, hc7, h⟩ := ob_some h
    refine AW.cV (n := 51) (as := [vI a3]) (st := []) (st' := []) (uc' := 0) (us' := 0) (A_X10_append hΓ hc7) cf_X10_append ly_15 (le45 rfl) vc_10 (le45 rfl) wM_X11_87 (le45 rfl) (le45 rfl) (dat D_X11_feed 24 rfl) rfl rfl (le45 rfl) (le45 rfl) rfl (fun _ => ?_) nlt0
    refine AW.aload_n (n := 52) (dat D_X11_feed 25 rfl) rfl rfl ?_
    refine AW.getR (n := 55) (t := 15) fX11_2 wF_X11_26 ly_0 (le45 rfl) rfl (dat D_X11_feed 26 rfl) rfl ?_
    refine AW.iload (n := 57) (dat D_X11_feed 27 rfl) rfl rfl ?_
    obtain ⟨σ10, hc9, h⟩ := ob_some h
    refine AW.cV (n := 60) (as := [vI a4]) (st := []) (st' := []) (uc' := 0) (us' := 0) (A_X10_append hΓ hc9) cf_X10_append ly_15 (le45 rfl) vc_10 (le45 rfl) wM_X11_87 (le45 rfl) (le45 rfl) (dat D_X11_feed 28 rfl) rfl rfl (le45 rfl) (le45 rfl) rfl (fun _ => ?_) nlt0
    refine AW.aload_n (n := 61) (dat D_X11_feed 29 rfl) rfl rfl ?_
    refine AW.getR (n := 64) (t := 15) fX11_2 wF_X11_26 ly_0 (le45 rfl) rfl (dat D_X11_feed 30 rfl) rfl ?_
    refine AW.getI (n := 67) fX10_1 wF_X11_84 ly_15 (le45 rfl) rfl rfl (dat D_X11_feed 31 rfl) rfl ?_
    cases h
    exact AW.iret rfl rfl rfl (dat D_X11_feed 32 rfl)
  · refine AW.iconst (n := 17) (dat D_X11_feed 7 rfl) rfl ?_
    cases h
    exact AW.iret rfl rfl rfl (dat D_X11_feed 8 rfl)
def L_X11_end : List (Nat × Instr × Nat) := [(0, .iload_n 1, 1), (1, .ifCond .lt 14, 3), (4, .iload_n 1, 1), (5, .aload_n 0, 1), (6, .getfield 26, 3), (9, .getfield 84, 3), (12, .if_icmp .le 5, 3), (15, .iconst 0, 1), (16, .ireturn, 1), (17, .aload_n 0, 1), (18, .getfield 26, 3), (21, .iload_n 1, 1), (22, .putfield 84, 3), (25, .iconst 1, 1), (26, .ireturn, 1)]
theorem D_X11_end : dOK cX11_end L_X11_end = true := by decide +kernel
theorem cf_X11_end : CFV mX11_end 1 := ⟨wI_X11_end, wS_X11_end, wN_WaveRight, wC_X11_end, rfl, ⟨by decide +kernel, by decide +kernel, by decide +kernel⟩, le45 rfl⟩
def X11_end (n : Nat) (a0 : Int) (σ : SG) : Option (Int × SG) :=
  if w32 a0 < 0 then
    some ((0, σ))
  else
    if w32 a0 ≤ w32 (σ 15 1) then
      lt (up σ 15 1 a0) fun σ1 =>
      some ((1, σ1))
    else
      some ((0, σ))
set_option maxHeartbeats 4000000 in
set_option maxRecDepth 100000 in
theorem A_X11_end {Γ : GA} (hΓ : (gl Γ).stackTraces = false) {n : Nat} {a0 : Int} {σ : SG} {r : Int} {τ : SG}  (h : X11_end n a0 σ = some (r, τ)) : AM Γ mX11_end 1 0 0 [vR 0, vI a0] (85, σ) (0, r) (85, τ) := by
  refine AM.of pl_X11 rfl wC_X11_end (le45 rfl) hΓ ?_
  refine AW.to (ls'' := [some (vR 0), some (vI a0)]) ?_ (lle_s rfl (lle_s rfl (lle_z)))
  unfold X11_end at h
  refine AW.iload_n (n := 1) (dat D_X11_end 0 rfl) rfl rfl ?_
  refine AW.if_ltH (t := 15) (n := 4) h (dat D_X11_end 1 rfl) rfl rfl (fun h => ?_) (fun h => ?_)
  · refine AW.iconst (n := 16) (dat D_X11_end 7 rfl) rfl ?_
    cases h
    exact AW.zret rfl (by decide) rfl rfl (dat D_X11_end 8 rfl)
  · refine AW.iload_n (n := 5) (dat D_X11_end 2 rfl) rfl rfl ?_
    refine AW.aload_n (n := 6) (dat D_X11_end 3 rfl) rfl rfl ?_
    refine AW.getR (n := 9) (t := 15) fX11_2 wF_X11_26 ly_0 (le45 rfl) rfl (dat D_X11_end 4 rfl) rfl ?_
    refine AW.getI (n := 12) fX10_1 wF_X11_84 ly_15 (le45 rfl) rfl rfl (dat D_X11_end 5 rfl) rfl ?_
    refine AW.icmp_leH (t := 17) (n := 15) h (dat D_X11_end 6 rfl) rfl rfl rfl rfl (fun h => ?_) (fun h => ?_)
    · refine AW.aload_n (n := 18) (dat D_X11_end 9 rfl) rfl rfl ?_
      refine AW.getR (n := 21) (t := 15) fX11_2 wF_X11_26 ly_0 (le45 rfl) rfl (dat D_X11_end 10 rfl) rfl ?_
      refine AW.iload_n (n := 22) (dat D_X11_end 11 rfl) rfl rfl ?_
      refine AW.putI (n := 25) fX10_1 wF_X11_84 ly_15 (le45 rfl) rfl rfl rfl (dat D_X11_end 12 rfl) rfl ?_
      refine AW.ltS h (fun σ1 h => ?_)
      refine AW.iconst (n := 26) (dat D_X11_end 13 rfl) rfl ?_
      cases h
      exact AW.zret rfl (by decide) rfl rfl (dat D_X11_end 14 rfl)
    · refine AW.iconst (n := 16) (dat D_X11_end 7 rfl) rfl ?_
      cases h
      exact AW.zret rfl (by decide) rfl rfl (dat D_X11_end 8 rfl)
def L_X5_clear : List (Nat × Instr × Nat) := [(0, .aload_n 0, 1), (1, .iconst 0, 1), (2, .putfield 15, 3), (5, .aload_n 0, 1), (6, .iconst 0, 1), (7, .putfield 19, 3), (10, .return_, 1)]
theorem D_X5_clear : dOK cX5_clear L_X5_clear = true := by decide +kernel
theorem cf_X5_clear : CFV mX5_clear 0 := ⟨wI_X5_clear, wS_X5_clear, wN_WaveRight_Row, wC_X5_clear, rfl, ⟨by decide +kernel, by decide +kernel, by decide +kernel⟩, le45 rfl⟩
def X5_clear (n : Nat) (σ : SG) : Option (SG) :=
  lt (up σ 35 1 0) fun σ1 =>
  lt (up σ1 35 2 0) fun σ2 =>
  some (σ2)
set_option maxHeartbeats 4000000 in
set_option maxRecDepth 100000 in
theorem A_X5_clear {Γ : GA} (hΓ : (gl Γ).stackTraces = false) {n : Nat} {σ : SG} {τ : SG}  (h : X5_clear n σ = some τ) : AM Γ mX5_clear 1 0 0 [vR 35] (85, σ) (0, 0) (85, τ) := by
  refine AM.of pl_X5 rfl wC_X5_clear (le45 rfl) hΓ ?_
  refine AW.to (ls'' := [some (vR 35)]) ?_ (lle_s rfl (lle_z))
  unfold X5_clear at h
  refine AW.aload_n (n := 1) (dat D_X5_clear 0 rfl) rfl rfl ?_
  refine AW.iconst (n := 2) (dat D_X5_clear 1 rfl) rfl ?_
  refine AW.putI (n := 5) fX5_1 wF_X5_15 ly_35 (le45 rfl) rfl rfl rfl (dat D_X5_clear 2 rfl) rfl ?_
  refine AW.ltS h (fun σ1 h => ?_)
  refine AW.aload_n (n := 6) (dat D_X5_clear 3 rfl) rfl rfl ?_
  refine AW.iconst (n := 7) (dat D_X5_clear 4 rfl) rfl ?_
  refine AW.putZ (n := 10) (Or.inl rfl) fX5_2 wF_X5_19 ly_35 (le45 rfl) rfl rfl rfl (dat D_X5_clear 5 rfl) rfl ?_
  refine AW.ltS h (fun σ2 h => ?_)
  cases h
  exact AW.vret rfl rfl rfl (dat D_X5_clear 6 rfl)
def L_X9_begin : List (Nat × Instr × Nat) := [(0, .aload_n 0, 1), (1, .iload_n 1, 1), (2, .putfield 25, 3), (5, .aload_n 0, 1), (6, .iload_n 1, 1), (7, .putfield 28, 3), (10, .aload_n 0, 1), (11, .iload_n 2, 1), (12, .putfield 15, 3), (15, .aload_n 0, 1), (16, .iconst 1, 1), (17, .putfield 31, 3), (20, .aload_n 0, 1), (21, .iconst 0, 1), (22, .putfield 35, 3), (25, .aload_n 0, 1), (26, .iconst (-1), 1), (27, .putfield 19, 3), (30, .aload_n 0, 1), (31, .iconst 0, 1), (32, .putfield 38, 3), (35, .aload_n 0, 1), (36, .iconst 0, 1), (37, .putfield 41, 3), (40, .aload_n 0, 1), (41, .iconst 0, 1), (42, .putfield 44, 3), (45, .aload_n 0, 1), (46, .iconst 0, 1), (47, .putfield 47, 3), (50, .return_, 1)]
theorem D_X9_begin : dOK cX9_begin L_X9_begin = true := by decide +kernel
theorem cf_X9_begin : CFV mX9_begin 2 := ⟨wI_X9_begin, wS_X9_begin, wN_WaveRight_Swimmer, wC_X9_begin, rfl, ⟨by decide +kernel, by decide +kernel, by decide +kernel⟩, le45 rfl⟩
def X9_begin (n : Nat) (k : Nat) (a0 : Int) (a1 : Int) (σ : SG) : Option (SG) :=
  lt (up σ k 3 a0) fun σ1 =>
  lt (up σ1 k 4 a0) fun σ2 =>
  lt (up σ2 k 5 a1) fun σ3 =>
  lt (up σ3 k 6 1) fun σ4 =>
  lt (up σ4 k 7 0) fun σ5 =>
  lt (up σ5 k 8 (-1)) fun σ6 =>
  lt (up σ6 k 9 0) fun σ7 =>
  lt (up σ7 k 2 0) fun σ8 =>
  lt (up σ8 k 10 0) fun σ9 =>
  lt (up σ9 k 11 0) fun σ10 =>
  some (σ10)
set_option maxHeartbeats 4000000 in
set_option maxRecDepth 100000 in
theorem A_X9_begin {Γ : GA} (hΓ : (gl Γ).stackTraces = false) {n : Nat} {k : Nat} {a0 : Int} {a1 : Int} {σ : SG} {τ : SG} (hpk : isSw k = true) (h : X9_begin n k a0 a1 σ = some τ) : AM Γ mX9_begin 1 0 0 [vR k, vI a0, vI a1] (85, σ) (0, 0) (85, τ) := by
  refine AM.of pl_X9 rfl wC_X9_begin (le45 rfl) hΓ ?_
  refine AW.to (ls'' := [some (vR k), some (vI a0), some (vI a1)]) ?_ (lle_s rfl (lle_s rfl (lle_s rfl (lle_z))))
  unfold X9_begin at h
  refine AW.aload_n (n := 1) (dat D_X9_begin 0 rfl) rfl rfl ?_
  refine AW.iload_n (n := 2) (dat D_X9_begin 1 rfl) rfl rfl ?_
  refine AW.putI (n := 5) fX9_3 wF_X9_25 (isSw_ly0 hpk) (by have := isSw_lt hpk; omega) rfl rfl rfl (dat D_X9_begin 2 rfl) rfl ?_
  refine AW.ltS h (fun σ1 h => ?_)
  refine AW.aload_n (n := 6) (dat D_X9_begin 3 rfl) rfl rfl ?_
  refine AW.iload_n (n := 7) (dat D_X9_begin 4 rfl) rfl rfl ?_
  refine AW.putI (n := 10) fX9_4 wF_X9_28 (isSw_ly0 hpk) (by have := isSw_lt hpk; omega) rfl rfl rfl (dat D_X9_begin 5 rfl) rfl ?_
  refine AW.ltS h (fun σ2 h => ?_)
  refine AW.aload_n (n := 11) (dat D_X9_begin 6 rfl) rfl rfl ?_
  refine AW.iload_n (n := 12) (dat D_X9_begin 7 rfl) rfl rfl ?_
  refine AW.putI (n := 15) fX9_5 wF_X9_15 (isSw_ly0 hpk) (by have := isSw_lt hpk; omega) rfl rfl rfl (dat D_X9_begin 8 rfl) rfl ?_
  refine AW.ltS h (fun σ3 h => ?_)
  refine AW.aload_n (n := 16) (dat D_X9_begin 9 rfl) rfl rfl ?_
  refine AW.iconst (n := 17) (dat D_X9_begin 10 rfl) rfl ?_
  refine AW.putZ (n := 20) (Or.inr rfl) fX9_6 wF_X9_31 (isSw_ly0 hpk) (by have := isSw_lt hpk; omega) rfl rfl rfl (dat D_X9_begin 11 rfl) rfl ?_
  refine AW.ltS h (fun σ4 h => ?_)
  refine AW.aload_n (n := 21) (dat D_X9_begin 12 rfl) rfl rfl ?_
  refine AW.iconst (n := 22) (dat D_X9_begin 13 rfl) rfl ?_
  refine AW.putZ (n := 25) (Or.inl rfl) fX9_7 wF_X9_35 (isSw_ly0 hpk) (by have := isSw_lt hpk; omega) rfl rfl rfl (dat D_X9_begin 14 rfl) rfl ?_
  refine AW.ltS h (fun σ5 h => ?_)
  refine AW.aload_n (n := 26) (dat D_X9_begin 15 rfl) rfl rfl ?_
  refine AW.iconst (n := 27) (dat D_X9_begin 16 rfl) rfl ?_
  refine AW.putI (n := 30) fX9_8 wF_X9_19 (isSw_ly0 hpk) (by have := isSw_lt hpk; omega) rfl rfl rfl (dat D_X9_begin 17 rfl) rfl ?_
  refine AW.ltS h (fun σ6 h => ?_)
  refine AW.aload_n (n := 31) (dat D_X9_begin 18 rfl) rfl rfl ?_
  refine AW.iconst (n := 32) (dat D_X9_begin 19 rfl) rfl ?_
  refine AW.putI (n := 35) fX9_9 wF_X9_38 (isSw_ly0 hpk) (by have := isSw_lt hpk; omega) rfl rfl rfl (dat D_X9_begin 20 rfl) rfl ?_
  refine AW.ltS h (fun σ7 h => ?_)
  refine AW.aload_n (n := 36) (dat D_X9_begin 21 rfl) rfl rfl ?_
  refine AW.iconst (n := 37) (dat D_X9_begin 22 rfl) rfl ?_
  refine AW.putI (n := 40) fX9_2 wF_X9_41 (isSw_ly0 hpk) (by have := isSw_lt hpk; omega) rfl rfl rfl (dat D_X9_begin 23 rfl) rfl ?_
  refine AW.ltS h (fun σ8 h => ?_)
  refine AW.aload_n (n := 41) (dat D_X9_begin 24 rfl) rfl rfl ?_
  refine AW.iconst (n := 42) (dat D_X9_begin 25 rfl) rfl ?_
  refine AW.putI (n := 45) fX9_10 wF_X9_44 (isSw_ly0 hpk) (by have := isSw_lt hpk; omega) rfl rfl rfl (dat D_X9_begin 26 rfl) rfl ?_
  refine AW.ltS h (fun σ9 h => ?_)
  refine AW.aload_n (n := 46) (dat D_X9_begin 27 rfl) rfl rfl ?_
  refine AW.iconst (n := 47) (dat D_X9_begin 28 rfl) rfl ?_
  refine AW.putI (n := 50) fX9_11 wF_X9_47 (isSw_ly0 hpk) (by have := isSw_lt hpk; omega) rfl rfl rfl (dat D_X9_begin 29 rfl) rfl ?_
  refine AW.ltS h (fun σ10 h => ?_)
  cases h
  exact AW.vret rfl rfl rfl (dat D_X9_begin 30 rfl)
def L_X1_begin : List (Nat × Instr × Nat) := [(0, .iconst 0, 1), (1, .istore_n 1, 1), (2, .iload_n 1, 1), (3, .aload_n 0, 1), (4, .getfield 12, 3), (7, .getfield 56, 3), (10, .if_icmp .ge 36, 3), (13, .aload_n 0, 1), (14, .getfield 27, 3), (17, .iload_n 1, 1), (18, .aaload, 1), (19, .aload_n 0, 1), (20, .getfield 12, 3), (23, .getfield 59, 3), (26, .iload_n 1, 1), (27, .iaload, 1), (28, .aload_n 0, 1), (29, .getfield 12, 3), (32, .getfield 62, 3), (35, .iload_n 1, 1), (36, .iaload, 1), (37, .invokevirtual 65, 3), (40, .iinc 1 1, 3), (43, .goto (-41), 3), (46, .aload_n 0, 1), (47, .getfield 34, 3), (50, .invokevirtual 69, 3), (53, .aload_n 0, 1), (54, .iconst 0, 1), (55, .putfield 72, 3), (58, .aload_n 0, 1), (59, .iconst 0, 1), (60, .putfield 75, 3), (63, .aload_n 0, 1), (64, .iconst 0, 1), (65, .putfield 78, 3), (68, .aload_n 0, 1), (69, .iconst 0, 1), (70, .putfield 81, 3), (73, .aload_n 0, 1), (74, .iconst 0, 1), (75, .putfield 84, 3), (78, .aload_n 0, 1), (79, .iconst 0, 1), (80, .putfield 87, 3), (83, .aload_n 0, 1), (84, .iconst 0, 1), (85, .putfield 90, 3), (88, .aload_n 0, 1), (89, .iconst (-1), 1), (90, .putfield 45, 3), (93, .aload_n 0, 1), (94, .iconst 0, 1), (95, .putfield 49, 3), (98, .aload_n 0, 1), (99, .iconst 0, 1), (100, .putfield 93, 3), (103, .return_, 1)]
theorem D_X1_begin : dOK cX1_begin L_X1_begin = true := by decide +kernel
theorem cf_X1_begin : CFV mX1_begin 0 := ⟨wI_X1_begin, wS_X1_begin, wN_WaveRight_Heat, wC_X1_begin, rfl, ⟨by decide +kernel, by decide +kernel, by decide +kernel⟩, le45 rfl⟩
def X1_begin_e2 (n : Nat) (σ4 : SG) : Option (SG) :=
  (X5_clear n σ4).bind fun σ6 =>
  lt (up σ6 19 6 0) fun σ7 =>
  lt (up σ7 19 7 0) fun σ8 =>
  lt (up σ8 19 8 0) fun σ9 =>
  lt (up σ9 19 9 0) fun σ10 =>
  lt (up σ10 19 10 0) fun σ11 =>
  lt (up σ11 19 11 0) fun σ12 =>
  lt (up σ12 19 12 0) fun σ13 =>
  lt (up σ13 19 13 (-1)) fun σ14 =>
  lt (up σ14 19 14 0) fun σ15 =>
  lt (up σ15 19 15 0) fun σ16 =>
  some (σ16)
def X1_begin_l2 (n : Nat) (z1 : Int) (σ2 : SG) : Option ((Int × SG) ⊕ (SG)) :=
  ckR isSea (σ2 19 0) fun k17 =>
  if w32 (σ2 k17 5) ≤ w32 z1 then
    some (.inr σ2)
  else
    rdA 5 z1 fun j18 => ckR isSw (σ2 34 j18) fun k19 =>
    ckR isSea (σ2 19 0) fun k20 =>
    rdA 5 z1 fun j21 =>
    ckR isSea (σ2 19 0) fun k22 =>
    rdA 5 z1 fun j23 =>
    (X9_begin n k19 (σ2 (k20 + 3) j21) (σ2 (k22 + 4) j23) σ2).bind fun σ25 =>
    lt (z1 + 1) fun x26 =>
    some (.inl (x26, σ25))
def X1_begin (n : Nat) (σ : SG) : Option (SG) :=
  ((iter n (fun s : Int × SG => X1_begin_l2 n s.1 s.2) (0, σ)) : Option (SG)).bind (fun s => X1_begin_e2 n s)
set_option maxHeartbeats 4000000 in
set_option maxRecDepth 100000 in
theorem A_X1_begin {Γ : GA} (hΓ : (gl Γ).stackTraces = false) {n : Nat} {σ : SG} {τ : SG}  (h : X1_begin n σ = some τ) : AM Γ mX1_begin 2 0 0 [vR 19] (85, σ) (0, 0) (85, τ) := by
  refine AM.of pl_X1 rfl wC_X1_begin (le45 rfl) hΓ ?_
  refine AW.to (ls'' := [some (vR 19), none]) ?_ (lle_s rfl (lle_e (lle_z)))
  unfold X1_begin at h
  refine AW.iconst (n := 1) (dat D_X1_begin 0 rfl) rfl ?_
  refine AW.istore_n (n := 2) (ls' := [some (vR 19), some (vI 0)]) (dat D_X1_begin 1 rfl) rfl (le45 rfl) (le45 rfl) rfl rfl ?_
  obtain ⟨b3, hi3, hq3⟩ := ob_some h
  obtain ⟨σ4, e3⟩ : ∃ z, z = b3 := ⟨_, rfl⟩
  subst e3
  have hR3 : AW Γ mX1_begin 2 (0, 0) (85, τ) 0 0 46 [some (vR 19), none] [] (85, σ4) := by
    have h : X1_begin_e2 n σ4 = some _ := hq3
    unfold X1_begin_e2 at h
    refine AW.aload_n (n := 47) (dat D_X1_begin 24 rfl) rfl rfl ?_
    refine AW.getR (n := 50) (t := 35) fX1_3 wF_X1_34 ly_19 (le45 rfl) rfl (dat D_X1_begin 25 rfl) rfl ?_
    obtain ⟨σ6, hc5, h⟩ := ob_some h
    refine AW.cV (n := 53) (as := []) (st := []) (st' := []) (uc' := 0) (us' := 0) (A_X5_clear hΓ hc5) cf_X5_clear ly_35 (le45 rfl) vc_5 (le45 rfl) wM_X1_69 (le45 rfl) (le45 rfl) (dat D_X1_begin 26 rfl) rfl rfl (le45 rfl) (le45 rfl) rfl (fun _ => ?_) nlt0
    refine AW.aload_n (n := 54) (dat D_X1_begin 27 rfl) rfl rfl ?_
    refine AW.iconst (n := 55) (dat D_X1_begin 28 rfl) rfl ?_
    refine AW.putI (n := 58) fX1_6 wF_X1_72 ly_19 (le45 rfl) rfl rfl rfl (dat D_X1_begin 29 rfl) rfl ?_
    refine AW.ltS h (fun σ7 h => ?_)
    refine AW.aload_n (n := 59) (dat D_X1_begin 30 rfl) rfl rfl ?_
    refine AW.iconst (n := 60) (dat D_X1_begin 31 rfl) rfl ?_
    refine AW.putI (n := 63) fX1_7 wF_X1_75 ly_19 (le45 rfl) rfl rfl rfl (dat D_X1_begin 32 rfl) rfl ?_
    refine AW.ltS h (fun σ8 h => ?_)
    refine AW.aload_n (n := 64) (dat D_X1_begin 33 rfl) rfl rfl ?_
    refine AW.iconst (n := 65) (dat D_X1_begin 34 rfl) rfl ?_
    refine AW.putI (n := 68) fX1_8 wF_X1_78 ly_19 (le45 rfl) rfl rfl rfl (dat D_X1_begin 35 rfl) rfl ?_
    refine AW.ltS h (fun σ9 h => ?_)
    refine AW.aload_n (n := 69) (dat D_X1_begin 36 rfl) rfl rfl ?_
    refine AW.iconst (n := 70) (dat D_X1_begin 37 rfl) rfl ?_
    refine AW.putI (n := 73) fX1_9 wF_X1_81 ly_19 (le45 rfl) rfl rfl rfl (dat D_X1_begin 38 rfl) rfl ?_
    refine AW.ltS h (fun σ10 h => ?_)
    refine AW.aload_n (n := 74) (dat D_X1_begin 39 rfl) rfl rfl ?_
    refine AW.iconst (n := 75) (dat D_X1_begin 40 rfl) rfl ?_
    refine AW.putI (n := 78) fX1_10 wF_X1_84 ly_19 (le45 rfl) rfl rfl rfl (dat D_X1_begin 41 rfl) rfl ?_
    refine AW.ltS h (fun σ11 h => ?_)
    refine AW.aload_n (n := 79) (dat D_X1_begin 42 rfl) rfl rfl ?_
    refine AW.iconst (n := 80) (dat D_X1_begin 43 rfl) rfl ?_
    refine AW.putI (n := 83) fX1_11 wF_X1_87 ly_19 (le45 rfl) rfl rfl rfl (dat D_X1_begin 44 rfl) rfl ?_
    refine AW.ltS h (fun σ12 h => ?_)
    refine AW.aload_n (n := 84) (dat D_X1_begin 45 rfl) rfl rfl ?_
    refine AW.iconst (n := 85) (dat D_X1_begin 46 rfl) rfl ?_
    refine AW.putI (n := 88) fX1_12 wF_X1_90 ly_19 (le45 rfl) rfl rfl rfl (dat D_X1_begin 47 rfl) rfl ?_
    refine AW.ltS h (fun σ13 h => ?_)
    refine AW.aload_n (n := 89) (dat D_X1_begin 48 rfl) rfl rfl ?_
    refine AW.iconst (n := 90) (dat D_X1_begin 49 rfl) rfl ?_
    refine AW.putI (n := 93) fX1_13 wF_X1_45 ly_19 (le45 rfl) rfl rfl rfl (dat D_X1_begin 50 rfl) rfl ?_
    refine AW.ltS h (fun σ14 h => ?_)
    refine AW.aload_n (n := 94) (dat D_X1_begin 51 rfl) rfl rfl ?_
    refine AW.iconst (n := 95) (dat D_X1_begin 52 rfl) rfl ?_
    refine AW.putZ (n := 98) (Or.inl rfl) fX1_14 wF_X1_49 ly_19 (le45 rfl) rfl rfl rfl (dat D_X1_begin 53 rfl) rfl ?_
    refine AW.ltS h (fun σ15 h => ?_)
    refine AW.aload_n (n := 99) (dat D_X1_begin 54 rfl) rfl rfl ?_
    refine AW.iconst (n := 100) (dat D_X1_begin 55 rfl) rfl ?_
    refine AW.putZ (n := 103) (Or.inl rfl) fX1_15 wF_X1_93 ly_19 (le45 rfl) rfl rfl rfl (dat D_X1_begin 56 rfl) rfl ?_
    refine AW.ltS h (fun σ16 h => ?_)
    cases h
    exact AW.vret rfl rfl rfl (dat D_X1_begin 57 rfl)
  refine AW.to (ls'' := [some (vR 19), some (vI 0)]) ?_ (lle_s rfl (lle_s rfl (lle_z)))
  refine aw_iter (fun s : Int × SG => AW Γ mX1_begin 2 (0, 0) (85, τ) 0 0 2 [some (vR 19), some (vI (s.1))] [] (85, s.2)) (fun s y h hk3 hb3 => ?_) _ _ hi3
  obtain ⟨z1, σ2⟩ := s
  show AW Γ mX1_begin 2 (0, 0) (85, τ) 0 0 2 [some (vR 19), some (vI z1)] [] (85, σ2)
  have h : X1_begin_l2 n z1 σ2 = some y := h
  unfold X1_begin_l2 at h
  refine AW.iload_n (n := 3) (dat D_X1_begin 2 rfl) rfl rfl ?_
  refine AW.aload_n (n := 4) (dat D_X1_begin 3 rfl) rfl rfl ?_
  refine AW.getQH h (n := 7) fX1_0 wF_X1_12 ly_19 (le45 rfl) rfl rfl (dat D_X1_begin 4 rfl) rfl (fun k17 hpk17 h => ?_)
  refine AW.getI (n := 10) fX6_5 wF_X1_56 (isSea_ly0 hpk17) (by have := isSea_lt hpk17; omega) rfl rfl (dat D_X1_begin 5 rfl) rfl ?_
  refine AW.icmp_geH (t := 46) (n := 13) h (dat D_X1_begin 6 rfl) rfl rfl rfl rfl (fun h => ?_) (fun h => ?_)
  · cases h
    have hb := hb3 _ rfl
    cases hb
    exact AW.to hR3 (lle_s rfl (lle_n (lle_z)))
  · refine AW.aload_n (n := 14) (dat D_X1_begin 7 rfl) rfl rfl ?_
    refine AW.getR (n := 17) (t := 34) fX1_2 wF_X1_27 ly_19 (le45 rfl) rfl (dat D_X1_begin 8 rfl) rfl ?_
    refine AW.iload_n (n := 18) (dat D_X1_begin 9 rfl) rfl rfl ?_
    refine AW.aaldH h (n := 19) rfl ly_34 (le45 rfl) (dat D_X1_begin 10 rfl) rfl (fun j18 k19 hpk19 h => ?_)
    refine AW.aload_n (n := 20) (dat D_X1_begin 11 rfl) rfl rfl ?_
    refine AW.getQH h (n := 23) fX1_0 wF_X1_12 ly_19 (le45 rfl) rfl rfl (dat D_X1_begin 12 rfl) rfl (fun k20 hpk20 h => ?_)
    refine AW.getR (n := 26) (t := k20 + 3) fX6_2 wF_X1_59 (isSea_ly0 hpk20) (by have := isSea_lt hpk20; omega) rfl (dat D_X1_begin 13 rfl) rfl ?_
    refine AW.iload_n (n := 27) (dat D_X1_begin 14 rfl) rfl rfl ?_
    refine AW.ialdH h (n := 28) rfl (isSea_ly3 hpk20) (by have := isSea_lt hpk20; omega) (dat D_X1_begin 15 rfl) rfl (fun j21 h => ?_)
    refine AW.aload_n (n := 29) (dat D_X1_begin 16 rfl) rfl rfl ?_
    refine AW.getQH h (n := 32) fX1_0 wF_X1_12 ly_19 (le45 rfl) rfl rfl (dat D_X1_begin 17 rfl) rfl (fun k22 hpk22 h => ?_)
    refine AW.getR (n := 35) (t := k22 + 4) fX6_3 wF_X1_62 (isSea_ly0 hpk22) (by have := isSea_lt hpk22; omega) rfl (dat D_X1_begin 18 rfl) rfl ?_
    refine AW.iload_n (n := 36) (dat D_X1_begin 19 rfl) rfl rfl ?_
    refine AW.ialdH h (n := 37) rfl (isSea_ly4 hpk22) (by have := isSea_lt hpk22; omega) (dat D_X1_begin 20 rfl) rfl (fun j23 h => ?_)
    obtain ⟨σ25, hc24, h⟩ := ob_some h
    refine AW.cV (n := 40) (as := [vI (σ2 (k20 + 3) j21), vI (σ2 (k22 + 4) j23)]) (st := []) (st' := []) (uc' := 0) (us' := 0) (A_X9_begin hΓ hpk19 hc24) cf_X9_begin (isSw_ly0 hpk19) (by have := isSw_lt hpk19; omega) vc_9 (le45 rfl) wM_X1_65 (le45 rfl) (le45 rfl) (dat D_X1_begin 21 rfl) rfl rfl (le45 rfl) (le45 rfl) rfl (fun _ => ?_) nlt0
    refine AW.iincH h (n := 43) (dat D_X1_begin 22 rfl) rfl rfl (le45 rfl) rfl (fun x26 h => ?_)
    refine AW.lq (ls' := [some (vR 19), some (vI x26)]) rfl ?_
    refine AW.goto (t := 2) (dat D_X1_begin 23 rfl) rfl ?_
    cases h
    exact AW.to (hk3 _ rfl) (lle_s rfl (lle_s rfl (lle_z)))
def L_X10_isBlank : List (Nat × Instr × Nat) := [(0, .iload_n 0, 1), (1, .bipush 9, 2), (3, .if_icmp .eq 15, 3), (6, .iload_n 0, 1), (7, .bipush 10, 2), (9, .if_icmp .eq 9, 3), (12, .iload_n 0, 1), (13, .bipush 32, 2), (15, .if_icmp .ne 7, 3), (18, .iconst 1, 1), (19, .goto 4, 3), (22, .iconst 0, 1), (23, .ireturn, 1)]
theorem D_X10_isBlank : dOK cX10_isBlank L_X10_isBlank = true := by decide +kernel
theorem cf_X10_isBlank : CFS mX10_isBlank 1 := ⟨wT_X10_isBlank, wN_WaveRight_Text, wC_X10_isBlank, rfl, ⟨by decide +kernel, by decide +kernel, by decide +kernel⟩, le45 rfl⟩
def X10_isBlank (n : Nat) (a0 : Int) (σ : SG) : Option (Int) :=
  if w32 a0 = 9 then
    some (1)
  else
    if w32 a0 = 10 then
      some (1)
    else
      if w32 a0 = 32 then
        some (1)
      else
        some (0)
set_option maxHeartbeats 4000000 in
set_option maxRecDepth 100000 in
theorem A_X10_isBlank {Γ : GA} (hΓ : (gl Γ).stackTraces = false) {n : Nat} {a0 : Int} {σ : SG} {r : Int}  (h : X10_isBlank n a0 σ = some r) : AM Γ mX10_isBlank 1 0 0 [vI a0] (85, σ) (0, r) (85, σ) := by
  refine AM.of pl_X10 rfl wC_X10_isBlank (le45 rfl) hΓ ?_
  refine AW.to (ls'' := [some (vI a0)]) ?_ (lle_s rfl (lle_z))
  unfold X10_isBlank at h
  refine AW.iload_n (n := 1) (dat D_X10_isBlank 0 rfl) rfl rfl ?_
  refine AW.bipush (n := 3) (dat D_X10_isBlank 1 rfl) rfl (by decide) ?_
  refine AW.icmp_eqH (t := 18) (n := 6) h (dat D_X10_isBlank 2 rfl) rfl rfl rfl (by decide) (fun h => ?_) (fun h => ?_)
  · refine AW.iconst (n := 19) (dat D_X10_isBlank 9 rfl) rfl ?_
    refine AW.goto (t := 23) (dat D_X10_isBlank 10 rfl) rfl ?_
    cases h
    exact AW.zret rfl (by decide) rfl rfl (dat D_X10_isBlank 12 rfl)
  · refine AW.iload_n (n := 7) (dat D_X10_isBlank 3 rfl) rfl rfl ?_
    refine AW.bipush (n := 9) (dat D_X10_isBlank 4 rfl) rfl (by decide) ?_
    refine AW.icmp_eqH (t := 18) (n := 12) h (dat D_X10_isBlank 5 rfl) rfl rfl rfl (by decide) (fun h => ?_) (fun h => ?_)
    · refine AW.iconst (n := 19) (dat D_X10_isBlank 9 rfl) rfl ?_
      refine AW.goto (t := 23) (dat D_X10_isBlank 10 rfl) rfl ?_
      cases h
      exact AW.zret rfl (by decide) rfl rfl (dat D_X10_isBlank 12 rfl)
    · refine AW.iload_n (n := 13) (dat D_X10_isBlank 6 rfl) rfl rfl ?_
      refine AW.bipush (n := 15) (dat D_X10_isBlank 7 rfl) rfl (by decide) ?_
      refine AW.icmp_neH (t := 22) (n := 18) h (dat D_X10_isBlank 8 rfl) rfl rfl rfl (by decide) (fun h => ?_) (fun h => ?_)
      · refine AW.iconst (n := 19) (dat D_X10_isBlank 9 rfl) rfl ?_
        refine AW.goto (t := 23) (dat D_X10_isBlank 10 rfl) rfl ?_
        cases h
        exact AW.zret rfl (by decide) rfl rfl (dat D_X10_isBlank 12 rfl)
      · refine AW.iconst (n := 23) (dat D_X10_isBlank 11 rfl) rfl ?_
        cases h
        exact AW.zret rfl (by decide) rfl rfl (dat D_X10_isBlank 12 rfl)
def L_X10_isDigit : List (Nat × Instr × Nat) := [(0, .iload_n 0, 1), (1, .bipush 48, 2), (3, .if_icmp .lt 13, 3), (6, .iload_n 0, 1), (7, .bipush 57, 2), (9, .if_icmp .gt 7, 3), (12, .iconst 1, 1), (13, .goto 4, 3), (16, .iconst 0, 1), (17, .ireturn, 1)]
theorem D_X10_isDigit : dOK cX10_isDigit L_X10_isDigit = true := by decide +kernel
theorem cf_X10_isDigit : CFS mX10_isDigit 1 := ⟨wT_X10_isDigit, wN_WaveRight_Text, wC_X10_isDigit, rfl, ⟨by decide +kernel, by decide +kernel, by decide +kernel⟩, le45 rfl⟩
def X10_isDigit (n : Nat) (a0 : Int) (σ : SG) : Option (Int) :=
  if w32 a0 < 48 then
    some (0)
  else
    if 57 < w32 a0 then
      some (0)
    else
      some (1)
set_option maxHeartbeats 4000000 in
set_option maxRecDepth 100000 in
theorem A_X10_isDigit {Γ : GA} (hΓ : (gl Γ).stackTraces = false) {n : Nat} {a0 : Int} {σ : SG} {r : Int}  (h : X10_isDigit n a0 σ = some r) : AM Γ mX10_isDigit 1 0 0 [vI a0] (85, σ) (0, r) (85, σ) := by
  refine AM.of pl_X10 rfl wC_X10_isDigit (le45 rfl) hΓ ?_
  refine AW.to (ls'' := [some (vI a0)]) ?_ (lle_s rfl (lle_z))
  unfold X10_isDigit at h
  refine AW.iload_n (n := 1) (dat D_X10_isDigit 0 rfl) rfl rfl ?_
  refine AW.bipush (n := 3) (dat D_X10_isDigit 1 rfl) rfl (by decide) ?_
  refine AW.icmp_ltH (t := 16) (n := 6) h (dat D_X10_isDigit 2 rfl) rfl rfl rfl (by decide) (fun h => ?_) (fun h => ?_)
  · refine AW.iconst (n := 17) (dat D_X10_isDigit 8 rfl) rfl ?_
    cases h
    exact AW.zret rfl (by decide) rfl rfl (dat D_X10_isDigit 9 rfl)
  · refine AW.iload_n (n := 7) (dat D_X10_isDigit 3 rfl) rfl rfl ?_
    refine AW.bipush (n := 9) (dat D_X10_isDigit 4 rfl) rfl (by decide) ?_
    refine AW.icmp_gtH (t := 16) (n := 12) h (dat D_X10_isDigit 5 rfl) rfl rfl rfl (by decide) (fun h => ?_) (fun h => ?_)
    · refine AW.iconst (n := 17) (dat D_X10_isDigit 8 rfl) rfl ?_
      cases h
      exact AW.zret rfl (by decide) rfl rfl (dat D_X10_isDigit 9 rfl)
    · refine AW.iconst (n := 13) (dat D_X10_isDigit 6 rfl) rfl ?_
      refine AW.goto (t := 17) (dat D_X10_isDigit 7 rfl) rfl ?_
      cases h
      exact AW.zret rfl (by decide) rfl rfl (dat D_X10_isDigit 9 rfl)
def L_X10_isLetter : List (Nat × Instr × Nat) := [(0, .iload_n 0, 1), (1, .bipush 97, 2), (3, .if_icmp .lt 13, 3), (6, .iload_n 0, 1), (7, .bipush 122, 2), (9, .if_icmp .gt 7, 3), (12, .iconst 1, 1), (13, .goto 4, 3), (16, .iconst 0, 1), (17, .ireturn, 1)]
theorem D_X10_isLetter : dOK cX10_isLetter L_X10_isLetter = true := by decide +kernel
theorem cf_X10_isLetter : CFS mX10_isLetter 1 := ⟨wT_X10_isLetter, wN_WaveRight_Text, wC_X10_isLetter, rfl, ⟨by decide +kernel, by decide +kernel, by decide +kernel⟩, le45 rfl⟩
def X10_isLetter (n : Nat) (a0 : Int) (σ : SG) : Option (Int) :=
  if w32 a0 < 97 then
    some (0)
  else
    if 122 < w32 a0 then
      some (0)
    else
      some (1)
set_option maxHeartbeats 4000000 in
set_option maxRecDepth 100000 in
theorem A_X10_isLetter {Γ : GA} (hΓ : (gl Γ).stackTraces = false) {n : Nat} {a0 : Int} {σ : SG} {r : Int}  (h : X10_isLetter n a0 σ = some r) : AM Γ mX10_isLetter 1 0 0 [vI a0] (85, σ) (0, r) (85, σ) := by
  refine AM.of pl_X10 rfl wC_X10_isLetter (le45 rfl) hΓ ?_
  refine AW.to (ls'' := [some (vI a0)]) ?_ (lle_s rfl (lle_z))
  unfold X10_isLetter at h
  refine AW.iload_n (n := 1) (dat D_X10_isLetter 0 rfl) rfl rfl ?_
  refine AW.bipush (n := 3) (dat D_X10_isLetter 1 rfl) rfl (by decide) ?_
  refine AW.icmp_ltH (t := 16) (n := 6) h (dat D_X10_isLetter 2 rfl) rfl rfl rfl (by decide) (fun h => ?_) (fun h => ?_)
  · refine AW.iconst (n := 17) (dat D_X10_isLetter 8 rfl) rfl ?_
    cases h
    exact AW.zret rfl (by decide) rfl rfl (dat D_X10_isLetter 9 rfl)
  · refine AW.iload_n (n := 7) (dat D_X10_isLetter 3 rfl) rfl rfl ?_
    refine AW.bipush (n := 9) (dat D_X10_isLetter 4 rfl) rfl (by decide) ?_
    refine AW.icmp_gtH (t := 16) (n := 12) h (dat D_X10_isLetter 5 rfl) rfl rfl rfl (by decide) (fun h => ?_) (fun h => ?_)
    · refine AW.iconst (n := 17) (dat D_X10_isLetter 8 rfl) rfl ?_
      cases h
      exact AW.zret rfl (by decide) rfl rfl (dat D_X10_isLetter 9 rfl)
    · refine AW.iconst (n := 13) (dat D_X10_isLetter 6 rfl) rfl ?_
      refine AW.goto (t := 17) (dat D_X10_isLetter 7 rfl) rfl ?_
      cases h
      exact AW.zret rfl (by decide) rfl rfl (dat D_X10_isLetter 9 rfl)
def L_X10_advance : List (Nat × Instr × Nat) := [(0, .aload_n 0, 1), (1, .getfield 19, 3), (4, .istore_n 1, 1), (5, .iload_n 1, 1), (6, .aload_n 0, 1), (7, .getfield 15, 3), (10, .if_icmp .ge 21, 3), (13, .aload_n 0, 1), (14, .getfield 9, 3), (17, .iload_n 1, 1), (18, .iaload, 1), (19, .invokestatic 25, 3), (22, .ifCond .eq 9, 3), (25, .iinc 1 1, 3), (28, .goto (-23), 3), (31, .aload_n 0, 1), (32, .iload_n 1, 1), (33, .putfield 29, 3), (36, .iload_n 1, 1), (37, .aload_n 0, 1), (38, .getfield 15, 3), (41, .if_icmp .lt 11, 3), (44, .aload_n 0, 1), (45, .iconst 0, 1), (46, .putfield 32, 3), (49, .goto 140, 3), (52, .aload_n 0, 1), (53, .getfield 9, 3), (56, .iload_n 1, 1), (57, .iaload, 1), (58, .invokestatic 35, 3), (61, .ifCond .eq 34, 3), (64, .aload_n 0, 1), (65, .iconst 1, 1), (66, .putfield 32, 3), (69, .iload_n 1, 1), (70, .aload_n 0, 1), (71, .getfield 15, 3), (74, .if_icmp .ge 115, 3), (77, .aload_n 0, 1), (78, .getfield 9, 3), (81, .iload_n 1, 1), (82, .iaload, 1), (83, .invokestatic 35, 3), (86, .ifCond .eq 103, 3), (89, .iinc 1 1, 3), (92, .goto (-23), 3), (95, .aload_n 0, 1), (96, .getfield 9, 3), (99, .iload_n 1, 1), (100, .iaload, 1), (101, .invokestatic 38, 3), (104, .ifCond .eq 77, 3), (107, .aload_n 0, 1), (108, .iconst 2, 1), (109, .putfield 32, 3), (112, .aload_n 0, 1), (113, .iconst 0, 1), (114, .putfield 41, 3), (117, .iload_n 1, 1), (118, .aload_n 0, 1), (119, .getfield 15, 3), (122, .if_icmp .ge 67, 3), (125, .aload_n 0, 1), (126, .getfield 9, 3), (129, .iload_n 1, 1), (130, .iaload, 1), (131, .invokestatic 38, 3), (134, .ifCond .eq 55, 3), (137, .aload_n 0, 1), (138, .iload_n 1, 1), (139, .aload_n 0, 1), (140, .getfield 29, 3), (143, .isub, 1), (144, .iconst 4, 1), (145, .if_icmp .ge 23, 3), (148, .aload_n 0, 1), (149, .getfield 41, 3), (152, .bipush 10, 2), (154, .imul, 1), (155, .aload_n 0, 1), (156, .getfield 9, 3), (159, .iload_n 1, 1), (160, .iaload, 1), (161, .iadd, 1), (162, .bipush 48, 2), (164, .isub, 1), (165, .goto 7, 3), (168, .aload_n 0, 1), (169, .getfield 41, 3), (172, .putfield 41, 3), (175, .iinc 1 1, 3), (178, .goto (-61), 3), (181, .aload_n 0, 1), (182, .iconst 3, 1), (183, .putfield 32, 3), (186, .iinc 1 1, 3), (189, .aload_n 0, 1), (190, .iload_n 1, 1), (191, .putfield 19, 3), (194, .return_, 1)]
theorem D_X10_advance : dOK cX10_advance L_X10_advance = true := by decide +kernel
theorem cf_X10_advance : CFV mX10_advance 0 := ⟨wI_X10_advance, wS_X10_advance, wN_WaveRight_Text, wC_X10_advance, rfl, ⟨by decide +kernel, by decide +kernel, by decide +kernel⟩, le45 rfl⟩
def X10_advance_j189 (n : Nat) (y6 : Int) (σ7 : SG) : Option (SG) :=
  lt (up σ7 15 4 y6) fun σ9 =>
  some (σ9)
def X10_advance_e117 (n : Nat) (e23 : Int) (σ24 : SG) : Option (Int × SG) :=
  some ((e23, σ24))
def X10_advance_j172 (n : Nat) (σ21 : SG) (z20 : Int) (y28 : Int) : Option ((Int × SG) ⊕ (Int × SG)) :=
  lt (up σ21 15 5 y28) fun σ30 =>
  lt (z20 + 1) fun x31 =>
  some (.inl (x31, σ30))
def X10_advance_l117 (n : Nat) (z20 : Int) (σ21 : SG) : Option ((Int × SG) ⊕ (Int × SG)) :=
  if w32 (σ21 15 1) ≤ w32 z20 then
    some (.inr (z20, σ21))
  else
    rdA 400 z20 fun j25 =>
    (X10_isDigit n (σ21 16 j25) σ21).bind fun v27 =>
    if w32 v27 = 0 then
      some (.inr (z20, σ21))
    else
      ((if 4 ≤ w32 (z20 - (σ21 15 3)) then
        some ((σ21 15 5))
      else
        rdA 400 z20 fun j32 =>
        some (((((σ21 15 5) * 10) + (σ21 16 j32)) - 48))) : Option (Int)).bind (fun s => X10_advance_j172 n σ21 z20 s)
def X10_advance_e69 (n : Nat) (σ33 : SG) (e36 : Int) : Option (Int × SG) :=
  some ((e36, σ33))
def X10_advance_l69 (n : Nat) (σ33 : SG) (z34 : Int) : Option ((Int) ⊕ (Int)) :=
  if w32 (σ33 15 1) ≤ w32 z34 then
    some (.inr z34)
  else
    rdA 400 z34 fun j37 =>
    (X10_isLetter n (σ33 16 j37) σ33).bind fun v39 =>
    if w32 v39 = 0 then
      some (.inr z34)
    else
      lt (z34 + 1) fun x40 =>
      some (.inl x40)
def X10_advance_e5 (n : Nat) (σ : SG) (e4 : Int) : Option (SG) :=
  lt (up σ 15 3 e4) fun σ5 =>
  ((if w32 e4 < w32 (σ5 15 1) then
    rdA 400 e4 fun j10 =>
    (X10_isLetter n (σ5 16 j10) σ5).bind fun v12 =>
    if w32 v12 = 0 then
      rdA 400 e4 fun j13 =>
      (X10_isDigit n (σ5 16 j13) σ5).bind fun v15 =>
      if w32 v15 = 0 then
        lt (up σ5 15 2 3) fun σ16 =>
        lt (e4 + 1) fun x17 =>
        some ((x17, σ16))
      else
        lt (up σ5 15 2 2) fun σ18 =>
        lt (up σ18 15 5 0) fun σ19 =>
        ((iter n (fun s : Int × SG => X10_advance_l117 n s.1 s.2) (e4, σ19)) : Option (Int × SG)).bind (fun s => X10_advance_e117 n s.1 s.2)
    else
      lt (up σ5 15 2 1) fun σ33 =>
      ((iter n (fun s : Int => X10_advance_l69 n σ33 s) e4) : Option (Int)).bind (fun s => X10_advance_e69 n σ33 s)
  else
    lt (up σ5 15 2 0) fun σ41 =>
    some ((e4, σ41))) : Option (Int × SG)).bind (fun s => X10_advance_j189 n s.1 s.2)
def X10_advance_l5 (n : Nat) (σ : SG) (z2 : Int) : Option ((Int) ⊕ (Int)) :=
  if w32 (σ 15 1) ≤ w32 z2 then
    some (.inr z2)
  else
    rdA 400 z2 fun j42 =>
    (X10_isBlank n (σ 16 j42) σ).bind fun v44 =>
    if w32 v44 = 0 then
      some (.inr z2)
    else
      lt (z2 + 1) fun x45 =>
      some (.inl x45)
def X10_advance (n : Nat) (σ : SG) : Option (SG) :=
  lt (σ 15 4) fun x1 =>
  ((iter n (fun s : Int => X10_advance_l5 n σ s) x1) : Option (Int)).bind (fun s => X10_advance_e5 n σ s)
set_option maxHeartbeats 4000000 in
set_option maxRecDepth 100000 in
theorem A_X10_advance {Γ : GA} (hΓ : (gl Γ).stackTraces = false) {n : Nat} {σ : SG} {τ : SG}  (h : X10_advance n σ = some τ) : AM Γ mX10_advance 2 0 0 [vR 15] (85, σ) (0, 0) (85, τ) := by
  refine AM.of pl_X10 rfl wC_X10_advance (le45 rfl) hΓ ?_
  refine AW.to (ls'' := [some (vR 15), none]) ?_ (lle_s rfl (lle_e (lle_z)))
  unfold X10_advance at h
  refine AW.aload_n (n := 1) (dat D_X10_advance 0 rfl) rfl rfl ?_
  refine AW.getI (n := 4) fX10_4 wF_X10_19 ly_15 (le45 rfl) rfl rfl (dat D_X10_advance 1 rfl) rfl ?_
  refine AW.ltI h (fun x1 h => ?_)
  refine AW.istore_n (n := 5) (ls' := [some (vR 15), some (vI x1)]) (dat D_X10_advance 2 rfl) rfl (le45 rfl) (le45 rfl) rfl rfl ?_
  obtain ⟨b3, hi3, hq3⟩ := ob_some h
  obtain ⟨e4, e3⟩ : ∃ z, z = b3 := ⟨_, rfl⟩
  subst e3
  have hR3 : AW Γ mX10_advance 2 (0, 0) (85, τ) 0 0 31 [some (vR 15), some (vI e4)] [] (85, σ) := by
    have h : X10_advance_e5 n σ e4 = some _ := hq3
    unfold X10_advance_e5 at h
    refine AW.aload_n (n := 32) (dat D_X10_advance 15 rfl) rfl rfl ?_
    refine AW.iload_n (n := 33) (dat D_X10_advance 16 rfl) rfl rfl ?_
    refine AW.putI (n := 36) fX10_3 wF_X10_29 ly_15 (le45 rfl) rfl rfl rfl (dat D_X10_advance 17 rfl) rfl ?_
    refine AW.ltS h (fun σ5 h => ?_)
    refine AW.iload_n (n := 37) (dat D_X10_advance 18 rfl) rfl rfl ?_
    refine AW.aload_n (n := 38) (dat D_X10_advance 19 rfl) rfl rfl ?_
    refine AW.getI (n := 41) fX10_1 wF_X10_15 ly_15 (le45 rfl) rfl rfl (dat D_X10_advance 20 rfl) rfl ?_
    obtain ⟨s8, h, hq8⟩ := ob_some h
    obtain ⟨y6, σ7⟩ := s8
    have hJ8 : AW Γ mX10_advance 2 (0, 0) (85, τ) 0 0 189 [some (vR 15), some (vI y6)] [] (85, σ7) := by
      have h : X10_advance_j189 n y6 σ7 = some _ := hq8
      unfold X10_advance_j189 at h
      refine AW.aload_n (n := 190) (dat D_X10_advance 97 rfl) rfl rfl ?_
      refine AW.iload_n (n := 191) (dat D_X10_advance 98 rfl) rfl rfl ?_
      refine AW.putI (n := 194) fX10_4 wF_X10_19 ly_15 (le45 rfl) rfl rfl rfl (dat D_X10_advance 99 rfl) rfl ?_
      refine AW.ltS h (fun σ9 h => ?_)
      cases h
      exact AW.vret rfl rfl rfl (dat D_X10_advance 100 rfl)
    refine AW.icmp_ltH (t := 52) (n := 44) h (dat D_X10_advance 21 rfl) rfl rfl rfl rfl (fun h => ?_) (fun h => ?_)
    · refine AW.aload_n (n := 53) (dat D_X10_advance 26 rfl) rfl rfl ?_
      refine AW.getR (n := 56) (t := 16) fX10_0 wF_X10_9 ly_15 (le45 rfl) rfl (dat D_X10_advance 27 rfl) rfl ?_
      refine AW.iload_n (n := 57) (dat D_X10_advance 28 rfl) rfl rfl ?_
      refine AW.ialdH h (n := 58) rfl ly_16 (le45 rfl) (dat D_X10_advance 29 rfl) rfl (fun j10 h => ?_)
      obtain ⟨v12, hc11, h⟩ := ob_some h
      refine AW.cS (n := 61) (as := [vI (σ5 16 j10)]) (st := []) (st' := [vI v12]) (uc' := 0) (us' := 0) (A_X10_isLetter hΓ hc11) cf_X10_isLetter rfl wM_X10_35 (le45 rfl) (le45 rfl) (dat D_X10_advance 30 rfl) rfl rfl (le45 rfl) (le45 rfl) rfl (fun _ => ?_) nlt0
      refine AW.if_eqH (t := 95) (n := 64) h (dat D_X10_advance 31 rfl) rfl rfl (fun h => ?_) (fun h => ?_)
      · refine AW.aload_n (n := 96) (dat D_X10_advance 47 rfl) rfl rfl ?_
        refine AW.getR (n := 99) (t := 16) fX10_0 wF_X10_9 ly_15 (le45 rfl) rfl (dat D_X10_advance 48 rfl) rfl ?_
        refine AW.iload_n (n := 100) (dat D_X10_advance 49 rfl) rfl rfl ?_
        refine AW.ialdH h (n := 101) rfl ly_16 (le45 rfl) (dat D_X10_advance 50 rfl) rfl (fun j13 h => ?_)
        obtain ⟨v15, hc14, h⟩ := ob_some h
        refine AW.cS (n := 104) (as := [vI (σ5 16 j13)]) (st := []) (st' := [vI v15]) (uc' := 0) (us' := 0) (A_X10_isDigit hΓ hc14) cf_X10_isDigit rfl wM_X10_38 (le45 rfl) (le45 rfl) (dat D_X10_advance 51 rfl) rfl rfl (le45 rfl) (le45 rfl) rfl (fun _ => ?_) nlt0
        refine AW.if_eqH (t := 181) (n := 107) h (dat D_X10_advance 52 rfl) rfl rfl (fun h => ?_) (fun h => ?_)
        · refine AW.aload_n (n := 182) (dat D_X10_advance 93 rfl) rfl rfl ?_
          refine AW.iconst (n := 183) (dat D_X10_advance 94 rfl) rfl ?_
          refine AW.putI (n := 186) fX10_2 wF_X10_32 ly_15 (le45 rfl) rfl rfl rfl (dat D_X10_advance 95 rfl) rfl ?_
          refine AW.ltS h (fun σ16 h => ?_)
          refine AW.iincH h (n := 189) (dat D_X10_advance 96 rfl) rfl rfl (le45 rfl) rfl (fun x17 h => ?_)
          refine AW.lq (ls' := [some (vR 15), some (vI x17)]) rfl ?_
          cases h
          exact AW.to hJ8 (lle_s rfl (lle_s rfl (lle_z)))
        · refine AW.aload_n (n := 108) (dat D_X10_advance 53 rfl) rfl rfl ?_
          refine AW.iconst (n := 109) (dat D_X10_advance 54 rfl) rfl ?_
          refine AW.putI (n := 112) fX10_2 wF_X10_32 ly_15 (le45 rfl) rfl rfl rfl (dat D_X10_advance 55 rfl) rfl ?_
          refine AW.ltS h (fun σ18 h => ?_)
          refine AW.aload_n (n := 113) (dat D_X10_advance 56 rfl) rfl rfl ?_
          refine AW.iconst (n := 114) (dat D_X10_advance 57 rfl) rfl ?_
          refine AW.putI (n := 117) fX10_5 wF_X10_41 ly_15 (le45 rfl) rfl rfl rfl (dat D_X10_advance 58 rfl) rfl ?_
          refine AW.ltS h (fun σ19 h => ?_)
          obtain ⟨b22, hi22, hq22⟩ := ob_some h
          obtain ⟨e23, σ24⟩ := b22
          have hR22 : AW Γ mX10_advance 2 (0, 0) (85, τ) 0 0 189 [some (vR 15), some (vI e23)] [] (85, σ24) := by
            have h : X10_advance_e117 n e23 σ24 = some _ := hq22
            unfold X10_advance_e117 at h
            cases h
            exact AW.to hJ8 (lle_s rfl (lle_s rfl (lle_z)))
          refine AW.to (ls'' := [some (vR 15), some (vI e4)]) ?_ (lle_s rfl (lle_s rfl (lle_z)))
          refine aw_iter (fun s : Int × SG => AW Γ mX10_advance 2 (0, 0) (85, τ) 0 0 117 [some (vR 15), some (vI (s.1))] [] (85, s.2)) (fun s y h hk22 hb22 => ?_) _ _ hi22
          obtain ⟨z20, σ21⟩ := s
          show AW Γ mX10_advance 2 (0, 0) (85, τ) 0 0 117 [some (vR 15), some (vI z20)] [] (85, σ21)
          have h : X10_advance_l117 n z20 σ21 = some y := h
          unfold X10_advance_l117 at h
          refine AW.iload_n (n := 118) (dat D_X10_advance 59 rfl) rfl rfl ?_
          refine AW.aload_n (n := 119) (dat D_X10_advance 60 rfl) rfl rfl ?_
          refine AW.getI (n := 122) fX10_1 wF_X10_15 ly_15 (le45 rfl) rfl rfl (dat D_X10_advance 61 rfl) rfl ?_
          refine AW.icmp_geH (t := 189) (n := 125) h (dat D_X10_advance 62 rfl) rfl rfl rfl rfl (fun h => ?_) (fun h => ?_)
          · cases h
            have hb := hb22 _ rfl
            cases hb
            exact AW.to hR22 (lle_s rfl (lle_s rfl (lle_z)))
          · refine AW.aload_n (n := 126) (dat D_X10_advance 63 rfl) rfl rfl ?_
            refine AW.getR (n := 129) (t := 16) fX10_0 wF_X10_9 ly_15 (le45 rfl) rfl (dat D_X10_advance 64 rfl) rfl ?_
            refine AW.iload_n (n := 130) (dat D_X10_advance 65 rfl) rfl rfl ?_
            refine AW.ialdH h (n := 131) rfl ly_16 (le45 rfl) (dat D_X10_advance 66 rfl) rfl (fun j25 h => ?_)
            obtain ⟨v27, hc26, h⟩ := ob_some h
            refine AW.cS (n := 134) (as := [vI (σ21 16 j25)]) (st := []) (st' := [vI v27]) (uc' := 0) (us' := 0) (A_X10_isDigit hΓ hc26) cf_X10_isDigit rfl wM_X10_38 (le45 rfl) (le45 rfl) (dat D_X10_advance 67 rfl) rfl rfl (le45 rfl) (le45 rfl) rfl (fun _ => ?_) nlt0
            refine AW.if_eqH (t := 189) (n := 137) h (dat D_X10_advance 68 rfl) rfl rfl (fun h => ?_) (fun h => ?_)
            · cases h
              have hb := hb22 _ rfl
              cases hb
              exact AW.to hR22 (lle_s rfl (lle_s rfl (lle_z)))
            · refine AW.aload_n (n := 138) (dat D_X10_advance 69 rfl) rfl rfl ?_
              refine AW.iload_n (n := 139) (dat D_X10_advance 70 rfl) rfl rfl ?_
              refine AW.aload_n (n := 140) (dat D_X10_advance 71 rfl) rfl rfl ?_
              refine AW.getI (n := 143) fX10_3 wF_X10_29 ly_15 (le45 rfl) rfl rfl (dat D_X10_advance 72 rfl) rfl ?_
              refine AW.isub (n := 144) (dat D_X10_advance 73 rfl) rfl ?_
              refine AW.iconst (n := 145) (dat D_X10_advance 74 rfl) rfl ?_
              obtain ⟨s29, h, hq29⟩ := ob_some h
              obtain ⟨y28, e29⟩ : ∃ z, z = s29 := ⟨_, rfl⟩
              subst e29
              have hJ29 : AW Γ mX10_advance 2 (0, 0) (85, τ) 0 0 172 [some (vR 15), some (vI z20)] [vI y28, vR 15] (85, σ21) := by
                have h : X10_advance_j172 n σ21 z20 y28 = some _ := hq29
                unfold X10_advance_j172 at h
                refine AW.putI (n := 175) fX10_5 wF_X10_41 ly_15 (le45 rfl) rfl rfl rfl (dat D_X10_advance 90 rfl) rfl ?_
                refine AW.ltS h (fun σ30 h => ?_)
                refine AW.iincH h (n := 178) (dat D_X10_advance 91 rfl) rfl rfl (le45 rfl) rfl (fun x31 h => ?_)
                refine AW.lq (ls' := [some (vR 15), some (vI x31)]) rfl ?_
                refine AW.goto (t := 117) (dat D_X10_advance 92 rfl) rfl ?_
                cases h
                exact AW.to (hk22 _ rfl) (lle_s rfl (lle_s rfl (lle_z)))
              refine AW.icmp_geH (t := 168) (n := 148) h (dat D_X10_advance 75 rfl) rfl rfl rfl (by decide) (fun h => ?_) (fun h => ?_)
              · refine AW.aload_n (n := 169) (dat D_X10_advance 88 rfl) rfl rfl ?_
                refine AW.getI (n := 172) fX10_5 wF_X10_41 ly_15 (le45 rfl) rfl rfl (dat D_X10_advance 89 rfl) rfl ?_
                cases h
                exact AW.to hJ29 (lle_s rfl (lle_s rfl (lle_z)))
              · refine AW.aload_n (n := 149) (dat D_X10_advance 76 rfl) rfl rfl ?_
                refine AW.getI (n := 152) fX10_5 wF_X10_41 ly_15 (le45 rfl) rfl rfl (dat D_X10_advance 77 rfl) rfl ?_
                refine AW.bipush (n := 154) (dat D_X10_advance 78 rfl) rfl (by decide) ?_
                refine AW.imul (n := 155) (dat D_X10_advance 79 rfl) rfl ?_
                refine AW.aload_n (n := 156) (dat D_X10_advance 80 rfl) rfl rfl ?_
                refine AW.getR (n := 159) (t := 16) fX10_0 wF_X10_9 ly_15 (le45 rfl) rfl (dat D_X10_advance 81 rfl) rfl ?_
                refine AW.iload_n (n := 160) (dat D_X10_advance 82 rfl) rfl rfl ?_
                refine AW.ialdH h (n := 161) rfl ly_16 (le45 rfl) (dat D_X10_advance 83 rfl) rfl (fun j32 h => ?_)
                refine AW.iadd (n := 162) (dat D_X10_advance 84 rfl) rfl ?_
                refine AW.bipush (n := 164) (dat D_X10_advance 85 rfl) rfl (by decide) ?_
                refine AW.isub (n := 165) (dat D_X10_advance 86 rfl) rfl ?_
                refine AW.goto (t := 172) (dat D_X10_advance 87 rfl) rfl ?_
                cases h
                exact AW.to hJ29 (lle_s rfl (lle_s rfl (lle_z)))
      · refine AW.aload_n (n := 65) (dat D_X10_advance 32 rfl) rfl rfl ?_
        refine AW.iconst (n := 66) (dat D_X10_advance 33 rfl) rfl ?_
        refine AW.putI (n := 69) fX10_2 wF_X10_32 ly_15 (le45 rfl) rfl rfl rfl (dat D_X10_advance 34 rfl) rfl ?_
        refine AW.ltS h (fun σ33 h => ?_)
        obtain ⟨b35, hi35, hq35⟩ := ob_some h
        obtain ⟨e36, e35⟩ : ∃ z, z = b35 := ⟨_, rfl⟩
        subst e35
        have hR35 : AW Γ mX10_advance 2 (0, 0) (85, τ) 0 0 189 [some (vR 15), some (vI e36)] [] (85, σ33) := by
          have h : X10_advance_e69 n σ33 e36 = some _ := hq35
          unfold X10_advance_e69 at h
          cases h
          exact AW.to hJ8 (lle_s rfl (lle_s rfl (lle_z)))
        refine AW.to (ls'' := [some (vR 15), some (vI e4)]) ?_ (lle_s rfl (lle_s rfl (lle_z)))
        refine aw_iter (fun s : Int => AW Γ mX10_advance 2 (0, 0) (85, τ) 0 0 69 [some (vR 15), some (vI s)] [] (85, σ33)) (fun s y h hk35 hb35 => ?_) _ _ hi35
        obtain ⟨z34, e35⟩ : ∃ z, z = s := ⟨_, rfl⟩
        subst e35
        show AW Γ mX10_advance 2 (0, 0) (85, τ) 0 0 69 [some (vR 15), some (vI z34)] [] (85, σ33)
        have h : X10_advance_l69 n σ33 z34 = some y := h
        unfold X10_advance_l69 at h
        refine AW.iload_n (n := 70) (dat D_X10_advance 35 rfl) rfl rfl ?_
        refine AW.aload_n (n := 71) (dat D_X10_advance 36 rfl) rfl rfl ?_
        refine AW.getI (n := 74) fX10_1 wF_X10_15 ly_15 (le45 rfl) rfl rfl (dat D_X10_advance 37 rfl) rfl ?_
        refine AW.icmp_geH (t := 189) (n := 77) h (dat D_X10_advance 38 rfl) rfl rfl rfl rfl (fun h => ?_) (fun h => ?_)
        · cases h
          have hb := hb35 _ rfl
          cases hb
          exact AW.to hR35 (lle_s rfl (lle_s rfl (lle_z)))
        · refine AW.aload_n (n := 78) (dat D_X10_advance 39 rfl) rfl rfl ?_
          refine AW.getR (n := 81) (t := 16) fX10_0 wF_X10_9 ly_15 (le45 rfl) rfl (dat D_X10_advance 40 rfl) rfl ?_
          refine AW.iload_n (n := 82) (dat D_X10_advance 41 rfl) rfl rfl ?_
          refine AW.ialdH h (n := 83) rfl ly_16 (le45 rfl) (dat D_X10_advance 42 rfl) rfl (fun j37 h => ?_)
          obtain ⟨v39, hc38, h⟩ := ob_some h
          refine AW.cS (n := 86) (as := [vI (σ33 16 j37)]) (st := []) (st' := [vI v39]) (uc' := 0) (us' := 0) (A_X10_isLetter hΓ hc38) cf_X10_isLetter rfl wM_X10_35 (le45 rfl) (le45 rfl) (dat D_X10_advance 43 rfl) rfl rfl (le45 rfl) (le45 rfl) rfl (fun _ => ?_) nlt0
          refine AW.if_eqH (t := 189) (n := 89) h (dat D_X10_advance 44 rfl) rfl rfl (fun h => ?_) (fun h => ?_)
          · cases h
            have hb := hb35 _ rfl
            cases hb
            exact AW.to hR35 (lle_s rfl (lle_s rfl (lle_z)))
          · refine AW.iincH h (n := 92) (dat D_X10_advance 45 rfl) rfl rfl (le45 rfl) rfl (fun x40 h => ?_)
            refine AW.lq (ls' := [some (vR 15), some (vI x40)]) rfl ?_
            refine AW.goto (t := 69) (dat D_X10_advance 46 rfl) rfl ?_
            cases h
            exact AW.to (hk35 _ rfl) (lle_s rfl (lle_s rfl (lle_z)))
    · refine AW.aload_n (n := 45) (dat D_X10_advance 22 rfl) rfl rfl ?_
      refine AW.iconst (n := 46) (dat D_X10_advance 23 rfl) rfl ?_
      refine AW.putI (n := 49) fX10_2 wF_X10_32 ly_15 (le45 rfl) rfl rfl rfl (dat D_X10_advance 24 rfl) rfl ?_
      refine AW.ltS h (fun σ41 h => ?_)
      refine AW.goto (t := 189) (dat D_X10_advance 25 rfl) rfl ?_
      cases h
      exact AW.to hJ8 (lle_s rfl (lle_s rfl (lle_z)))
  refine AW.to (ls'' := [some (vR 15), some (vI x1)]) ?_ (lle_s rfl (lle_s rfl (lle_z)))
  refine aw_iter (fun s : Int => AW Γ mX10_advance 2 (0, 0) (85, τ) 0 0 5 [some (vR 15), some (vI s)] [] (85, σ)) (fun s y h hk3 hb3 => ?_) _ _ hi3
  obtain ⟨z2, e3⟩ : ∃ z, z = s := ⟨_, rfl⟩
  subst e3
  show AW Γ mX10_advance 2 (0, 0) (85, τ) 0 0 5 [some (vR 15), some (vI z2)] [] (85, σ)
  have h : X10_advance_l5 n σ z2 = some y := h
  unfold X10_advance_l5 at h
  refine AW.iload_n (n := 6) (dat D_X10_advance 3 rfl) rfl rfl ?_
  refine AW.aload_n (n := 7) (dat D_X10_advance 4 rfl) rfl rfl ?_
  refine AW.getI (n := 10) fX10_1 wF_X10_15 ly_15 (le45 rfl) rfl rfl (dat D_X10_advance 5 rfl) rfl ?_
  refine AW.icmp_geH (t := 31) (n := 13) h (dat D_X10_advance 6 rfl) rfl rfl rfl rfl (fun h => ?_) (fun h => ?_)
  · cases h
    have hb := hb3 _ rfl
    cases hb
    exact AW.to hR3 (lle_s rfl (lle_s rfl (lle_z)))
  · refine AW.aload_n (n := 14) (dat D_X10_advance 7 rfl) rfl rfl ?_
    refine AW.getR (n := 17) (t := 16) fX10_0 wF_X10_9 ly_15 (le45 rfl) rfl (dat D_X10_advance 8 rfl) rfl ?_
    refine AW.iload_n (n := 18) (dat D_X10_advance 9 rfl) rfl rfl ?_
    refine AW.ialdH h (n := 19) rfl ly_16 (le45 rfl) (dat D_X10_advance 10 rfl) rfl (fun j42 h => ?_)
    obtain ⟨v44, hc43, h⟩ := ob_some h
    refine AW.cS (n := 22) (as := [vI (σ 16 j42)]) (st := []) (st' := [vI v44]) (uc' := 0) (us' := 0) (A_X10_isBlank hΓ hc43) cf_X10_isBlank rfl wM_X10_25 (le45 rfl) (le45 rfl) (dat D_X10_advance 11 rfl) rfl rfl (le45 rfl) (le45 rfl) rfl (fun _ => ?_) nlt0
    refine AW.if_eqH (t := 31) (n := 25) h (dat D_X10_advance 12 rfl) rfl rfl (fun h => ?_) (fun h => ?_)
    · cases h
      have hb := hb3 _ rfl
      cases hb
      exact AW.to hR3 (lle_s rfl (lle_s rfl (lle_z)))
    · refine AW.iincH h (n := 28) (dat D_X10_advance 13 rfl) rfl rfl (le45 rfl) rfl (fun x45 h => ?_)
      refine AW.lq (ls' := [some (vR 15), some (vI x45)]) rfl ?_
      refine AW.goto (t := 5) (dat D_X10_advance 14 rfl) rfl ?_
      cases h
      exact AW.to (hk3 _ rfl) (lle_s rfl (lle_s rfl (lle_z)))
def L_X10_open : List (Nat × Instr × Nat) := [(0, .aload_n 0, 1), (1, .iconst 0, 1), (2, .putfield 19, 3), (5, .aload_n 0, 1), (6, .invokevirtual 22, 3), (9, .return_, 1)]
theorem D_X10_open : dOK cX10_open L_X10_open = true := by decide +kernel
theorem cf_X10_open : CFV mX10_open 0 := ⟨wI_X10_open, wS_X10_open, wN_WaveRight_Text, wC_X10_open, rfl, ⟨by decide +kernel, by decide +kernel, by decide +kernel⟩, le45 rfl⟩
def X10_open (n : Nat) (σ : SG) : Option (SG) :=
  lt (up σ 15 4 0) fun σ1 =>
  (X10_advance n σ1).bind fun σ3 =>
  some (σ3)
set_option maxHeartbeats 4000000 in
set_option maxRecDepth 100000 in
theorem A_X10_open {Γ : GA} (hΓ : (gl Γ).stackTraces = false) {n : Nat} {σ : SG} {τ : SG}  (h : X10_open n σ = some τ) : AM Γ mX10_open 3 0 0 [vR 15] (85, σ) (0, 0) (85, τ) := by
  refine AM.of pl_X10 rfl wC_X10_open (le45 rfl) hΓ ?_
  refine AW.to (ls'' := [some (vR 15)]) ?_ (lle_s rfl (lle_z))
  unfold X10_open at h
  refine AW.aload_n (n := 1) (dat D_X10_open 0 rfl) rfl rfl ?_
  refine AW.iconst (n := 2) (dat D_X10_open 1 rfl) rfl ?_
  refine AW.putI (n := 5) fX10_4 wF_X10_19 ly_15 (le45 rfl) rfl rfl rfl (dat D_X10_open 2 rfl) rfl ?_
  refine AW.ltS h (fun σ1 h => ?_)
  refine AW.aload_n (n := 6) (dat D_X10_open 3 rfl) rfl rfl ?_
  obtain ⟨σ3, hc2, h⟩ := ob_some h
  refine AW.cV (n := 9) (as := []) (st := []) (st' := []) (uc' := 0) (us' := 0) (A_X10_advance hΓ hc2) cf_X10_advance ly_15 (le45 rfl) vc_10 (le45 rfl) wM_X10_22 (le45 rfl) (le45 rfl) (dat D_X10_open 4 rfl) rfl rfl (le45 rfl) (le45 rfl) rfl (fun _ => ?_) nlt0
  cases h
  exact AW.vret rfl rfl rfl (dat D_X10_open 5 rfl)
def L_X10_isSign : List (Nat × Instr × Nat) := [(0, .aload_n 0, 1), (1, .getfield 32, 3), (4, .iconst 3, 1), (5, .if_icmp .ne 31, 3), (8, .aload_n 0, 1), (9, .getfield 29, 3), (12, .aload_n 0, 1), (13, .getfield 15, 3), (16, .if_icmp .ge 20, 3), (19, .aload_n 0, 1), (20, .getfield 9, 3), (23, .aload_n 0, 1), (24, .getfield 29, 3), (27, .iaload, 1), (28, .iload_n 1, 1), (29, .if_icmp .ne 7, 3), (32, .iconst 1, 1), (33, .goto 4, 3), (36, .iconst 0, 1), (37, .ireturn, 1)]
theorem D_X10_isSign : dOK cX10_isSign L_X10_isSign = true := by decide +kernel
theorem cf_X10_isSign : CFV mX10_isSign 1 := ⟨wI_X10_isSign, wS_X10_isSign, wN_WaveRight_Text, wC_X10_isSign, rfl, ⟨by decide +kernel, by decide +kernel, by decide +kernel⟩, le45 rfl⟩
def X10_isSign (n : Nat) (a0 : Int) (σ : SG) : Option (Int) :=
  if w32 (σ 15 2) = 3 then
    if w32 (σ 15 1) ≤ w32 (σ 15 3) then
      some (0)
    else
      rdA 400 (σ 15 3) fun j1 =>
      if w32 (σ 16 j1) = w32 a0 then
        some (1)
      else
        some (0)
  else
    some (0)
set_option maxHeartbeats 4000000 in
set_option maxRecDepth 100000 in
theorem A_X10_isSign {Γ : GA} (hΓ : (gl Γ).stackTraces = false) {n : Nat} {a0 : Int} {σ : SG} {r : Int}  (h : X10_isSign n a0 σ = some r) : AM Γ mX10_isSign 1 0 0 [vR 15, vI a0] (85, σ) (0, r) (85, σ) := by
  refine AM.of pl_X10 rfl wC_X10_isSign (le45 rfl) hΓ ?_
  refine AW.to (ls'' := [some (vR 15), some (vI a0)]) ?_ (lle_s rfl (lle_s rfl (lle_z)))
  unfold X10_isSign at h
  refine AW.aload_n (n := 1) (dat D_X10_isSign 0 rfl) rfl rfl ?_
  refine AW.getI (n := 4) fX10_2 wF_X10_32 ly_15 (le45 rfl) rfl rfl (dat D_X10_isSign 1 rfl) rfl ?_
  refine AW.iconst (n := 5) (dat D_X10_isSign 2 rfl) rfl ?_
  refine AW.icmp_neH (t := 36) (n := 8) h (dat D_X10_isSign 3 rfl) rfl rfl rfl (by decide) (fun h => ?_) (fun h => ?_)
  · refine AW.aload_n (n := 9) (dat D_X10_isSign 4 rfl) rfl rfl ?_
    refine AW.getI (n := 12) fX10_3 wF_X10_29 ly_15 (le45 rfl) rfl rfl (dat D_X10_isSign 5 rfl) rfl ?_
    refine AW.aload_n (n := 13) (dat D_X10_isSign 6 rfl) rfl rfl ?_
    refine AW.getI (n := 16) fX10_1 wF_X10_15 ly_15 (le45 rfl) rfl rfl (dat D_X10_isSign 7 rfl) rfl ?_
    refine AW.icmp_geH (t := 36) (n := 19) h (dat D_X10_isSign 8 rfl) rfl rfl rfl rfl (fun h => ?_) (fun h => ?_)
    · refine AW.iconst (n := 37) (dat D_X10_isSign 18 rfl) rfl ?_
      cases h
      exact AW.zret rfl (by decide) rfl rfl (dat D_X10_isSign 19 rfl)
    · refine AW.aload_n (n := 20) (dat D_X10_isSign 9 rfl) rfl rfl ?_
      refine AW.getR (n := 23) (t := 16) fX10_0 wF_X10_9 ly_15 (le45 rfl) rfl (dat D_X10_isSign 10 rfl) rfl ?_
      refine AW.aload_n (n := 24) (dat D_X10_isSign 11 rfl) rfl rfl ?_
      refine AW.getI (n := 27) fX10_3 wF_X10_29 ly_15 (le45 rfl) rfl rfl (dat D_X10_isSign 12 rfl) rfl ?_
      refine AW.ialdH h (n := 28) rfl ly_16 (le45 rfl) (dat D_X10_isSign 13 rfl) rfl (fun j1 h => ?_)
      refine AW.iload_n (n := 29) (dat D_X10_isSign 14 rfl) rfl rfl ?_
      refine AW.icmp_neH (t := 36) (n := 32) h (dat D_X10_isSign 15 rfl) rfl rfl rfl rfl (fun h => ?_) (fun h => ?_)
      · refine AW.iconst (n := 33) (dat D_X10_isSign 16 rfl) rfl ?_
        refine AW.goto (t := 37) (dat D_X10_isSign 17 rfl) rfl ?_
        cases h
        exact AW.zret rfl (by decide) rfl rfl (dat D_X10_isSign 19 rfl)
      · refine AW.iconst (n := 37) (dat D_X10_isSign 18 rfl) rfl ?_
        cases h
        exact AW.zret rfl (by decide) rfl rfl (dat D_X10_isSign 19 rfl)
  · refine AW.iconst (n := 37) (dat D_X10_isSign 18 rfl) rfl ?_
    cases h
    exact AW.zret rfl (by decide) rfl rfl (dat D_X10_isSign 19 rfl)
def L_X10_passSign : List (Nat × Instr × Nat) := [(0, .aload_n 0, 1), (1, .iload_n 1, 1), (2, .invokevirtual 57, 3), (5, .istore_n 2, 1), (6, .iload_n 2, 1), (7, .ifCond .eq 7, 3), (10, .aload_n 0, 1), (11, .invokevirtual 22, 3), (14, .iload_n 2, 1), (15, .ireturn, 1)]
theorem D_X10_passSign : dOK cX10_passSign L_X10_passSign = true := by decide +kernel
theorem cf_X10_passSign : CFV mX10_passSign 1 := ⟨wI_X10_passSign, wS_X10_passSign, wN_WaveRight_Text, wC_X10_passSign, rfl, ⟨by decide +kernel, by decide +kernel, by decide +kernel⟩, le45 rfl⟩
def X10_passSign (n : Nat) (a0 : Int) (σ : SG) : Option (Int × SG) :=
  (X10_isSign n a0 σ).bind fun v2 =>
  if w32 v2 = 0 then
    some ((wZ v2, σ))
  else
    (X10_advance n σ).bind fun σ4 =>
    some ((wZ v2, σ4))
set_option maxHeartbeats 4000000 in
set_option maxRecDepth 100000 in
theorem A_X10_passSign {Γ : GA} (hΓ : (gl Γ).stackTraces = false) {n : Nat} {a0 : Int} {σ : SG} {r : Int} {τ : SG}  (h : X10_passSign n a0 σ = some (r, τ)) : AM Γ mX10_passSign 3 0 0 [vR 15, vI a0] (85, σ) (0, r) (85, τ) := by
  refine AM.of pl_X10 rfl wC_X10_passSign (le45 rfl) hΓ ?_
  refine AW.to (ls'' := [some (vR 15), some (vI a0), none]) ?_ (lle_s rfl (lle_s rfl (lle_e (lle_z))))
  unfold X10_passSign at h
  refine AW.aload_n (n := 1) (dat D_X10_passSign 0 rfl) rfl rfl ?_
  refine AW.iload_n (n := 2) (dat D_X10_passSign 1 rfl) rfl rfl ?_
  obtain ⟨v2, hc1, h⟩ := ob_some h
  refine AW.cV (n := 5) (as := [vI a0]) (st := []) (st' := [vI v2]) (uc' := 0) (us' := 0) (A_X10_isSign hΓ hc1) cf_X10_isSign ly_15 (le45 rfl) vc_10 (le45 rfl) wM_X10_57 (le45 rfl) (le45 rfl) (dat D_X10_passSign 2 rfl) rfl rfl (le45 rfl) (le45 rfl) rfl (fun _ => ?_) nlt0
  refine AW.istore_n (n := 6) (ls' := [some (vR 15), some (vI a0), some (vI v2)]) (dat D_X10_passSign 3 rfl) rfl (le45 rfl) (le45 rfl) rfl rfl ?_
  refine AW.iload_n (n := 7) (dat D_X10_passSign 4 rfl) rfl rfl ?_
  refine AW.if_eqH (t := 14) (n := 10) h (dat D_X10_passSign 5 rfl) rfl rfl (fun h => ?_) (fun h => ?_)
  · refine AW.iload_n (n := 15) (dat D_X10_passSign 8 rfl) rfl rfl ?_
    cases h
    exact AW.zret rfl rfl rfl rfl (dat D_X10_passSign 9 rfl)
  · refine AW.aload_n (n := 11) (dat D_X10_passSign 6 rfl) rfl rfl ?_
    obtain ⟨σ4, hc3, h⟩ := ob_some h
    refine AW.cV (n := 14) (as := []) (st := []) (st' := []) (uc' := 0) (us' := 0) (A_X10_advance hΓ hc3) cf_X10_advance ly_15 (le45 rfl) vc_10 (le45 rfl) wM_X10_22 (le45 rfl) (le45 rfl) (dat D_X10_passSign 7 rfl) rfl rfl (le45 rfl) (le45 rfl) rfl (fun _ => ?_) nlt0
    refine AW.iload_n (n := 15) (dat D_X10_passSign 8 rfl) rfl rfl ?_
    cases h
    exact AW.zret rfl rfl rfl rfl (dat D_X10_passSign 9 rfl)
def L_X6_clear : List (Nat × Instr × Nat) := [(0, .aload_n 0, 1), (1, .iconst 0, 1), (2, .putfield 31, 3), (5, .aload_n 0, 1), (6, .iconst 0, 1), (7, .putfield 34, 3), (10, .aload_n 0, 1), (11, .bipush 30, 2), (13, .putfield 27, 3), (16, .aload_n 0, 1), (17, .iconst 0, 1), (18, .putfield 37, 3), (21, .return_, 1)]
theorem D_X6_clear : dOK cX6_clear L_X6_clear = true := by decide +kernel
theorem cf_X6_clear : CFV mX6_clear 0 := ⟨wI_X6_clear, wS_X6_clear, wN_WaveRight_Sea, wC_X6_clear, rfl, ⟨by decide +kernel, by decide +kernel, by decide +kernel⟩, le45 rfl⟩
def X6_clear (n : Nat) (k : Nat) (σ : SG) : Option (SG) :=
  lt (up σ k 5 0) fun σ1 =>
  lt (up σ1 k 6 0) fun σ2 =>
  lt (up σ2 k 7 30) fun σ3 =>
  lt (up σ3 k 8 0) fun σ4 =>
  some (σ4)
set_option maxHeartbeats 4000000 in
set_option maxRecDepth 100000 in
theorem A_X6_clear {Γ : GA} (hΓ : (gl Γ).stackTraces = false) {n : Nat} {k : Nat} {σ : SG} {τ : SG} (hpk : isSea k = true) (h : X6_clear n k σ = some τ) : AM Γ mX6_clear 1 0 0 [vR k] (85, σ) (0, 0) (85, τ) := by
  refine AM.of pl_X6 rfl wC_X6_clear (le45 rfl) hΓ ?_
  refine AW.to (ls'' := [some (vR k)]) ?_ (lle_s rfl (lle_z))
  unfold X6_clear at h
  refine AW.aload_n (n := 1) (dat D_X6_clear 0 rfl) rfl rfl ?_
  refine AW.iconst (n := 2) (dat D_X6_clear 1 rfl) rfl ?_
  refine AW.putI (n := 5) fX6_5 wF_X6_31 (isSea_ly0 hpk) (by have := isSea_lt hpk; omega) rfl rfl rfl (dat D_X6_clear 2 rfl) rfl ?_
  refine AW.ltS h (fun σ1 h => ?_)
  refine AW.aload_n (n := 6) (dat D_X6_clear 3 rfl) rfl rfl ?_
  refine AW.iconst (n := 7) (dat D_X6_clear 4 rfl) rfl ?_
  refine AW.putI (n := 10) fX6_6 wF_X6_34 (isSea_ly0 hpk) (by have := isSea_lt hpk; omega) rfl rfl rfl (dat D_X6_clear 5 rfl) rfl ?_
  refine AW.ltS h (fun σ2 h => ?_)
  refine AW.aload_n (n := 11) (dat D_X6_clear 6 rfl) rfl rfl ?_
  refine AW.bipush (n := 13) (dat D_X6_clear 7 rfl) rfl (by decide) ?_
  refine AW.putI (n := 16) fX6_7 wF_X6_27 (isSea_ly0 hpk) (by have := isSea_lt hpk; omega) rfl rfl rfl (dat D_X6_clear 8 rfl) rfl ?_
  refine AW.ltS h (fun σ3 h => ?_)
  refine AW.aload_n (n := 17) (dat D_X6_clear 9 rfl) rfl rfl ?_
  refine AW.iconst (n := 18) (dat D_X6_clear 10 rfl) rfl ?_
  refine AW.putI (n := 21) fX6_8 wF_X6_37 (isSea_ly0 hpk) (by have := isSea_lt hpk; omega) rfl rfl rfl (dat D_X6_clear 11 rfl) rfl ?_
  refine AW.ltS h (fun σ4 h => ?_)
  cases h
  exact AW.vret rfl rfl rfl (dat D_X6_clear 12 rfl)
def L_X10_isWord : List (Nat × Instr × Nat) := [(0, .aload_n 0, 1), (1, .getfield 32, 3), (4, .iconst 1, 1), (5, .if_icmp .ne 19, 3), (8, .aload_n 1, 1), (9, .invokevirtual 44, 3), (12, .aload_n 0, 1), (13, .getfield 19, 3), (16, .aload_n 0, 1), (17, .getfield 29, 3), (20, .isub, 1), (21, .if_icmp .eq 5, 3), (24, .iconst 0, 1), (25, .ireturn, 1), (26, .iconst 0, 1), (27, .istore_n 2, 1), (28, .iload_n 2, 1), (29, .aload_n 1, 1), (30, .invokevirtual 44, 3), (33, .if_icmp .ge 43, 3), (36, .aload_n 0, 1), (37, .getfield 29, 3), (40, .iload_n 2, 1), (41, .iadd, 1), (42, .aload_n 0, 1), (43, .getfield 15, 3), (46, .if_icmp .ge 30, 3), (49, .aload_n 0, 1), (50, .getfield 9, 3), (53, .aload_n 0, 1), (54, .getfield 29, 3), (57, .iload_n 2, 1), (58, .iadd, 1), (59, .iaload, 1), (60, .aload_n 1, 1), (61, .iload_n 2, 1), (62, .invokevirtual 49, 3), (65, .if_icmp .eq 5, 3), (68, .iconst 0, 1), (69, .ireturn, 1), (70, .iinc 2 1, 3), (73, .goto (-45), 3), (76, .iconst 1, 1), (77, .ireturn, 1)]
theorem D_X10_isWord : dOK cX10_isWord L_X10_isWord = true := by decide +kernel
theorem cf_X10_isWord : CFV mX10_isWord 1 := ⟨wI_X10_isWord, wS_X10_isWord, wN_WaveRight_Text, wC_X10_isWord, rfl, ⟨by decide +kernel, by decide +kernel, by decide +kernel⟩, le45 rfl⟩
def X10_isWord_e28 (n : Nat) : Option (Int) :=
  some (1)
def X10_isWord_l28 (n : Nat) (a0 : Nat) (σ : SG) (z1 : Int) : Option ((Int) ⊕ ((Unit) ⊕ (Int))) :=
  if w32 ((strB a0).length : Int) ≤ w32 z1 then
    some (.inr (.inl ()))
  else
    if w32 (σ 15 1) ≤ w32 ((σ 15 3) + z1) then
      some (.inr (.inl ()))
    else
      rdA 400 ((σ 15 3) + z1) fun j3 =>
      rdA (strB a0).length z1 fun j4 =>
      if w32 (σ 16 j3) = w32 ((strB a0).getD j4 0) then
        lt (z1 + 1) fun x5 =>
        some (.inl x5)
      else
        some (.inr (.inr 0))
def X10_isWord (n : Nat) (a0 : Nat) (σ : SG) : Option (Int) :=
  if w32 (σ 15 2) = 1 then
    if w32 ((strB a0).length : Int) = w32 ((σ 15 4) - (σ 15 3)) then
      ((iter n (fun s : Int => X10_isWord_l28 n a0 σ s) 0) : Option ((Unit) ⊕ (Int))).bind (orr (fun s => X10_isWord_e28 n))
    else
      some (0)
  else
    some (0)
set_option maxHeartbeats 4000000 in
set_option maxRecDepth 100000 in
theorem A_X10_isWord {Γ : GA} (hΓ : (gl Γ).stackTraces = false) {n : Nat} {a0 : Nat} {σ : SG} {r : Int} (hs0 : a0 < strN) (h : X10_isWord n a0 σ = some r) : AM Γ mX10_isWord 9 0 0 [vR 15, vO a0] (85, σ) (0, r) (85, σ) := by
  refine AM.of pl_X10 rfl wC_X10_isWord (le45 rfl) hΓ ?_
  refine AW.to (ls'' := [some (vR 15), some (vO a0), none]) ?_ (lle_s rfl (lle_s rfl (lle_e (lle_z))))
  unfold X10_isWord at h
  refine AW.aload_n (n := 1) (dat D_X10_isWord 0 rfl) rfl rfl ?_
  refine AW.getI (n := 4) fX10_2 wF_X10_32 ly_15 (le45 rfl) rfl rfl (dat D_X10_isWord 1 rfl) rfl ?_
  refine AW.iconst (n := 5) (dat D_X10_isWord 2 rfl) rfl ?_
  refine AW.icmp_neH (t := 24) (n := 8) h (dat D_X10_isWord 3 rfl) rfl rfl rfl (by decide) (fun h => ?_) (fun h => ?_)
  · refine AW.oload_n (n := 9) (dat D_X10_isWord 4 rfl) rfl rfl ?_
    refine AW.cO (n := 12) (uc' := 0) (us' := 0) (as := []) (st := []) (st' := [vI ((strB a0).length : Int)]) (A_J0_length hΓ hs0) cf_J0_length hs0 rfl wM_X10_44 (le45 rfl) (le45 rfl) (dat D_X10_isWord 5 rfl) rfl rfl (le45 rfl) (le45 rfl) rfl (fun _ => ?_) nlt0
    refine AW.aload_n (n := 13) (dat D_X10_isWord 6 rfl) rfl rfl ?_
    refine AW.getI (n := 16) fX10_4 wF_X10_19 ly_15 (le45 rfl) rfl rfl (dat D_X10_isWord 7 rfl) rfl ?_
    refine AW.aload_n (n := 17) (dat D_X10_isWord 8 rfl) rfl rfl ?_
    refine AW.getI (n := 20) fX10_3 wF_X10_29 ly_15 (le45 rfl) rfl rfl (dat D_X10_isWord 9 rfl) rfl ?_
    refine AW.isub (n := 21) (dat D_X10_isWord 10 rfl) rfl ?_
    refine AW.icmp_eqH (t := 26) (n := 24) h (dat D_X10_isWord 11 rfl) rfl rfl rfl rfl (fun h => ?_) (fun h => ?_)
    · refine AW.iconst (n := 27) (dat D_X10_isWord 14 rfl) rfl ?_
      refine AW.istore_n (n := 28) (ls' := [some (vR 15), some (vO a0), some (vI 0)]) (dat D_X10_isWord 15 rfl) rfl (le45 rfl) (le45 rfl) rfl rfl ?_
      obtain ⟨b2, hi2, hq2⟩ := ob_some h
      have hR2 : ∀ (_ : Unit), b2 = .inl () → AW Γ mX10_isWord 9 (0, r) (85, σ) 0 0 76 [none, none, none] [] (85, σ) := by
        intro _ e
        subst e
        have h : X10_isWord_e28 n = some _ := hq2
        unfold X10_isWord_e28 at h
        refine AW.iconst (n := 77) (dat D_X10_isWord 42 rfl) rfl ?_
        cases h
        exact AW.zret rfl (by decide) rfl rfl (dat D_X10_isWord 43 rfl)
      refine AW.to (ls'' := [some (vR 15), some (vO a0), some (vI 0)]) ?_ (lle_s rfl (lle_s rfl (lle_s rfl (lle_z))))
      refine aw_iter (fun s : Int => AW Γ mX10_isWord 9 (0, r) (85, σ) 0 0 28 [some (vR 15), some (vO a0), some (vI s)] [] (85, σ)) (fun s y h hk2 hb2 => ?_) _ _ hi2
      obtain ⟨z1, e2⟩ : ∃ z, z = s := ⟨_, rfl⟩
      subst e2
      show AW Γ mX10_isWord 9 (0, r) (85, σ) 0 0 28 [some (vR 15), some (vO a0), some (vI z1)] [] (85, σ)
      have h : X10_isWord_l28 n a0 σ z1 = some y := h
      unfold X10_isWord_l28 at h
      refine AW.iload_n (n := 29) (dat D_X10_isWord 16 rfl) rfl rfl ?_
      refine AW.oload_n (n := 30) (dat D_X10_isWord 17 rfl) rfl rfl ?_
      refine AW.cO (n := 33) (uc' := 0) (us' := 0) (as := []) (st := [vI z1]) (st' := [vI ((strB a0).length : Int), vI z1]) (A_J0_length hΓ hs0) cf_J0_length hs0 rfl wM_X10_44 (le45 rfl) (le45 rfl) (dat D_X10_isWord 18 rfl) rfl rfl (le45 rfl) (le45 rfl) rfl (fun _ => ?_) nlt0
      refine AW.icmp_geH (t := 76) (n := 36) h (dat D_X10_isWord 19 rfl) rfl rfl rfl rfl (fun h => ?_) (fun h => ?_)
      · cases h
        have hb := hb2 _ rfl
        exact AW.to (hR2 () hb.symm) (lle_n (lle_n (lle_n (lle_z))))
      · refine AW.aload_n (n := 37) (dat D_X10_isWord 20 rfl) rfl rfl ?_
        refine AW.getI (n := 40) fX10_3 wF_X10_29 ly_15 (le45 rfl) rfl rfl (dat D_X10_isWord 21 rfl) rfl ?_
        refine AW.iload_n (n := 41) (dat D_X10_isWord 22 rfl) rfl rfl ?_
        refine AW.iadd (n := 42) (dat D_X10_isWord 23 rfl) rfl ?_
        refine AW.aload_n (n := 43) (dat D_X10_isWord 24 rfl) rfl rfl ?_
        refine AW.getI (n := 46) fX10_1 wF_X10_15 ly_15 (le45 rfl) rfl rfl (dat D_X10_isWord 25 rfl) rfl ?_
        refine AW.icmp_geH (t := 76) (n := 49) h (dat D_X10_isWord 26 rfl) rfl rfl rfl rfl (fun h => ?_) (fun h => ?_)
        · cases h
          have hb := hb2 _ rfl
          exact AW.to (hR2 () hb.symm) (lle_n (lle_n (lle_n (lle_z))))
        · refine AW.aload_n (n := 50) (dat D_X10_isWord 27 rfl) rfl rfl ?_
          refine AW.getR (n := 53) (t := 16) fX10_0 wF_X10_9 ly_15 (le45 rfl) rfl (dat D_X10_isWord 28 rfl) rfl ?_
          refine AW.aload_n (n := 54) (dat D_X10_isWord 29 rfl) rfl rfl ?_
          refine AW.getI (n := 57) fX10_3 wF_X10_29 ly_15 (le45 rfl) rfl rfl (dat D_X10_isWord 30 rfl) rfl ?_
          refine AW.iload_n (n := 58) (dat D_X10_isWord 31 rfl) rfl rfl ?_
          refine AW.iadd (n := 59) (dat D_X10_isWord 32 rfl) rfl ?_
          refine AW.ialdH h (n := 60) rfl ly_16 (le45 rfl) (dat D_X10_isWord 33 rfl) rfl (fun j3 h => ?_)
          refine AW.oload_n (n := 61) (dat D_X10_isWord 34 rfl) rfl rfl ?_
          refine AW.iload_n (n := 62) (dat D_X10_isWord 35 rfl) rfl rfl ?_
          obtain ⟨j4, hij4, h⟩ := rdA_ex h
          refine AW.cO (n := 65) (uc' := 0) (us' := 0) (as := [vI z1]) (st := [vI (σ 16 j3)]) (st' := [vI ((strB a0).getD j4 0), vI (σ 16 j3)]) (A_J0_charAt hΓ hs0 hij4) cf_J0_charAt hs0 rfl wM_X10_49 (le45 rfl) (le45 rfl) (dat D_X10_isWord 36 rfl) rfl rfl (le45 rfl) (le45 rfl) rfl (fun _ => ?_) nlt0
          refine AW.icmp_eqH (t := 70) (n := 68) h (dat D_X10_isWord 37 rfl) rfl rfl rfl rfl (fun h => ?_) (fun h => ?_)
          · refine AW.iincH h (n := 73) (dat D_X10_isWord 40 rfl) rfl rfl (le45 rfl) rfl (fun x5 h => ?_)
            refine AW.lq (ls' := [some (vR 15), some (vO a0), some (vI x5)]) rfl ?_
            refine AW.goto (t := 28) (dat D_X10_isWord 41 rfl) rfl ?_
            cases h
            exact AW.to (hk2 _ rfl) (lle_s rfl (lle_s rfl (lle_s rfl (lle_z))))
          · refine AW.iconst (n := 69) (dat D_X10_isWord 38 rfl) rfl ?_
            cases h
            have hb := hb2 _ rfl
            subst hb
            have h := hq2
            have h : some _ = some _ := h
            cases h
            exact AW.zret rfl (by decide) rfl rfl (dat D_X10_isWord 39 rfl)
    · refine AW.iconst (n := 25) (dat D_X10_isWord 12 rfl) rfl ?_
      cases h
      exact AW.zret rfl (by decide) rfl rfl (dat D_X10_isWord 13 rfl)
  · refine AW.iconst (n := 25) (dat D_X10_isWord 12 rfl) rfl ?_
    cases h
    exact AW.zret rfl (by decide) rfl rfl (dat D_X10_isWord 13 rfl)
def L_X10_passNumber : List (Nat × Instr × Nat) := [(0, .aload_n 0, 1), (1, .getfield 32, 3), (4, .iconst 2, 1), (5, .if_icmp .ne 32, 3), (8, .aload_n 0, 1), (9, .getfield 19, 3), (12, .aload_n 0, 1), (13, .getfield 29, 3), (16, .isub, 1), (17, .iload_n 3, 1), (18, .if_icmp .gt 19, 3), (21, .aload_n 0, 1), (22, .getfield 41, 3), (25, .iload_n 1, 1), (26, .if_icmp .lt 11, 3), (29, .aload_n 0, 1), (30, .getfield 41, 3), (33, .iload_n 2, 1), (34, .if_icmp .le 5, 3), (37, .iconst (-1), 1), (38, .ireturn, 1), (39, .aload_n 0, 1), (40, .getfield 41, 3), (43, .istore 4, 2), (45, .aload_n 0, 1), (46, .invokevirtual 22, 3), (49, .iload 4, 2), (51, .ireturn, 1)]
theorem D_X10_passNumber : dOK cX10_passNumber L_X10_passNumber = true := by decide +kernel
theorem cf_X10_passNumber : CFV mX10_passNumber 3 := ⟨wI_X10_passNumber, wS_X10_passNumber, wN_WaveRight_Text, wC_X10_passNumber, rfl, ⟨by decide +kernel, by decide +kernel, by decide +kernel⟩, le45 rfl⟩
def X10_passNumber (n : Nat) (a0 : Int) (a1 : Int) (a2 : Int) (σ : SG) : Option (Int × SG) :=
  if w32 (σ 15 2) = 2 then
    if w32 a2 < w32 ((σ 15 4) - (σ 15 3)) then
      some (((-1), σ))
    else
      if w32 (σ 15 5) < w32 a0 then
        some (((-1), σ))
      else
        if w32 (σ 15 5) ≤ w32 a1 then
          lt (σ 15 5) fun x1 =>
          (X10_advance n σ).bind fun σ3 =>
          some ((x1, σ3))
        else
          some (((-1), σ))
  else
    some (((-1), σ))
set_option maxHeartbeats 4000000 in
set_option maxRecDepth 100000 in
theorem A_X10_passNumber {Γ : GA} (hΓ : (gl Γ).stackTraces = false) {n : Nat} {a0 : Int} {a1 : Int} {a2 : Int} {σ : SG} {r : Int} {τ : SG}  (h : X10_passNumber n a0 a1 a2 σ = some (r, τ)) : AM Γ mX10_passNumber 3 0 0 [vR 15, vI a0, vI a1, vI a2] (85, σ) (0, r) (85, τ) := by
  refine AM.of pl_X10 rfl wC_X10_passNumber (le45 rfl) hΓ ?_
  refine AW.to (ls'' := [some (vR 15), some (vI a0), some (vI a1), some (vI a2), none]) ?_ (lle_s rfl (lle_s rfl (lle_s rfl (lle_s rfl (lle_e (lle_z))))))
  unfold X10_passNumber at h
  refine AW.aload_n (n := 1) (dat D_X10_passNumber 0 rfl) rfl rfl ?_
  refine AW.getI (n := 4) fX10_2 wF_X10_32 ly_15 (le45 rfl) rfl rfl (dat D_X10_passNumber 1 rfl) rfl ?_
  refine AW.iconst (n := 5) (dat D_X10_passNumber 2 rfl) rfl ?_
  refine AW.icmp_neH (t := 37) (n := 8) h (dat D_X10_passNumber 3 rfl) rfl rfl rfl (by decide) (fun h => ?_) (fun h => ?_)
  · refine AW.aload_n (n := 9) (dat D_X10_passNumber 4 rfl) rfl rfl ?_
    refine AW.getI (n := 12) fX10_4 wF_X10_19 ly_15 (le45 rfl) rfl rfl (dat D_X10_passNumber 5 rfl) rfl ?_
    refine AW.aload_n (n := 13) (dat D_X10_passNumber 6 rfl) rfl rfl ?_
    refine AW.getI (n := 16) fX10_3 wF_X10_29 ly_15 (le45 rfl) rfl rfl (dat D_X10_passNumber 7 rfl) rfl ?_
    refine AW.isub (n := 17) (dat D_X10_passNumber 8 rfl) rfl ?_
    refine AW.iload_n (n := 18) (dat D_X10_passNumber 9 rfl) rfl rfl ?_
    refine AW.icmp_gtH (t := 37) (n := 21) h (dat D_X10_passNumber 10 rfl) rfl rfl rfl rfl (fun h => ?_) (fun h => ?_)
    · refine AW.iconst (n := 38) (dat D_X10_passNumber 19 rfl) rfl ?_
      cases h
      exact AW.iret rfl rfl rfl (dat D_X10_passNumber 20 rfl)
    · refine AW.aload_n (n := 22) (dat D_X10_passNumber 11 rfl) rfl rfl ?_
      refine AW.getI (n := 25) fX10_5 wF_X10_41 ly_15 (le45 rfl) rfl rfl (dat D_X10_passNumber 12 rfl) rfl ?_
      refine AW.iload_n (n := 26) (dat D_X10_passNumber 13 rfl) rfl rfl ?_
      refine AW.icmp_ltH (t := 37) (n := 29) h (dat D_X10_passNumber 14 rfl) rfl rfl rfl rfl (fun h => ?_) (fun h => ?_)
      · refine AW.iconst (n := 38) (dat D_X10_passNumber 19 rfl) rfl ?_
        cases h
        exact AW.iret rfl rfl rfl (dat D_X10_passNumber 20 rfl)
      · refine AW.aload_n (n := 30) (dat D_X10_passNumber 15 rfl) rfl rfl ?_
        refine AW.getI (n := 33) fX10_5 wF_X10_41 ly_15 (le45 rfl) rfl rfl (dat D_X10_passNumber 16 rfl) rfl ?_
        refine AW.iload_n (n := 34) (dat D_X10_passNumber 17 rfl) rfl rfl ?_
        refine AW.icmp_leH (t := 39) (n := 37) h (dat D_X10_passNumber 18 rfl) rfl rfl rfl rfl (fun h => ?_) (fun h => ?_)
        · refine AW.aload_n (n := 40) (dat D_X10_passNumber 21 rfl) rfl rfl ?_
          refine AW.getI (n := 43) fX10_5 wF_X10_41 ly_15 (le45 rfl) rfl rfl (dat D_X10_passNumber 22 rfl) rfl ?_
          refine AW.ltI h (fun x1 h => ?_)
          refine AW.istore (n := 45) (ls' := [some (vR 15), some (vI a0), some (vI a1), some (vI a2), some (vI x1)]) (dat D_X10_passNumber 23 rfl) rfl (le45 rfl) (le45 rfl) rfl rfl ?_
          refine AW.aload_n (n := 46) (dat D_X10_passNumber 24 rfl) rfl rfl ?_
          obtain ⟨σ3, hc2, h⟩ := ob_some h
          refine AW.cV (n := 49) (as := []) (st := []) (st' := []) (uc' := 0) (us' := 0) (A_X10_advance hΓ hc2) cf_X10_advance ly_15 (le45 rfl) vc_10 (le45 rfl) wM_X10_22 (le45 rfl) (le45 rfl) (dat D_X10_passNumber 25 rfl) rfl rfl (le45 rfl) (le45 rfl) rfl (fun _ => ?_) nlt0
          refine AW.iload (n := 51) (dat D_X10_passNumber 26 rfl) rfl rfl ?_
          cases h
          exact AW.iret rfl rfl rfl (dat D_X10_passNumber 27 rfl)
        · refine AW.iconst (n := 38) (dat D_X10_passNumber 19 rfl) rfl ?_
          cases h
          exact AW.iret rfl rfl rfl (dat D_X10_passNumber 20 rfl)
  · refine AW.iconst (n := 38) (dat D_X10_passNumber 19 rfl) rfl ?_
    cases h
    exact AW.iret rfl rfl rfl (dat D_X10_passNumber 20 rfl)
def L_X7_passAgain : List (Nat × Instr × Nat) := [(0, .aload_n 0, 1), (1, .getfield 28, 3), (4, .ifCond .eq 5, 3), (7, .iconst 0, 1), (8, .ireturn, 1), (9, .aload_n 0, 1), (10, .iconst 1, 1), (11, .putfield 28, 3), (14, .aload_n 0, 1), (15, .getfield 9, 3), (18, .invokevirtual 78, 3), (21, .aload_n 0, 1), (22, .getfield 15, 3), (25, .aload_n 0, 1), (26, .getfield 9, 3), (29, .iconst 0, 1), (30, .bipush 30, 2), (32, .iconst 2, 1), (33, .invokevirtual 93, 3), (36, .putfield 126, 3), (39, .aload_n 0, 1), (40, .getfield 15, 3), (43, .getfield 126, 3), (46, .iconst (-1), 1), (47, .if_icmp .eq 7, 3), (50, .iconst 1, 1), (51, .goto 4, 3), (54, .iconst 0, 1), (55, .ireturn, 1)]
theorem D_X7_passAgain : dOK cX7_passAgain L_X7_passAgain = true := by decide +kernel
theorem cf_X7_passAgain : CFV mX7_passAgain 0 := ⟨wI_X7_passAgain, wS_X7_passAgain, wN_WaveRight_SeaReader, wC_X7_passAgain, rfl, ⟨by decide +kernel, by decide +kernel, by decide +kernel⟩, le45 rfl⟩
def X7_passAgain (n : Nat) (σ : SG) : Option (Int × SG) :=
  if w32 (σ 17 3) = 0 then
    lt (up σ 17 3 1) fun σ1 =>
    (X10_advance n σ1).bind fun σ3 =>
    ckR isSea (σ3 17 1) fun k4 =>
    bnd2 (X10_passNumber n 0 30 2 σ3) fun v6 σ7 =>
    lt (up σ7 k4 8 v6) fun σ8 =>
    ckR isSea (σ8 17 1) fun k9 =>
    if w32 (σ8 k9 8) = (-1) then
      some ((0, σ8))
    else
      some ((1, σ8))
  else
    some ((0, σ))
set_option maxHeartbeats 4000000 in
set_option maxRecDepth 100000 in
theorem A_X7_passAgain {Γ : GA} (hΓ : (gl Γ).stackTraces = false) {n : Nat} {σ : SG} {r : Int} {τ : SG}  (h : X7_passAgain n σ = some (r, τ)) : AM Γ mX7_passAgain 4 0 0 [vR 17] (85, σ) (0, r) (85, τ) := by
  refine AM.of pl_X7 rfl wC_X7_passAgain (le45 rfl) hΓ ?_
  refine AW.to (ls'' := [some (vR 17)]) ?_ (lle_s rfl (lle_z))
  unfold X7_passAgain at h
  refine AW.aload_n (n := 1) (dat D_X7_passAgain 0 rfl) rfl rfl ?_
  refine AW.getI (n := 4) fX7_3 wF_X7_28 ly_17 (le45 rfl) rfl rfl (dat D_X7_passAgain 1 rfl) rfl ?_
  refine AW.if_eqH (t := 9) (n := 7) h (dat D_X7_passAgain 2 rfl) rfl rfl (fun h => ?_) (fun h => ?_)
  · refine AW.aload_n (n := 10) (dat D_X7_passAgain 5 rfl) rfl rfl ?_
    refine AW.iconst (n := 11) (dat D_X7_passAgain 6 rfl) rfl ?_
    refine AW.putZ (n := 14) (Or.inr rfl) fX7_3 wF_X7_28 ly_17 (le45 rfl) rfl rfl rfl (dat D_X7_passAgain 7 rfl) rfl ?_
    refine AW.ltS h (fun σ1 h => ?_)
    refine AW.aload_n (n := 15) (dat D_X7_passAgain 8 rfl) rfl rfl ?_
    refine AW.getR (n := 18) (t := 15) fX7_0 wF_X7_9 ly_17 (le45 rfl) rfl (dat D_X7_passAgain 9 rfl) rfl ?_
    obtain ⟨σ3, hc2, h⟩ := ob_some h
    refine AW.cV (n := 21) (as := []) (st := []) (st' := []) (uc' := 0) (us' := 0) (A_X10_advance hΓ hc2) cf_X10_advance ly_15 (le45 rfl) vc_10 (le45 rfl) wM_X7_78 (le45 rfl) (le45 rfl) (dat D_X7_passAgain 10 rfl) rfl rfl (le45 rfl) (le45 rfl) rfl (fun _ => ?_) nlt0
    refine AW.aload_n (n := 22) (dat D_X7_passAgain 11 rfl) rfl rfl ?_
    refine AW.getQH h (n := 25) fX7_1 wF_X7_15 ly_17 (le45 rfl) rfl rfl (dat D_X7_passAgain 12 rfl) rfl (fun k4 hpk4 h => ?_)
    refine AW.aload_n (n := 26) (dat D_X7_passAgain 13 rfl) rfl rfl ?_
    refine AW.getR (n := 29) (t := 15) fX7_0 wF_X7_9 ly_17 (le45 rfl) rfl (dat D_X7_passAgain 14 rfl) rfl ?_
    refine AW.iconst (n := 30) (dat D_X7_passAgain 15 rfl) rfl ?_
    refine AW.bipush (n := 32) (dat D_X7_passAgain 16 rfl) rfl (by decide) ?_
    refine AW.iconst (n := 33) (dat D_X7_passAgain 17 rfl) rfl ?_
    obtain ⟨v6, σ7, hc5, h⟩ := bnd2_some h
    refine AW.cV (n := 36) (as := [vI 0, vI 30, vI 2]) (st := [vR k4]) (st' := [vI v6, vR k4]) (uc' := 0) (us' := 0) (A_X10_passNumber hΓ hc5) cf_X10_passNumber ly_15 (le45 rfl) vc_10 (le45 rfl) wM_X7_93 (le45 rfl) (le45 rfl) (dat D_X7_passAgain 18 rfl) rfl rfl (le45 rfl) (le45 rfl) rfl (fun _ => ?_) nlt0
    refine AW.putI (n := 39) fX6_8 wF_X7_126 (isSea_ly0 hpk4) (by have := isSea_lt hpk4; omega) rfl rfl rfl (dat D_X7_passAgain 19 rfl) rfl ?_
    refine AW.ltS h (fun σ8 h => ?_)
    refine AW.aload_n (n := 40) (dat D_X7_passAgain 20 rfl) rfl rfl ?_
    refine AW.getQH h (n := 43) fX7_1 wF_X7_15 ly_17 (le45 rfl) rfl rfl (dat D_X7_passAgain 21 rfl) rfl (fun k9 hpk9 h => ?_)
    refine AW.getI (n := 46) fX6_8 wF_X7_126 (isSea_ly0 hpk9) (by have := isSea_lt hpk9; omega) rfl rfl (dat D_X7_passAgain 22 rfl) rfl ?_
    refine AW.iconst (n := 47) (dat D_X7_passAgain 23 rfl) rfl ?_
    refine AW.icmp_eqH (t := 54) (n := 50) h (dat D_X7_passAgain 24 rfl) rfl rfl rfl (by decide) (fun h => ?_) (fun h => ?_)
    · refine AW.iconst (n := 55) (dat D_X7_passAgain 27 rfl) rfl ?_
      cases h
      exact AW.zret rfl (by decide) rfl rfl (dat D_X7_passAgain 28 rfl)
    · refine AW.iconst (n := 51) (dat D_X7_passAgain 25 rfl) rfl ?_
      refine AW.goto (t := 55) (dat D_X7_passAgain 26 rfl) rfl ?_
      cases h
      exact AW.zret rfl (by decide) rfl rfl (dat D_X7_passAgain 28 rfl)
  · refine AW.iconst (n := 8) (dat D_X7_passAgain 3 rfl) rfl ?_
    cases h
    exact AW.zret rfl (by decide) rfl rfl (dat D_X7_passAgain 4 rfl)
def L_X7_passMinutes : List (Nat × Instr × Nat) := [(0, .aload_n 0, 1), (1, .getfield 24, 3), (4, .ifCond .eq 5, 3), (7, .iconst 0, 1), (8, .ireturn, 1), (9, .aload_n 0, 1), (10, .iconst 1, 1), (11, .putfield 24, 3), (14, .aload_n 0, 1), (15, .getfield 9, 3), (18, .invokevirtual 78, 3), (21, .aload_n 0, 1), (22, .getfield 15, 3), (25, .aload_n 0, 1), (26, .getfield 9, 3), (29, .iconst 1, 1), (30, .bipush 60, 2), (32, .iconst 2, 1), (33, .invokevirtual 93, 3), (36, .putfield 123, 3), (39, .aload_n 0, 1), (40, .getfield 15, 3), (43, .getfield 123, 3), (46, .iconst (-1), 1), (47, .if_icmp .eq 7, 3), (50, .iconst 1, 1), (51, .goto 4, 3), (54, .iconst 0, 1), (55, .ireturn, 1)]
theorem D_X7_passMinutes : dOK cX7_passMinutes L_X7_passMinutes = true := by decide +kernel
theorem cf_X7_passMinutes : CFV mX7_passMinutes 0 := ⟨wI_X7_passMinutes, wS_X7_passMinutes, wN_WaveRight_SeaReader, wC_X7_passMinutes, rfl, ⟨by decide +kernel, by decide +kernel, by decide +kernel⟩, le45 rfl⟩
def X7_passMinutes (n : Nat) (σ : SG) : Option (Int × SG) :=
  if w32 (σ 17 2) = 0 then
    lt (up σ 17 2 1) fun σ1 =>
    (X10_advance n σ1).bind fun σ3 =>
    ckR isSea (σ3 17 1) fun k4 =>
    bnd2 (X10_passNumber n 1 60 2 σ3) fun v6 σ7 =>
    lt (up σ7 k4 7 v6) fun σ8 =>
    ckR isSea (σ8 17 1) fun k9 =>
    if w32 (σ8 k9 7) = (-1) then
      some ((0, σ8))
    else
      some ((1, σ8))
  else
    some ((0, σ))
set_option maxHeartbeats 4000000 in
set_option maxRecDepth 100000 in
theorem A_X7_passMinutes {Γ : GA} (hΓ : (gl Γ).stackTraces = false) {n : Nat} {σ : SG} {r : Int} {τ : SG}  (h : X7_passMinutes n σ = some (r, τ)) : AM Γ mX7_passMinutes 4 0 0 [vR 17] (85, σ) (0, r) (85, τ) := by
  refine AM.of pl_X7 rfl wC_X7_passMinutes (le45 rfl) hΓ ?_
  refine AW.to (ls'' := [some (vR 17)]) ?_ (lle_s rfl (lle_z))
  unfold X7_passMinutes at h
  refine AW.aload_n (n := 1) (dat D_X7_passMinutes 0 rfl) rfl rfl ?_
  refine AW.getI (n := 4) fX7_2 wF_X7_24 ly_17 (le45 rfl) rfl rfl (dat D_X7_passMinutes 1 rfl) rfl ?_
  refine AW.if_eqH (t := 9) (n := 7) h (dat D_X7_passMinutes 2 rfl) rfl rfl (fun h => ?_) (fun h => ?_)
  · refine AW.aload_n (n := 10) (dat D_X7_passMinutes 5 rfl) rfl rfl ?_
    refine AW.iconst (n := 11) (dat D_X7_passMinutes 6 rfl) rfl ?_
    refine AW.putZ (n := 14) (Or.inr rfl) fX7_2 wF_X7_24 ly_17 (le45 rfl) rfl rfl rfl (dat D_X7_passMinutes 7 rfl) rfl ?_
    refine AW.ltS h (fun σ1 h => ?_)
    refine AW.aload_n (n := 15) (dat D_X7_passMinutes 8 rfl) rfl rfl ?_
    refine AW.getR (n := 18) (t := 15) fX7_0 wF_X7_9 ly_17 (le45 rfl) rfl (dat D_X7_passMinutes 9 rfl) rfl ?_
    obtain ⟨σ3, hc2, h⟩ := ob_some h
    refine AW.cV (n := 21) (as := []) (st := []) (st' := []) (uc' := 0) (us' := 0) (A_X10_advance hΓ hc2) cf_X10_advance ly_15 (le45 rfl) vc_10 (le45 rfl) wM_X7_78 (le45 rfl) (le45 rfl) (dat D_X7_passMinutes 10 rfl) rfl rfl (le45 rfl) (le45 rfl) rfl (fun _ => ?_) nlt0
    refine AW.aload_n (n := 22) (dat D_X7_passMinutes 11 rfl) rfl rfl ?_
    refine AW.getQH h (n := 25) fX7_1 wF_X7_15 ly_17 (le45 rfl) rfl rfl (dat D_X7_passMinutes 12 rfl) rfl (fun k4 hpk4 h => ?_)
    refine AW.aload_n (n := 26) (dat D_X7_passMinutes 13 rfl) rfl rfl ?_
    refine AW.getR (n := 29) (t := 15) fX7_0 wF_X7_9 ly_17 (le45 rfl) rfl (dat D_X7_passMinutes 14 rfl) rfl ?_
    refine AW.iconst (n := 30) (dat D_X7_passMinutes 15 rfl) rfl ?_
    refine AW.bipush (n := 32) (dat D_X7_passMinutes 16 rfl) rfl (by decide) ?_
    refine AW.iconst (n := 33) (dat D_X7_passMinutes 17 rfl) rfl ?_
    obtain ⟨v6, σ7, hc5, h⟩ := bnd2_some h
    refine AW.cV (n := 36) (as := [vI 1, vI 60, vI 2]) (st := [vR k4]) (st' := [vI v6, vR k4]) (uc' := 0) (us' := 0) (A_X10_passNumber hΓ hc5) cf_X10_passNumber ly_15 (le45 rfl) vc_10 (le45 rfl) wM_X7_93 (le45 rfl) (le45 rfl) (dat D_X7_passMinutes 18 rfl) rfl rfl (le45 rfl) (le45 rfl) rfl (fun _ => ?_) nlt0
    refine AW.putI (n := 39) fX6_7 wF_X7_123 (isSea_ly0 hpk4) (by have := isSea_lt hpk4; omega) rfl rfl rfl (dat D_X7_passMinutes 19 rfl) rfl ?_
    refine AW.ltS h (fun σ8 h => ?_)
    refine AW.aload_n (n := 40) (dat D_X7_passMinutes 20 rfl) rfl rfl ?_
    refine AW.getQH h (n := 43) fX7_1 wF_X7_15 ly_17 (le45 rfl) rfl rfl (dat D_X7_passMinutes 21 rfl) rfl (fun k9 hpk9 h => ?_)
    refine AW.getI (n := 46) fX6_7 wF_X7_123 (isSea_ly0 hpk9) (by have := isSea_lt hpk9; omega) rfl rfl (dat D_X7_passMinutes 22 rfl) rfl ?_
    refine AW.iconst (n := 47) (dat D_X7_passMinutes 23 rfl) rfl ?_
    refine AW.icmp_eqH (t := 54) (n := 50) h (dat D_X7_passMinutes 24 rfl) rfl rfl rfl (by decide) (fun h => ?_) (fun h => ?_)
    · refine AW.iconst (n := 55) (dat D_X7_passMinutes 27 rfl) rfl ?_
      cases h
      exact AW.zret rfl (by decide) rfl rfl (dat D_X7_passMinutes 28 rfl)
    · refine AW.iconst (n := 51) (dat D_X7_passMinutes 25 rfl) rfl ?_
      refine AW.goto (t := 55) (dat D_X7_passMinutes 26 rfl) rfl ?_
      cases h
      exact AW.zret rfl (by decide) rfl rfl (dat D_X7_passMinutes 28 rfl)
  · refine AW.iconst (n := 8) (dat D_X7_passMinutes 3 rfl) rfl ?_
    cases h
    exact AW.zret rfl (by decide) rfl rfl (dat D_X7_passMinutes 4 rfl)
def L_X10_passWord : List (Nat × Instr × Nat) := [(0, .aload_n 0, 1), (1, .aload_n 1, 1), (2, .invokevirtual 53, 3), (5, .istore_n 2, 1), (6, .iload_n 2, 1), (7, .ifCond .eq 7, 3), (10, .aload_n 0, 1), (11, .invokevirtual 22, 3), (14, .iload_n 2, 1), (15, .ireturn, 1)]
theorem D_X10_passWord : dOK cX10_passWord L_X10_passWord = true := by decide +kernel
theorem cf_X10_passWord : CFV mX10_passWord 1 := ⟨wI_X10_passWord, wS_X10_passWord, wN_WaveRight_Text, wC_X10_passWord, rfl, ⟨by decide +kernel, by decide +kernel, by decide +kernel⟩, le45 rfl⟩
def X10_passWord (n : Nat) (a0 : Nat) (σ : SG) : Option (Int × SG) :=
  (X10_isWord n a0 σ).bind fun v2 =>
  if w32 v2 = 0 then
    some ((wZ v2, σ))
  else
    (X10_advance n σ).bind fun σ4 =>
    some ((wZ v2, σ4))
set_option maxHeartbeats 4000000 in
set_option maxRecDepth 100000 in
theorem A_X10_passWord {Γ : GA} (hΓ : (gl Γ).stackTraces = false) {n : Nat} {a0 : Nat} {σ : SG} {r : Int} {τ : SG} (hs0 : a0 < strN) (h : X10_passWord n a0 σ = some (r, τ)) : AM Γ mX10_passWord 10 0 0 [vR 15, vO a0] (85, σ) (0, r) (85, τ) := by
  refine AM.of pl_X10 rfl wC_X10_passWord (le45 rfl) hΓ ?_
  refine AW.to (ls'' := [some (vR 15), some (vO a0), none]) ?_ (lle_s rfl (lle_s rfl (lle_e (lle_z))))
  unfold X10_passWord at h
  refine AW.aload_n (n := 1) (dat D_X10_passWord 0 rfl) rfl rfl ?_
  refine AW.oload_n (n := 2) (dat D_X10_passWord 1 rfl) rfl rfl ?_
  obtain ⟨v2, hc1, h⟩ := ob_some h
  refine AW.cV (n := 5) (as := [vO a0]) (st := []) (st' := [vI v2]) (uc' := 0) (us' := 0) (A_X10_isWord hΓ hs0 hc1) cf_X10_isWord ly_15 (le45 rfl) vc_10 (le45 rfl) wM_X10_53 (le45 rfl) (le45 rfl) (dat D_X10_passWord 2 rfl) rfl rfl (le45 rfl) (le45 rfl) rfl (fun _ => ?_) nlt0
  refine AW.istore_n (n := 6) (ls' := [some (vR 15), some (vO a0), some (vI v2)]) (dat D_X10_passWord 3 rfl) rfl (le45 rfl) (le45 rfl) rfl rfl ?_
  refine AW.iload_n (n := 7) (dat D_X10_passWord 4 rfl) rfl rfl ?_
  refine AW.if_eqH (t := 14) (n := 10) h (dat D_X10_passWord 5 rfl) rfl rfl (fun h => ?_) (fun h => ?_)
  · refine AW.iload_n (n := 15) (dat D_X10_passWord 8 rfl) rfl rfl ?_
    cases h
    exact AW.zret rfl rfl rfl rfl (dat D_X10_passWord 9 rfl)
  · refine AW.aload_n (n := 11) (dat D_X10_passWord 6 rfl) rfl rfl ?_
    obtain ⟨σ4, hc3, h⟩ := ob_some h
    refine AW.cV (n := 14) (as := []) (st := []) (st' := []) (uc' := 0) (us' := 0) (A_X10_advance hΓ hc3) cf_X10_advance ly_15 (le45 rfl) vc_10 (le45 rfl) wM_X10_22 (le45 rfl) (le45 rfl) (dat D_X10_passWord 7 rfl) rfl rfl (le45 rfl) (le45 rfl) rfl (fun _ => ?_) nlt0
    refine AW.iload_n (n := 15) (dat D_X10_passWord 8 rfl) rfl rfl ?_
    cases h
    exact AW.zret rfl rfl rfl rfl (dat D_X10_passWord 9 rfl)
def L_X6_addSurfer : List (Nat × Instr × Nat) := [(0, .aload_n 0, 1), (1, .getfield 31, 3), (4, .iconst 5, 1), (5, .if_icmp .ge 33, 3), (8, .aload_n 0, 1), (9, .getfield 18, 3), (12, .aload_n 0, 1), (13, .getfield 31, 3), (16, .iload_n 1, 1), (17, .iastore, 1), (18, .aload_n 0, 1), (19, .getfield 21, 3), (22, .aload_n 0, 1), (23, .getfield 31, 3), (26, .iload_n 2, 1), (27, .iastore, 1), (28, .aload_n 0, 1), (29, .dup, 1), (30, .getfield 31, 3), (33, .iconst 1, 1), (34, .iadd, 1), (35, .putfield 31, 3), (38, .return_, 1)]
theorem D_X6_addSurfer : dOK cX6_addSurfer L_X6_addSurfer = true := by decide +kernel
theorem cf_X6_addSurfer : CFV mX6_addSurfer 2 := ⟨wI_X6_addSurfer, wS_X6_addSurfer, wN_WaveRight_Sea, wC_X6_addSurfer, rfl, ⟨by decide +kernel, by decide +kernel, by decide +kernel⟩, le45 rfl⟩
def X6_addSurfer (n : Nat) (k : Nat) (a0 : Int) (a1 : Int) (σ : SG) : Option (SG) :=
  if 5 ≤ w32 (σ k 5) then
    some (σ)
  else
    rdA 5 (σ k 5) fun j1 => lt (up σ (k + 3) j1 a0) fun σ2 =>
    rdA 5 (σ2 k 5) fun j3 => lt (up σ2 (k + 4) j3 a1) fun σ4 =>
    lt (up σ4 k 5 ((σ4 k 5) + 1)) fun σ5 =>
    some (σ5)
set_option maxHeartbeats 4000000 in
set_option maxRecDepth 100000 in
theorem A_X6_addSurfer {Γ : GA} (hΓ : (gl Γ).stackTraces = false) {n : Nat} {k : Nat} {a0 : Int} {a1 : Int} {σ : SG} {τ : SG} (hpk : isSea k = true) (h : X6_addSurfer n k a0 a1 σ = some τ) : AM Γ mX6_addSurfer 1 0 0 [vR k, vI a0, vI a1] (85, σ) (0, 0) (85, τ) := by
  refine AM.of pl_X6 rfl wC_X6_addSurfer (le45 rfl) hΓ ?_
  refine AW.to (ls'' := [some (vR k), some (vI a0), some (vI a1)]) ?_ (lle_s rfl (lle_s rfl (lle_s rfl (lle_z))))
  unfold X6_addSurfer at h
  refine AW.aload_n (n := 1) (dat D_X6_addSurfer 0 rfl) rfl rfl ?_
  refine AW.getI (n := 4) fX6_5 wF_X6_31 (isSea_ly0 hpk) (by have := isSea_lt hpk; omega) rfl rfl (dat D_X6_addSurfer 1 rfl) rfl ?_
  refine AW.iconst (n := 5) (dat D_X6_addSurfer 2 rfl) rfl ?_
  refine AW.icmp_geH (t := 38) (n := 8) h (dat D_X6_addSurfer 3 rfl) rfl rfl rfl (by decide) (fun h => ?_) (fun h => ?_)
  · cases h
    exact AW.vret rfl rfl rfl (dat D_X6_addSurfer 22 rfl)
  · refine AW.aload_n (n := 9) (dat D_X6_addSurfer 4 rfl) rfl rfl ?_
    refine AW.getR (n := 12) (t := k + 3) fX6_2 wF_X6_18 (isSea_ly0 hpk) (by have := isSea_lt hpk; omega) rfl (dat D_X6_addSurfer 5 rfl) rfl ?_
    refine AW.aload_n (n := 13) (dat D_X6_addSurfer 6 rfl) rfl rfl ?_
    refine AW.getI (n := 16) fX6_5 wF_X6_31 (isSea_ly0 hpk) (by have := isSea_lt hpk; omega) rfl rfl (dat D_X6_addSurfer 7 rfl) rfl ?_
    refine AW.iload_n (n := 17) (dat D_X6_addSurfer 8 rfl) rfl rfl ?_
    refine AW.iastH h (n := 18) rfl (isSea_ly3 hpk) (by have := isSea_lt hpk; omega) (dat D_X6_addSurfer 9 rfl) rfl (fun j1 h => ?_)
    refine AW.ltS h (fun σ2 h => ?_)
    refine AW.aload_n (n := 19) (dat D_X6_addSurfer 10 rfl) rfl rfl ?_
    refine AW.getR (n := 22) (t := k + 4) fX6_3 wF_X6_21 (isSea_ly0 hpk) (by have := isSea_lt hpk; omega) rfl (dat D_X6_addSurfer 11 rfl) rfl ?_
    refine AW.aload_n (n := 23) (dat D_X6_addSurfer 12 rfl) rfl rfl ?_
    refine AW.getI (n := 26) fX6_5 wF_X6_31 (isSea_ly0 hpk) (by have := isSea_lt hpk; omega) rfl rfl (dat D_X6_addSurfer 13 rfl) rfl ?_
    refine AW.iload_n (n := 27) (dat D_X6_addSurfer 14 rfl) rfl rfl ?_
    refine AW.iastH h (n := 28) rfl (isSea_ly4 hpk) (by have := isSea_lt hpk; omega) (dat D_X6_addSurfer 15 rfl) rfl (fun j3 h => ?_)
    refine AW.ltS h (fun σ4 h => ?_)
    refine AW.aload_n (n := 29) (dat D_X6_addSurfer 16 rfl) rfl rfl ?_
    refine AW.dup (n := 30) (dat D_X6_addSurfer 17 rfl) rfl (cR _) ?_
    refine AW.getI (n := 33) fX6_5 wF_X6_31 (isSea_ly0 hpk) (by have := isSea_lt hpk; omega) rfl rfl (dat D_X6_addSurfer 18 rfl) rfl ?_
    refine AW.iconst (n := 34) (dat D_X6_addSurfer 19 rfl) rfl ?_
    refine AW.iadd (n := 35) (dat D_X6_addSurfer 20 rfl) rfl ?_
    refine AW.putI (n := 38) fX6_5 wF_X6_31 (isSea_ly0 hpk) (by have := isSea_lt hpk; omega) rfl rfl rfl (dat D_X6_addSurfer 21 rfl) rfl ?_
    refine AW.ltS h (fun σ5 h => ?_)
    cases h
    exact AW.vret rfl rfl rfl (dat D_X6_addSurfer 22 rfl)
def L_X6_writeName : List (Nat × Instr × Nat) := [(0, .aload_n 1, 1), (1, .getfield 40, 3), (4, .aload_n 1, 1), (5, .getfield 45, 3), (8, .isub, 1), (9, .istore_n 2, 1), (10, .aload_n 0, 1), (11, .getfield 31, 3), (14, .iconst 5, 1), (15, .if_icmp .ge 9, 3), (18, .iload_n 2, 1), (19, .bipush 6, 2), (21, .if_icmp .le 4, 3), (24, .return_, 1), (25, .aload_n 0, 1), (26, .getfield 15, 3), (29, .aload_n 0, 1), (30, .getfield 31, 3), (33, .iload_n 2, 1), (34, .iastore, 1), (35, .iconst 0, 1), (36, .istore_n 3, 1), (37, .iload_n 3, 1), (38, .iload_n 2, 1), (39, .if_icmp .ge 47, 3), (42, .aload_n 1, 1), (43, .getfield 45, 3), (46, .iload_n 3, 1), (47, .iadd, 1), (48, .aload_n 1, 1), (49, .getfield 48, 3), (52, .if_icmp .ge 34, 3), (55, .aload_n 0, 1), (56, .getfield 9, 3), (59, .aload_n 0, 1), (60, .getfield 31, 3), (63, .bipush 6, 2), (65, .imul, 1), (66, .iload_n 3, 1), (67, .iadd, 1), (68, .aload_n 1, 1), (69, .getfield 51, 3), (72, .aload_n 1, 1), (73, .getfield 45, 3), (76, .iload_n 3, 1), (77, .iadd, 1), (78, .iaload, 1), (79, .iastore, 1), (80, .iinc 3 1, 3), (83, .goto (-46), 3), (86, .return_, 1)]
theorem D_X6_writeName : dOK cX6_writeName L_X6_writeName = true := by decide +kernel
theorem cf_X6_writeName : CFV mX6_writeName 1 := ⟨wI_X6_writeName, wS_X6_writeName, wN_WaveRight_Sea, wC_X6_writeName, rfl, ⟨by decide +kernel, by decide +kernel, by decide +kernel⟩, le45 rfl⟩
def X6_writeName_e37 (n : Nat) (σ7 : SG) : Option (SG) :=
  some (σ7)
def X6_writeName_l37 (n : Nat) (x1 : Int) (k : Nat) (z4 : Int) (σ5 : SG) : Option ((Int × SG) ⊕ (SG)) :=
  if w32 x1 ≤ w32 z4 then
    some (.inr σ5)
  else
    if w32 (σ5 15 1) ≤ w32 ((σ5 15 3) + z4) then
      some (.inr σ5)
    else
      rdA 400 ((σ5 15 3) + z4) fun j8 =>
      rdA 30 (((σ5 k 5) * 6) + z4) fun j9 => lt (up σ5 (k + 1) j9 (σ5 16 j8)) fun σ10 =>
      lt (z4 + 1) fun x11 =>
      some (.inl (x11, σ10))
def X6_writeName (n : Nat) (k : Nat) (σ : SG) : Option (SG) :=
  lt ((σ 15 4) - (σ 15 3)) fun x1 =>
  if 5 ≤ w32 (σ k 5) then
    some (σ)
  else
    if w32 x1 ≤ 6 then
      rdA 5 (σ k 5) fun j2 => lt (up σ (k + 2) j2 x1) fun σ3 =>
      ((iter n (fun s : Int × SG => X6_writeName_l37 n x1 k s.1 s.2) (0, σ3)) : Option (SG)).bind (fun s => X6_writeName_e37 n s)
    else
      some (σ)
set_option maxHeartbeats 4000000 in
set_option maxRecDepth 100000 in
theorem A_X6_writeName {Γ : GA} (hΓ : (gl Γ).stackTraces = false) {n : Nat} {k : Nat} {σ : SG} {τ : SG} (hpk : isSea k = true) (h : X6_writeName n k σ = some τ) : AM Γ mX6_writeName 1 0 0 [vR k, vR 15] (85, σ) (0, 0) (85, τ) := by
  refine AM.of pl_X6 rfl wC_X6_writeName (le45 rfl) hΓ ?_
  refine AW.to (ls'' := [some (vR k), some (vR 15), none, none]) ?_ (lle_s rfl (lle_s rfl (lle_e (lle_e (lle_z)))))
  unfold X6_writeName at h
  refine AW.aload_n (n := 1) (dat D_X6_writeName 0 rfl) rfl rfl ?_
  refine AW.getI (n := 4) fX10_4 wF_X6_40 ly_15 (le45 rfl) rfl rfl (dat D_X6_writeName 1 rfl) rfl ?_
  refine AW.aload_n (n := 5) (dat D_X6_writeName 2 rfl) rfl rfl ?_
  refine AW.getI (n := 8) fX10_3 wF_X6_45 ly_15 (le45 rfl) rfl rfl (dat D_X6_writeName 3 rfl) rfl ?_
  refine AW.isub (n := 9) (dat D_X6_writeName 4 rfl) rfl ?_
  refine AW.ltI h (fun x1 h => ?_)
  refine AW.istore_n (n := 10) (ls' := [some (vR k), some (vR 15), some (vI x1), none]) (dat D_X6_writeName 5 rfl) rfl (le45 rfl) (le45 rfl) rfl rfl ?_
  refine AW.aload_n (n := 11) (dat D_X6_writeName 6 rfl) rfl rfl ?_
  refine AW.getI (n := 14) fX6_5 wF_X6_31 (isSea_ly0 hpk) (by have := isSea_lt hpk; omega) rfl rfl (dat D_X6_writeName 7 rfl) rfl ?_
  refine AW.iconst (n := 15) (dat D_X6_writeName 8 rfl) rfl ?_
  refine AW.icmp_geH (t := 24) (n := 18) h (dat D_X6_writeName 9 rfl) rfl rfl rfl (by decide) (fun h => ?_) (fun h => ?_)
  · cases h
    exact AW.vret rfl rfl rfl (dat D_X6_writeName 13 rfl)
  · refine AW.iload_n (n := 19) (dat D_X6_writeName 10 rfl) rfl rfl ?_
    refine AW.bipush (n := 21) (dat D_X6_writeName 11 rfl) rfl (by decide) ?_
    refine AW.icmp_leH (t := 25) (n := 24) h (dat D_X6_writeName 12 rfl) rfl rfl rfl (by decide) (fun h => ?_) (fun h => ?_)
    · refine AW.aload_n (n := 26) (dat D_X6_writeName 14 rfl) rfl rfl ?_
      refine AW.getR (n := 29) (t := k + 2) fX6_1 wF_X6_15 (isSea_ly0 hpk) (by have := isSea_lt hpk; omega) rfl (dat D_X6_writeName 15 rfl) rfl ?_
      refine AW.aload_n (n := 30) (dat D_X6_writeName 16 rfl) rfl rfl ?_
      refine AW.getI (n := 33) fX6_5 wF_X6_31 (isSea_ly0 hpk) (by have := isSea_lt hpk; omega) rfl rfl (dat D_X6_writeName 17 rfl) rfl ?_
      refine AW.iload_n (n := 34) (dat D_X6_writeName 18 rfl) rfl rfl ?_
      refine AW.iastH h (n := 35) rfl (isSea_ly2 hpk) (by have := isSea_lt hpk; omega) (dat D_X6_writeName 19 rfl) rfl (fun j2 h => ?_)
      refine AW.ltS h (fun σ3 h => ?_)
      refine AW.iconst (n := 36) (dat D_X6_writeName 20 rfl) rfl ?_
      refine AW.istore_n (n := 37) (ls' := [some (vR k), some (vR 15), some (vI x1), some (vI 0)]) (dat D_X6_writeName 21 rfl) rfl (le45 rfl) (le45 rfl) rfl rfl ?_
      obtain ⟨b6, hi6, hq6⟩ := ob_some h
      obtain ⟨σ7, e6⟩ : ∃ z, z = b6 := ⟨_, rfl⟩
      subst e6
      have hR6 : AW Γ mX6_writeName 1 (0, 0) (85, τ) 0 0 86 [none, none, none, none] [] (85, σ7) := by
        have h : X6_writeName_e37 n σ7 = some _ := hq6
        unfold X6_writeName_e37 at h
        cases h
        exact AW.vret rfl rfl rfl (dat D_X6_writeName 50 rfl)
      refine AW.to (ls'' := [some (vR k), some (vR 15), some (vI x1), some (vI 0)]) ?_ (lle_s rfl (lle_s rfl (lle_s rfl (lle_s rfl (lle_z)))))
      refine aw_iter (fun s : Int × SG => AW Γ mX6_writeName 1 (0, 0) (85, τ) 0 0 37 [some (vR k), some (vR 15), some (vI x1), some (vI (s.1))] [] (85, s.2)) (fun s y h hk6 hb6 => ?_) _ _ hi6
      obtain ⟨z4, σ5⟩ := s
      show AW Γ mX6_writeName 1 (0, 0) (85, τ) 0 0 37 [some (vR k), some (vR 15), some (vI x1), some (vI z4)] [] (85, σ5)
      have h : X6_writeName_l37 n x1 k z4 σ5 = some y := h
      unfold X6_writeName_l37 at h
      refine AW.iload_n (n := 38) (dat D_X6_writeName 22 rfl) rfl rfl ?_
      refine AW.iload_n (n := 39) (dat D_X6_writeName 23 rfl) rfl rfl ?_
      refine AW.icmp_geH (t := 86) (n := 42) h (dat D_X6_writeName 24 rfl) rfl rfl rfl rfl (fun h => ?_) (fun h => ?_)
      · cases h
        have hb := hb6 _ rfl
        cases hb
        exact AW.to hR6 (lle_n (lle_n (lle_n (lle_n (lle_z)))))
      · refine AW.aload_n (n := 43) (dat D_X6_writeName 25 rfl) rfl rfl ?_
        refine AW.getI (n := 46) fX10_3 wF_X6_45 ly_15 (le45 rfl) rfl rfl (dat D_X6_writeName 26 rfl) rfl ?_
        refine AW.iload_n (n := 47) (dat D_X6_writeName 27 rfl) rfl rfl ?_
        refine AW.iadd (n := 48) (dat D_X6_writeName 28 rfl) rfl ?_
        refine AW.aload_n (n := 49) (dat D_X6_writeName 29 rfl) rfl rfl ?_
        refine AW.getI (n := 52) fX10_1 wF_X6_48 ly_15 (le45 rfl) rfl rfl (dat D_X6_writeName 30 rfl) rfl ?_
        refine AW.icmp_geH (t := 86) (n := 55) h (dat D_X6_writeName 31 rfl) rfl rfl rfl rfl (fun h => ?_) (fun h => ?_)
        · cases h
          have hb := hb6 _ rfl
          cases hb
          exact AW.to hR6 (lle_n (lle_n (lle_n (lle_n (lle_z)))))
        · refine AW.aload_n (n := 56) (dat D_X6_writeName 32 rfl) rfl rfl ?_
          refine AW.getR (n := 59) (t := k + 1) fX6_0 wF_X6_9 (isSea_ly0 hpk) (by have := isSea_lt hpk; omega) rfl (dat D_X6_writeName 33 rfl) rfl ?_
          refine AW.aload_n (n := 60) (dat D_X6_writeName 34 rfl) rfl rfl ?_
          refine AW.getI (n := 63) fX6_5 wF_X6_31 (isSea_ly0 hpk) (by have := isSea_lt hpk; omega) rfl rfl (dat D_X6_writeName 35 rfl) rfl ?_
          refine AW.bipush (n := 65) (dat D_X6_writeName 36 rfl) rfl (by decide) ?_
          refine AW.imul (n := 66) (dat D_X6_writeName 37 rfl) rfl ?_
          refine AW.iload_n (n := 67) (dat D_X6_writeName 38 rfl) rfl rfl ?_
          refine AW.iadd (n := 68) (dat D_X6_writeName 39 rfl) rfl ?_
          refine AW.aload_n (n := 69) (dat D_X6_writeName 40 rfl) rfl rfl ?_
          refine AW.getR (n := 72) (t := 16) fX10_0 wF_X6_51 ly_15 (le45 rfl) rfl (dat D_X6_writeName 41 rfl) rfl ?_
          refine AW.aload_n (n := 73) (dat D_X6_writeName 42 rfl) rfl rfl ?_
          refine AW.getI (n := 76) fX10_3 wF_X6_45 ly_15 (le45 rfl) rfl rfl (dat D_X6_writeName 43 rfl) rfl ?_
          refine AW.iload_n (n := 77) (dat D_X6_writeName 44 rfl) rfl rfl ?_
          refine AW.iadd (n := 78) (dat D_X6_writeName 45 rfl) rfl ?_
          refine AW.ialdH h (n := 79) rfl ly_16 (le45 rfl) (dat D_X6_writeName 46 rfl) rfl (fun j8 h => ?_)
          refine AW.iastH h (n := 80) rfl (isSea_ly1 hpk) (by have := isSea_lt hpk; omega) (dat D_X6_writeName 47 rfl) rfl (fun j9 h => ?_)
          refine AW.ltS h (fun σ10 h => ?_)
          refine AW.iincH h (n := 83) (dat D_X6_writeName 48 rfl) rfl rfl (le45 rfl) rfl (fun x11 h => ?_)
          refine AW.lq (ls' := [some (vR k), some (vR 15), some (vI x1), some (vI x11)]) rfl ?_
          refine AW.goto (t := 37) (dat D_X6_writeName 49 rfl) rfl ?_
          cases h
          exact AW.to (hk6 _ rfl) (lle_s rfl (lle_s rfl (lle_s rfl (lle_s rfl (lle_z)))))
    · cases h
      exact AW.vret rfl rfl rfl (dat D_X6_writeName 13 rfl)
def L_X6_letterOf : List (Nat × Instr × Nat) := [(0, .iload_n 1, 1), (1, .ifCond .lt 25, 3), (4, .iload_n 1, 1), (5, .aload_n 0, 1), (6, .getfield 31, 3), (9, .if_icmp .ge 17, 3), (12, .iload_n 2, 1), (13, .ifCond .lt 13, 3), (16, .iload_n 2, 1), (17, .aload_n 0, 1), (18, .getfield 15, 3), (21, .iload_n 1, 1), (22, .iaload, 1), (23, .if_icmp .lt 5, 3), (26, .iconst (-1), 1), (27, .ireturn, 1), (28, .aload_n 0, 1), (29, .getfield 9, 3), (32, .iload_n 1, 1), (33, .bipush 6, 2), (35, .imul, 1), (36, .iload_n 2, 1), (37, .iadd, 1), (38, .iaload, 1), (39, .ireturn, 1)]
theorem D_X6_letterOf : dOK cX6_letterOf L_X6_letterOf = true := by decide +kernel
theorem cf_X6_letterOf : CFV mX6_letterOf 2 := ⟨wI_X6_letterOf, wS_X6_letterOf, wN_WaveRight_Sea, wC_X6_letterOf, rfl, ⟨by decide +kernel, by decide +kernel, by decide +kernel⟩, le45 rfl⟩
def X6_letterOf (n : Nat) (k : Nat) (a0 : Int) (a1 : Int) (σ : SG) : Option (Int) :=
  if w32 a0 < 0 then
    some ((-1))
  else
    if w32 (σ k 5) ≤ w32 a0 then
      some ((-1))
    else
      if w32 a1 < 0 then
        some ((-1))
      else
        rdA 5 a0 fun j1 =>
        if w32 a1 < w32 (σ (k + 2) j1) then
          rdA 30 ((a0 * 6) + a1) fun j2 =>
          some ((σ (k + 1) j2))
        else
          some ((-1))
set_option maxHeartbeats 4000000 in
set_option maxRecDepth 100000 in
theorem A_X6_letterOf {Γ : GA} (hΓ : (gl Γ).stackTraces = false) {n : Nat} {k : Nat} {a0 : Int} {a1 : Int} {σ : SG} {r : Int} (hpk : isSea k = true) (h : X6_letterOf n k a0 a1 σ = some r) : AM Γ mX6_letterOf 1 0 0 [vR k, vI a0, vI a1] (85, σ) (0, r) (85, σ) := by
  refine AM.of pl_X6 rfl wC_X6_letterOf (le45 rfl) hΓ ?_
  refine AW.to (ls'' := [some (vR k), some (vI a0), some (vI a1)]) ?_ (lle_s rfl (lle_s rfl (lle_s rfl (lle_z))))
  unfold X6_letterOf at h
  refine AW.iload_n (n := 1) (dat D_X6_letterOf 0 rfl) rfl rfl ?_
  refine AW.if_ltH (t := 26) (n := 4) h (dat D_X6_letterOf 1 rfl) rfl rfl (fun h => ?_) (fun h => ?_)
  · refine AW.iconst (n := 27) (dat D_X6_letterOf 14 rfl) rfl ?_
    cases h
    exact AW.iret rfl rfl rfl (dat D_X6_letterOf 15 rfl)
  · refine AW.iload_n (n := 5) (dat D_X6_letterOf 2 rfl) rfl rfl ?_
    refine AW.aload_n (n := 6) (dat D_X6_letterOf 3 rfl) rfl rfl ?_
    refine AW.getI (n := 9) fX6_5 wF_X6_31 (isSea_ly0 hpk) (by have := isSea_lt hpk; omega) rfl rfl (dat D_X6_letterOf 4 rfl) rfl ?_
    refine AW.icmp_geH (t := 26) (n := 12) h (dat D_X6_letterOf 5 rfl) rfl rfl rfl rfl (fun h => ?_) (fun h => ?_)
    · refine AW.iconst (n := 27) (dat D_X6_letterOf 14 rfl) rfl ?_
      cases h
      exact AW.iret rfl rfl rfl (dat D_X6_letterOf 15 rfl)
    · refine AW.iload_n (n := 13) (dat D_X6_letterOf 6 rfl) rfl rfl ?_
      refine AW.if_ltH (t := 26) (n := 16) h (dat D_X6_letterOf 7 rfl) rfl rfl (fun h => ?_) (fun h => ?_)
      · refine AW.iconst (n := 27) (dat D_X6_letterOf 14 rfl) rfl ?_
        cases h
        exact AW.iret rfl rfl rfl (dat D_X6_letterOf 15 rfl)
      · refine AW.iload_n (n := 17) (dat D_X6_letterOf 8 rfl) rfl rfl ?_
        refine AW.aload_n (n := 18) (dat D_X6_letterOf 9 rfl) rfl rfl ?_
        refine AW.getR (n := 21) (t := k + 2) fX6_1 wF_X6_15 (isSea_ly0 hpk) (by have := isSea_lt hpk; omega) rfl (dat D_X6_letterOf 10 rfl) rfl ?_
        refine AW.iload_n (n := 22) (dat D_X6_letterOf 11 rfl) rfl rfl ?_
        refine AW.ialdH h (n := 23) rfl (isSea_ly2 hpk) (by have := isSea_lt hpk; omega) (dat D_X6_letterOf 12 rfl) rfl (fun j1 h => ?_)
        refine AW.icmp_ltH (t := 28) (n := 26) h (dat D_X6_letterOf 13 rfl) rfl rfl rfl rfl (fun h => ?_) (fun h => ?_)
        · refine AW.aload_n (n := 29) (dat D_X6_letterOf 16 rfl) rfl rfl ?_
          refine AW.getR (n := 32) (t := k + 1) fX6_0 wF_X6_9 (isSea_ly0 hpk) (by have := isSea_lt hpk; omega) rfl (dat D_X6_letterOf 17 rfl) rfl ?_
          refine AW.iload_n (n := 33) (dat D_X6_letterOf 18 rfl) rfl rfl ?_
          refine AW.bipush (n := 35) (dat D_X6_letterOf 19 rfl) rfl (by decide) ?_
          refine AW.imul (n := 36) (dat D_X6_letterOf 20 rfl) rfl ?_
          refine AW.iload_n (n := 37) (dat D_X6_letterOf 21 rfl) rfl rfl ?_
          refine AW.iadd (n := 38) (dat D_X6_letterOf 22 rfl) rfl ?_
          refine AW.ialdH h (n := 39) rfl (isSea_ly1 hpk) (by have := isSea_lt hpk; omega) (dat D_X6_letterOf 23 rfl) rfl (fun j2 h => ?_)
          cases h
          exact AW.iret rfl rfl rfl (dat D_X6_letterOf 24 rfl)
        · refine AW.iconst (n := 27) (dat D_X6_letterOf 14 rfl) rfl ?_
          cases h
          exact AW.iret rfl rfl rfl (dat D_X6_letterOf 15 rfl)
def L_X6_isNameOf : List (Nat × Instr × Nat) := [(0, .aload_n 2, 1), (1, .getfield 40, 3), (4, .aload_n 2, 1), (5, .getfield 45, 3), (8, .isub, 1), (9, .aload_n 0, 1), (10, .getfield 15, 3), (13, .iload_n 1, 1), (14, .iaload, 1), (15, .if_icmp .eq 5, 3), (18, .iconst 0, 1), (19, .ireturn, 1), (20, .iconst 0, 1), (21, .istore_n 3, 1), (22, .iload_n 3, 1), (23, .aload_n 0, 1), (24, .getfield 15, 3), (27, .iload_n 1, 1), (28, .iaload, 1), (29, .if_icmp .ge 44, 3), (32, .aload_n 2, 1), (33, .getfield 45, 3), (36, .iload_n 3, 1), (37, .iadd, 1), (38, .aload_n 2, 1), (39, .getfield 48, 3), (42, .if_icmp .ge 31, 3), (45, .aload_n 0, 1), (46, .iload_n 1, 1), (47, .iload_n 3, 1), (48, .invokevirtual 54, 3), (51, .aload_n 2, 1), (52, .getfield 51, 3), (55, .aload_n 2, 1), (56, .getfield 45, 3), (59, .iload_n 3, 1), (60, .iadd, 1), (61, .iaload, 1), (62, .if_icmp .eq 5, 3), (65, .iconst 0, 1), (66, .ireturn, 1), (67, .iinc 3 1, 3), (70, .goto (-48), 3), (73, .iconst 1, 1), (74, .ireturn, 1)]
theorem D_X6_isNameOf : dOK cX6_isNameOf L_X6_isNameOf = true := by decide +kernel
theorem cf_X6_isNameOf : CFV mX6_isNameOf 2 := ⟨wI_X6_isNameOf, wS_X6_isNameOf, wN_WaveRight_Sea, wC_X6_isNameOf, rfl, ⟨by decide +kernel, by decide +kernel, by decide +kernel⟩, le45 rfl⟩
def X6_isNameOf_e22 (n : Nat) : Option (Int) :=
  some (1)
def X6_isNameOf_l22 (n : Nat) (a0 : Int) (σ : SG) (k : Nat) (z2 : Int) : Option ((Int) ⊕ ((Unit) ⊕ (Int))) :=
  rdA 5 a0 fun j4 =>
  if w32 (σ (k + 2) j4) ≤ w32 z2 then
    some (.inr (.inl ()))
  else
    if w32 (σ 15 1) ≤ w32 ((σ 15 3) + z2) then
      some (.inr (.inl ()))
    else
      (X6_letterOf n k a0 z2 σ).bind fun v6 =>
      rdA 400 ((σ 15 3) + z2) fun j7 =>
      if w32 v6 = w32 (σ 16 j7) then
        lt (z2 + 1) fun x8 =>
        some (.inl x8)
      else
        some (.inr (.inr 0))
def X6_isNameOf (n : Nat) (k : Nat) (a0 : Int) (σ : SG) : Option (Int) :=
  rdA 5 a0 fun j1 =>
  if w32 ((σ 15 4) - (σ 15 3)) = w32 (σ (k + 2) j1) then
    ((iter n (fun s : Int => X6_isNameOf_l22 n a0 σ k s) 0) : Option ((Unit) ⊕ (Int))).bind (orr (fun s => X6_isNameOf_e22 n))
  else
    some (0)
set_option maxHeartbeats 4000000 in
set_option maxRecDepth 100000 in
theorem A_X6_isNameOf {Γ : GA} (hΓ : (gl Γ).stackTraces = false) {n : Nat} {k : Nat} {a0 : Int} {σ : SG} {r : Int} (hpk : isSea k = true) (h : X6_isNameOf n k a0 σ = some r) : AM Γ mX6_isNameOf 2 0 0 [vR k, vI a0, vR 15] (85, σ) (0, r) (85, σ) := by
  refine AM.of pl_X6 rfl wC_X6_isNameOf (le45 rfl) hΓ ?_
  refine AW.to (ls'' := [some (vR k), some (vI a0), some (vR 15), none]) ?_ (lle_s rfl (lle_s rfl (lle_s rfl (lle_e (lle_z)))))
  unfold X6_isNameOf at h
  refine AW.aload_n (n := 1) (dat D_X6_isNameOf 0 rfl) rfl rfl ?_
  refine AW.getI (n := 4) fX10_4 wF_X6_40 ly_15 (le45 rfl) rfl rfl (dat D_X6_isNameOf 1 rfl) rfl ?_
  refine AW.aload_n (n := 5) (dat D_X6_isNameOf 2 rfl) rfl rfl ?_
  refine AW.getI (n := 8) fX10_3 wF_X6_45 ly_15 (le45 rfl) rfl rfl (dat D_X6_isNameOf 3 rfl) rfl ?_
  refine AW.isub (n := 9) (dat D_X6_isNameOf 4 rfl) rfl ?_
  refine AW.aload_n (n := 10) (dat D_X6_isNameOf 5 rfl) rfl rfl ?_
  refine AW.getR (n := 13) (t := k + 2) fX6_1 wF_X6_15 (isSea_ly0 hpk) (by have := isSea_lt hpk; omega) rfl (dat D_X6_isNameOf 6 rfl) rfl ?_
  refine AW.iload_n (n := 14) (dat D_X6_isNameOf 7 rfl) rfl rfl ?_
  refine AW.ialdH h (n := 15) rfl (isSea_ly2 hpk) (by have := isSea_lt hpk; omega) (dat D_X6_isNameOf 8 rfl) rfl (fun j1 h => ?_)
  refine AW.icmp_eqH (t := 20) (n := 18) h (dat D_X6_isNameOf 9 rfl) rfl rfl rfl rfl (fun h => ?_) (fun h => ?_)
  · refine AW.iconst (n := 21) (dat D_X6_isNameOf 12 rfl) rfl ?_
    refine AW.istore_n (n := 22) (ls' := [some (vR k), some (vI a0), some (vR 15), some (vI 0)]) (dat D_X6_isNameOf 13 rfl) rfl (le45 rfl) (le45 rfl) rfl rfl ?_
    obtain ⟨b3, hi3, hq3⟩ := ob_some h
    have hR3 : ∀ (_ : Unit), b3 = .inl () → AW Γ mX6_isNameOf 2 (0, r) (85, σ) 0 0 73 [none, none, none, none] [] (85, σ) := by
      intro _ e
      subst e
      have h : X6_isNameOf_e22 n = some _ := hq3
      unfold X6_isNameOf_e22 at h
      refine AW.iconst (n := 74) (dat D_X6_isNameOf 43 rfl) rfl ?_
      cases h
      exact AW.zret rfl (by decide) rfl rfl (dat D_X6_isNameOf 44 rfl)
    refine AW.to (ls'' := [some (vR k), some (vI a0), some (vR 15), some (vI 0)]) ?_ (lle_s rfl (lle_s rfl (lle_s rfl (lle_s rfl (lle_z)))))
    refine aw_iter (fun s : Int => AW Γ mX6_isNameOf 2 (0, r) (85, σ) 0 0 22 [some (vR k), some (vI a0), some (vR 15), some (vI s)] [] (85, σ)) (fun s y h hk3 hb3 => ?_) _ _ hi3
    obtain ⟨z2, e3⟩ : ∃ z, z = s := ⟨_, rfl⟩
    subst e3
    show AW Γ mX6_isNameOf 2 (0, r) (85, σ) 0 0 22 [some (vR k), some (vI a0), some (vR 15), some (vI z2)] [] (85, σ)
    have h : X6_isNameOf_l22 n a0 σ k z2 = some y := h
    unfold X6_isNameOf_l22 at h
    refine AW.iload_n (n := 23) (dat D_X6_isNameOf 14 rfl) rfl rfl ?_
    refine AW.aload_n (n := 24) (dat D_X6_isNameOf 15 rfl) rfl rfl ?_
    refine AW.getR (n := 27) (t := k + 2) fX6_1 wF_X6_15 (isSea_ly0 hpk) (by have := isSea_lt hpk; omega) rfl (dat D_X6_isNameOf 16 rfl) rfl ?_
    refine AW.iload_n (n := 28) (dat D_X6_isNameOf 17 rfl) rfl rfl ?_
    refine AW.ialdH h (n := 29) rfl (isSea_ly2 hpk) (by have := isSea_lt hpk; omega) (dat D_X6_isNameOf 18 rfl) rfl (fun j4 h => ?_)
    refine AW.icmp_geH (t := 73) (n := 32) h (dat D_X6_isNameOf 19 rfl) rfl rfl rfl rfl (fun h => ?_) (fun h => ?_)
    · cases h
      have hb := hb3 _ rfl
      exact AW.to (hR3 () hb.symm) (lle_n (lle_n (lle_n (lle_n (lle_z)))))
    · refine AW.aload_n (n := 33) (dat D_X6_isNameOf 20 rfl) rfl rfl ?_
      refine AW.getI (n := 36) fX10_3 wF_X6_45 ly_15 (le45 rfl) rfl rfl (dat D_X6_isNameOf 21 rfl) rfl ?_
      refine AW.iload_n (n := 37) (dat D_X6_isNameOf 22 rfl) rfl rfl ?_
      refine AW.iadd (n := 38) (dat D_X6_isNameOf 23 rfl) rfl ?_
      refine AW.aload_n (n := 39) (dat D_X6_isNameOf 24 rfl) rfl rfl ?_
      refine AW.getI (n := 42) fX10_1 wF_X6_48 ly_15 (le45 rfl) rfl rfl (dat D_X6_isNameOf 25 rfl) rfl ?_
      refine AW.icmp_geH (t := 73) (n := 45) h (dat D_X6_isNameOf 26 rfl) rfl rfl rfl rfl (fun h => ?_) (fun h => ?_)
      · cases h
        have hb := hb3 _ rfl
        exact AW.to (hR3 () hb.symm) (lle_n (lle_n (lle_n (lle_n (lle_z)))))
      · refine AW.aload_n (n := 46) (dat D_X6_isNameOf 27 rfl) rfl rfl ?_
        refine AW.iload_n (n := 47) (dat D_X6_isNameOf 28 rfl) rfl rfl ?_
        refine AW.iload_n (n := 48) (dat D_X6_isNameOf 29 rfl) rfl rfl ?_
        obtain ⟨v6, hc5, h⟩ := ob_some h
        refine AW.cV (n := 51) (as := [vI a0, vI z2]) (st := []) (st' := [vI v6]) (uc' := 0) (us' := 0) (A_X6_letterOf hΓ hpk hc5) cf_X6_letterOf (isSea_ly0 hpk) (by have := isSea_lt hpk; omega) vc_6 (le45 rfl) wM_X6_54 (le45 rfl) (le45 rfl) (dat D_X6_isNameOf 30 rfl) rfl rfl (le45 rfl) (le45 rfl) rfl (fun _ => ?_) nlt0
        refine AW.aload_n (n := 52) (dat D_X6_isNameOf 31 rfl) rfl rfl ?_
        refine AW.getR (n := 55) (t := 16) fX10_0 wF_X6_51 ly_15 (le45 rfl) rfl (dat D_X6_isNameOf 32 rfl) rfl ?_
        refine AW.aload_n (n := 56) (dat D_X6_isNameOf 33 rfl) rfl rfl ?_
        refine AW.getI (n := 59) fX10_3 wF_X6_45 ly_15 (le45 rfl) rfl rfl (dat D_X6_isNameOf 34 rfl) rfl ?_
        refine AW.iload_n (n := 60) (dat D_X6_isNameOf 35 rfl) rfl rfl ?_
        refine AW.iadd (n := 61) (dat D_X6_isNameOf 36 rfl) rfl ?_
        refine AW.ialdH h (n := 62) rfl ly_16 (le45 rfl) (dat D_X6_isNameOf 37 rfl) rfl (fun j7 h => ?_)
        refine AW.icmp_eqH (t := 67) (n := 65) h (dat D_X6_isNameOf 38 rfl) rfl rfl rfl rfl (fun h => ?_) (fun h => ?_)
        · refine AW.iincH h (n := 70) (dat D_X6_isNameOf 41 rfl) rfl rfl (le45 rfl) rfl (fun x8 h => ?_)
          refine AW.lq (ls' := [some (vR k), some (vI a0), some (vR 15), some (vI x8)]) rfl ?_
          refine AW.goto (t := 22) (dat D_X6_isNameOf 42 rfl) rfl ?_
          cases h
          exact AW.to (hk3 _ rfl) (lle_s rfl (lle_s rfl (lle_s rfl (lle_s rfl (lle_z)))))
        · refine AW.iconst (n := 66) (dat D_X6_isNameOf 39 rfl) rfl ?_
          cases h
          have hb := hb3 _ rfl
          subst hb
          have h := hq3
          have h : some _ = some _ := h
          cases h
          exact AW.zret rfl (by decide) rfl rfl (dat D_X6_isNameOf 40 rfl)
  · refine AW.iconst (n := 19) (dat D_X6_isNameOf 10 rfl) rfl ?_
    cases h
    exact AW.zret rfl (by decide) rfl rfl (dat D_X6_isNameOf 11 rfl)
