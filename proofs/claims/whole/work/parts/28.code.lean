/-! ===== methods as functions, and their bytecode beside them (printed by wip/whole/gen/emit.py) ===== -/
def L_X12_wordMany : List (Nat × Instr × Nat) := [(0, .aload_n 0, 1), (1, .invokevirtual 127, 3), (4, .aload_n 0, 1), (5, .getfield 114, 3), (8, .istore_n 1, 1), (9, .iload_n 1, 1), (10, .aload_n 0, 1), (11, .getfield 111, 3), (14, .if_icmp .ge 31, 3), (17, .aload_n 0, 1), (18, .getfield 9, 3), (21, .iload_n 1, 1), (22, .baload, 1), (23, .bipush 97, 2), (25, .if_icmp .lt 20, 3), (28, .aload_n 0, 1), (29, .getfield 9, 3), (32, .iload_n 1, 1), (33, .baload, 1), (34, .bipush 122, 2), (36, .if_icmp .gt 9, 3), (39, .iinc 1 1, 3), (42, .goto (-33), 3), (45, .iload_n 1, 1), (46, .aload_n 0, 1), (47, .getfield 114, 3), (50, .isub, 1), (51, .ireturn, 1)]
theorem D_X12_wordMany : dOK cX12_wordMany L_X12_wordMany = true := by decide +kernel
theorem cf_X12_wordMany : CFV mX12_wordMany 0 := ⟨wI_X12_wordMany, wS_X12_wordMany, wN_WaveRightModel, wC_X12_wordMany, rfl, ⟨by decide +kernel, by decide +kernel, by decide +kernel⟩, le45 rfl⟩
def X12_wordMany_e9 (n : Nat) (σ2 : SG) (e6 : Int) : Option (Int × SG) :=
  some (((e6 - (σ2 57 4)), σ2))
def X12_wordMany_l9 (n : Nat) (σ2 : SG) (z4 : Int) : Option ((Int) ⊕ (Int)) :=
  if w32 (σ2 57 6) ≤ w32 z4 then
    some (.inr z4)
  else
    rdA 400 z4 fun j7 =>
    if w32 (σ2 58 j7) < 97 then
      some (.inr z4)
    else
      rdA 400 z4 fun j8 =>
      if 122 < w32 (σ2 58 j8) then
        some (.inr z4)
      else
        lt (z4 + 1) fun x9 =>
        some (.inl x9)
def X12_wordMany (n : Nat) (σ : SG) : Option (Int × SG) :=
  (X12_blanks n σ).bind fun σ2 =>
  lt (σ2 57 4) fun x3 =>
  ((iter n (fun s : Int => X12_wordMany_l9 n σ2 s) x3) : Option (Int)).bind (fun s => X12_wordMany_e9 n σ2 s)
set_option maxHeartbeats 4000000 in
set_option maxRecDepth 100000 in
theorem A_X12_wordMany {Γ : GA} (hΓ : (gl Γ).stackTraces = false) {n : Nat} {σ : SG} {r : Int} {τ : SG}  (h : X12_wordMany n σ = some (r, τ)) : AM Γ mX12_wordMany 3 0 0 [vR 57] (85, σ) (0, r) (85, τ) := by
  refine AM.of pl_X12 rfl wC_X12_wordMany (le45 rfl) hΓ ?_
  refine AW.to (ls'' := [some (vR 57), none]) ?_ (lle_s rfl (lle_e (lle_z)))
  unfold X12_wordMany at h
  refine AW.aload_n (n := 1) (dat D_X12_wordMany 0 rfl) rfl rfl ?_
  obtain ⟨σ2, hc1, h⟩ := ob_some h
  refine AW.cV (n := 4) (as := []) (st := []) (st' := []) (uc' := 0) (us' := 0) (A_X12_blanks hΓ hc1) cf_X12_blanks ly_57 (le45 rfl) vc_12 (le45 rfl) wM_X12_127 (le45 rfl) (le45 rfl) (dat D_X12_wordMany 1 rfl) rfl rfl (le45 rfl) (le45 rfl) rfl (fun _ => ?_) nlt0
  refine AW.aload_n (n := 5) (dat D_X12_wordMany 2 rfl) rfl rfl ?_
  refine AW.getI (n := 8) fX12_4 wF_X12_114 ly_57 (le45 rfl) rfl rfl (dat D_X12_wordMany 3 rfl) rfl ?_
  refine AW.ltI h (fun x3 h => ?_)
  refine AW.istore_n (n := 9) (ls' := [some (vR 57), some (vI x3)]) (dat D_X12_wordMany 4 rfl) rfl (le45 rfl) (le45 rfl) rfl rfl ?_
  obtain ⟨b5, hi5, hq5⟩ := ob_some h
  obtain ⟨e6, e5⟩ : ∃ z, z = b5 := ⟨_, rfl⟩
  subst e5
  have hR5 : AW Γ mX12_wordMany 3 (0, r) (85, τ) 0 0 45 [some (vR 57), some (vI e6)] [] (85, σ2) := by
    have h : X12_wordMany_e9 n σ2 e6 = some _ := hq5
    unfold X12_wordMany_e9 at h
    refine AW.iload_n (n := 46) (dat D_X12_wordMany 23 rfl) rfl rfl ?_
    refine AW.aload_n (n := 47) (dat D_X12_wordMany 24 rfl) rfl rfl ?_
    refine AW.getI (n := 50) fX12_4 wF_X12_114 ly_57 (le45 rfl) rfl rfl (dat D_X12_wordMany 25 rfl) rfl ?_
    refine AW.isub (n := 51) (dat D_X12_wordMany 26 rfl) rfl ?_
    cases h
    exact AW.iret rfl rfl rfl (dat D_X12_wordMany 27 rfl)
  refine AW.to (ls'' := [some (vR 57), some (vI x3)]) ?_ (lle_s rfl (lle_s rfl (lle_z)))
  refine aw_iter (fun s : Int => AW Γ mX12_wordMany 3 (0, r) (85, τ) 0 0 9 [some (vR 57), some (vI s)] [] (85, σ2)) (fun s y h hk5 hb5 => ?_) _ _ hi5
  obtain ⟨z4, e5⟩ : ∃ z, z = s := ⟨_, rfl⟩
  subst e5
  show AW Γ mX12_wordMany 3 (0, r) (85, τ) 0 0 9 [some (vR 57), some (vI z4)] [] (85, σ2)
  have h : X12_wordMany_l9 n σ2 z4 = some y := h
  unfold X12_wordMany_l9 at h
  refine AW.iload_n (n := 10) (dat D_X12_wordMany 5 rfl) rfl rfl ?_
  refine AW.aload_n (n := 11) (dat D_X12_wordMany 6 rfl) rfl rfl ?_
  refine AW.getI (n := 14) fX12_6 wF_X12_111 ly_57 (le45 rfl) rfl rfl (dat D_X12_wordMany 7 rfl) rfl ?_
  refine AW.icmp_geH (t := 45) (n := 17) h (dat D_X12_wordMany 8 rfl) rfl rfl rfl rfl (fun h => ?_) (fun h => ?_)
  · cases h
    have hb := hb5 _ rfl
    cases hb
    exact AW.to hR5 (lle_s rfl (lle_s rfl (lle_z)))
  · refine AW.aload_n (n := 18) (dat D_X12_wordMany 9 rfl) rfl rfl ?_
    refine AW.getR (n := 21) (t := 58) fX12_1 wF_X12_9 ly_57 (le45 rfl) rfl (dat D_X12_wordMany 10 rfl) rfl ?_
    refine AW.iload_n (n := 22) (dat D_X12_wordMany 11 rfl) rfl rfl ?_
    refine AW.baldH h (n := 23) rfl ly_58 (le45 rfl) (dat D_X12_wordMany 12 rfl) rfl (fun j7 h => ?_)
    refine AW.bipush (n := 25) (dat D_X12_wordMany 13 rfl) rfl (by decide) ?_
    refine AW.icmp_ltH (t := 45) (n := 28) h (dat D_X12_wordMany 14 rfl) rfl rfl rfl (by decide) (fun h => ?_) (fun h => ?_)
    · cases h
      have hb := hb5 _ rfl
      cases hb
      exact AW.to hR5 (lle_s rfl (lle_s rfl (lle_z)))
    · refine AW.aload_n (n := 29) (dat D_X12_wordMany 15 rfl) rfl rfl ?_
      refine AW.getR (n := 32) (t := 58) fX12_1 wF_X12_9 ly_57 (le45 rfl) rfl (dat D_X12_wordMany 16 rfl) rfl ?_
      refine AW.iload_n (n := 33) (dat D_X12_wordMany 17 rfl) rfl rfl ?_
      refine AW.baldH h (n := 34) rfl ly_58 (le45 rfl) (dat D_X12_wordMany 18 rfl) rfl (fun j8 h => ?_)
      refine AW.bipush (n := 36) (dat D_X12_wordMany 19 rfl) rfl (by decide) ?_
      refine AW.icmp_gtH (t := 45) (n := 39) h (dat D_X12_wordMany 20 rfl) rfl rfl rfl (by decide) (fun h => ?_) (fun h => ?_)
      · cases h
        have hb := hb5 _ rfl
        cases hb
        exact AW.to hR5 (lle_s rfl (lle_s rfl (lle_z)))
      · refine AW.iincH h (n := 42) (dat D_X12_wordMany 21 rfl) rfl rfl (le45 rfl) rfl (fun x9 h => ?_)
        refine AW.lq (ls' := [some (vR 57), some (vI x9)]) rfl ?_
        refine AW.goto (t := 9) (dat D_X12_wordMany 22 rfl) rfl ?_
        cases h
        exact AW.to (hk5 _ rfl) (lle_s rfl (lle_s rfl (lle_z)))
def L_X12_isWord : List (Nat × Instr × Nat) := [(0, .aload_n 0, 1), (1, .invokevirtual 130, 3), (4, .ifCond .ne 18, 3), (7, .aload_n 0, 1), (8, .invokevirtual 144, 3), (11, .aload_n 1, 1), (12, .invokevirtual 148, 3), (15, .if_icmp .ne 7, 3), (18, .iconst 1, 1), (19, .goto 4, 3), (22, .iconst 0, 1), (23, .istore_n 2, 1), (24, .iconst 0, 1), (25, .istore_n 3, 1), (26, .iload_n 2, 1), (27, .ifCond .eq 42, 3), (30, .iload_n 3, 1), (31, .aload_n 1, 1), (32, .invokevirtual 148, 3), (35, .if_icmp .ge 34, 3), (38, .aload_n 0, 1), (39, .getfield 9, 3), (42, .aload_n 0, 1), (43, .getfield 114, 3), (46, .iload_n 3, 1), (47, .iadd, 1), (48, .baload, 1), (49, .aload_n 1, 1), (50, .iload_n 3, 1), (51, .invokevirtual 153, 3), (54, .if_icmp .ne 7, 3), (57, .iconst 1, 1), (58, .goto 4, 3), (61, .iconst 0, 1), (62, .istore_n 2, 1), (63, .iinc 3 1, 3), (66, .goto (-40), 3), (69, .iload_n 2, 1), (70, .ireturn, 1)]
theorem D_X12_isWord : dOK cX12_isWord L_X12_isWord = true := by decide +kernel
theorem cf_X12_isWord : CFV mX12_isWord 1 := ⟨wI_X12_isWord, wS_X12_isWord, wN_WaveRightModel, wC_X12_isWord, rfl, ⟨by decide +kernel, by decide +kernel, by decide +kernel⟩, le45 rfl⟩
def X12_isWord_e26 (n : Nat) (σ4 : SG) (e9 : Int) : Option (Int × SG) :=
  some ((wZ e9, σ4))
def X12_isWord_j62 (n : Nat) (z7 : Int) (y12 : Int) : Option ((Int × Int) ⊕ (Int)) :=
  lt (z7 + 1) fun x14 =>
  some (.inl (y12, x14))
def X12_isWord_l26 (n : Nat) (a0 : Nat) (σ4 : SG) (z6 : Int) (z7 : Int) : Option ((Int × Int) ⊕ (Int)) :=
  if w32 z6 = 0 then
    some (.inr z6)
  else
    if w32 ((strB a0).length : Int) ≤ w32 z7 then
      some (.inr z6)
    else
      rdA 400 ((σ4 57 4) + z7) fun j10 =>
      rdA (strB a0).length z7 fun j11 =>
      ((if w32 (σ4 58 j10) = w32 ((strB a0).getD j11 0) then
        some (1)
      else
        some (0)) : Option (Int)).bind (fun s => X12_isWord_j62 n z7 s)
def X12_isWord_j23 (n : Nat) (a0 : Nat) (y3 : Int) (σ4 : SG) : Option (Int × SG) :=
  ((iter n (fun s : Int × Int => X12_isWord_l26 n a0 σ4 s.1 s.2) (y3, 0)) : Option (Int)).bind (fun s => X12_isWord_e26 n σ4 s)
def X12_isWord (n : Nat) (a0 : Nat) (σ : SG) : Option (Int × SG) :=
  (X12_hasFailed n σ).bind fun v2 =>
  ((if w32 v2 = 0 then
    bnd2 (X12_wordMany n σ) fun v16 σ17 =>
    if w32 v16 = w32 ((strB a0).length : Int) then
      some ((1, σ17))
    else
      some ((0, σ17))
  else
    some ((0, σ))) : Option (Int × SG)).bind (fun s => X12_isWord_j23 n a0 s.1 s.2)
set_option maxHeartbeats 4000000 in
set_option maxRecDepth 100000 in
theorem A_X12_isWord {Γ : GA} (hΓ : (gl Γ).stackTraces = false) {n : Nat} {a0 : Nat} {σ : SG} {r : Int} {τ : SG} (hs0 : a0 < strN) (h : X12_isWord n a0 σ = some (r, τ)) : AM Γ mX12_isWord 9 0 0 [vR 57, vO a0] (85, σ) (0, r) (85, τ) := by
  refine AM.of pl_X12 rfl wC_X12_isWord (le45 rfl) hΓ ?_
  refine AW.to (ls'' := [some (vR 57), some (vO a0), none, none]) ?_ (lle_s rfl (lle_s rfl (lle_e (lle_e (lle_z)))))
  unfold X12_isWord at h
  refine AW.aload_n (n := 1) (dat D_X12_isWord 0 rfl) rfl rfl ?_
  obtain ⟨v2, hc1, h⟩ := ob_some h
  refine AW.cV (n := 4) (as := []) (st := []) (st' := [vI v2]) (uc' := 0) (us' := 0) (A_X12_hasFailed hΓ hc1) cf_X12_hasFailed ly_57 (le45 rfl) vc_12 (le45 rfl) wM_X12_130 (le45 rfl) (le45 rfl) (dat D_X12_isWord 1 rfl) rfl rfl (le45 rfl) (le45 rfl) rfl (fun _ => ?_) nlt0
  obtain ⟨s5, h, hq5⟩ := ob_some h
  obtain ⟨y3, σ4⟩ := s5
  have hJ5 : AW Γ mX12_isWord 9 (0, r) (85, τ) 0 0 23 [some (vR 57), some (vO a0), none, none] [vI y3] (85, σ4) := by
    have h : X12_isWord_j23 n a0 y3 σ4 = some _ := hq5
    unfold X12_isWord_j23 at h
    refine AW.istore_n (n := 24) (ls' := [some (vR 57), some (vO a0), some (vI y3), none]) (dat D_X12_isWord 11 rfl) rfl (le45 rfl) (le45 rfl) rfl rfl ?_
    refine AW.iconst (n := 25) (dat D_X12_isWord 12 rfl) rfl ?_
    refine AW.istore_n (n := 26) (ls' := [some (vR 57), some (vO a0), some (vI y3), some (vI 0)]) (dat D_X12_isWord 13 rfl) rfl (le45 rfl) (le45 rfl) rfl rfl ?_
    obtain ⟨b8, hi8, hq8⟩ := ob_some h
    obtain ⟨e9, e8⟩ : ∃ z, z = b8 := ⟨_, rfl⟩
    subst e8
    have hR8 : AW Γ mX12_isWord 9 (0, r) (85, τ) 0 0 69 [none, none, some (vI e9), none] [] (85, σ4) := by
      have h : X12_isWord_e26 n σ4 e9 = some _ := hq8
      unfold X12_isWord_e26 at h
      refine AW.iload_n (n := 70) (dat D_X12_isWord 37 rfl) rfl rfl ?_
      cases h
      exact AW.zret rfl rfl rfl rfl (dat D_X12_isWord 38 rfl)
    refine AW.to (ls'' := [some (vR 57), some (vO a0), some (vI y3), some (vI 0)]) ?_ (lle_s rfl (lle_s rfl (lle_s rfl (lle_s rfl (lle_z)))))
    refine aw_iter (fun s : Int × Int => AW Γ mX12_isWord 9 (0, r) (85, τ) 0 0 26 [some (vR 57), some (vO a0), some (vI (s.1)), some (vI (s.2))] [] (85, σ4)) (fun s y h hk8 hb8 => ?_) _ _ hi8
    obtain ⟨z6, z7⟩ := s
    show AW Γ mX12_isWord 9 (0, r) (85, τ) 0 0 26 [some (vR 57), some (vO a0), some (vI z6), some (vI z7)] [] (85, σ4)
    have h : X12_isWord_l26 n a0 σ4 z6 z7 = some y := h
    unfold X12_isWord_l26 at h
    refine AW.iload_n (n := 27) (dat D_X12_isWord 14 rfl) rfl rfl ?_
    refine AW.if_eqH (t := 69) (n := 30) h (dat D_X12_isWord 15 rfl) rfl rfl (fun h => ?_) (fun h => ?_)
    · cases h
      have hb := hb8 _ rfl
      cases hb
      exact AW.to hR8 (lle_n (lle_n (lle_s rfl (lle_n (lle_z)))))
    · refine AW.iload_n (n := 31) (dat D_X12_isWord 16 rfl) rfl rfl ?_
      refine AW.oload_n (n := 32) (dat D_X12_isWord 17 rfl) rfl rfl ?_
      refine AW.cO (n := 35) (uc' := 0) (us' := 0) (as := []) (st := [vI z7]) (st' := [vI ((strB a0).length : Int), vI z7]) (A_J0_length hΓ hs0) cf_J0_length hs0 rfl wM_X12_148 (le45 rfl) (le45 rfl) (dat D_X12_isWord 18 rfl) rfl rfl (le45 rfl) (le45 rfl) rfl (fun _ => ?_) nlt0
      refine AW.icmp_geH (t := 69) (n := 38) h (dat D_X12_isWord 19 rfl) rfl rfl rfl rfl (fun h => ?_) (fun h => ?_)
      · cases h
        have hb := hb8 _ rfl
        cases hb
        exact AW.to hR8 (lle_n (lle_n (lle_s rfl (lle_n (lle_z)))))
      · refine AW.aload_n (n := 39) (dat D_X12_isWord 20 rfl) rfl rfl ?_
        refine AW.getR (n := 42) (t := 58) fX12_1 wF_X12_9 ly_57 (le45 rfl) rfl (dat D_X12_isWord 21 rfl) rfl ?_
        refine AW.aload_n (n := 43) (dat D_X12_isWord 22 rfl) rfl rfl ?_
        refine AW.getI (n := 46) fX12_4 wF_X12_114 ly_57 (le45 rfl) rfl rfl (dat D_X12_isWord 23 rfl) rfl ?_
        refine AW.iload_n (n := 47) (dat D_X12_isWord 24 rfl) rfl rfl ?_
        refine AW.iadd (n := 48) (dat D_X12_isWord 25 rfl) rfl ?_
        refine AW.baldH h (n := 49) rfl ly_58 (le45 rfl) (dat D_X12_isWord 26 rfl) rfl (fun j10 h => ?_)
        refine AW.oload_n (n := 50) (dat D_X12_isWord 27 rfl) rfl rfl ?_
        refine AW.iload_n (n := 51) (dat D_X12_isWord 28 rfl) rfl rfl ?_
        obtain ⟨j11, hij11, h⟩ := rdA_ex h
        refine AW.cO (n := 54) (uc' := 0) (us' := 0) (as := [vI z7]) (st := [vI (σ4 58 j10)]) (st' := [vI ((strB a0).getD j11 0), vI (σ4 58 j10)]) (A_J0_charAt hΓ hs0 hij11) cf_J0_charAt hs0 rfl wM_X12_153 (le45 rfl) (le45 rfl) (dat D_X12_isWord 29 rfl) rfl rfl (le45 rfl) (le45 rfl) rfl (fun _ => ?_) nlt0
        obtain ⟨s13, h, hq13⟩ := ob_some h
        obtain ⟨y12, e13⟩ : ∃ z, z = s13 := ⟨_, rfl⟩
        subst e13
        have hJ13 : AW Γ mX12_isWord 9 (0, r) (85, τ) 0 0 62 [some (vR 57), some (vO a0), none, some (vI z7)] [vI y12] (85, σ4) := by
          have h : X12_isWord_j62 n z7 y12 = some _ := hq13
          unfold X12_isWord_j62 at h
          refine AW.istore_n (n := 63) (ls' := [some (vR 57), some (vO a0), some (vI y12), some (vI z7)]) (dat D_X12_isWord 34 rfl) rfl (le45 rfl) (le45 rfl) rfl rfl ?_
          refine AW.iincH h (n := 66) (dat D_X12_isWord 35 rfl) rfl rfl (le45 rfl) rfl (fun x14 h => ?_)
          refine AW.lq (ls' := [some (vR 57), some (vO a0), some (vI y12), some (vI x14)]) rfl ?_
          refine AW.goto (t := 26) (dat D_X12_isWord 36 rfl) rfl ?_
          cases h
          exact AW.to (hk8 _ rfl) (lle_s rfl (lle_s rfl (lle_s rfl (lle_s rfl (lle_z)))))
        refine AW.icmp_neH (t := 61) (n := 57) h (dat D_X12_isWord 30 rfl) rfl rfl rfl rfl (fun h => ?_) (fun h => ?_)
        · refine AW.iconst (n := 58) (dat D_X12_isWord 31 rfl) rfl ?_
          refine AW.goto (t := 62) (dat D_X12_isWord 32 rfl) rfl ?_
          cases h
          exact AW.to hJ13 (lle_s rfl (lle_s rfl (lle_n (lle_s rfl (lle_z)))))
        · refine AW.iconst (n := 62) (dat D_X12_isWord 33 rfl) rfl ?_
          cases h
          exact AW.to hJ13 (lle_s rfl (lle_s rfl (lle_n (lle_s rfl (lle_z)))))
  refine AW.if_neH (t := 22) (n := 7) h (dat D_X12_isWord 2 rfl) rfl rfl (fun h => ?_) (fun h => ?_)
  · refine AW.aload_n (n := 8) (dat D_X12_isWord 3 rfl) rfl rfl ?_
    obtain ⟨v16, σ17, hc15, h⟩ := bnd2_some h
    refine AW.cV (n := 11) (as := []) (st := []) (st' := [vI v16]) (uc' := 0) (us' := 0) (A_X12_wordMany hΓ hc15) cf_X12_wordMany ly_57 (le45 rfl) vc_12 (le45 rfl) wM_X12_144 (le45 rfl) (le45 rfl) (dat D_X12_isWord 4 rfl) rfl rfl (le45 rfl) (le45 rfl) rfl (fun _ => ?_) nlt0
    refine AW.oload_n (n := 12) (dat D_X12_isWord 5 rfl) rfl rfl ?_
    refine AW.cO (n := 15) (uc' := 0) (us' := 0) (as := []) (st := [vI v16]) (st' := [vI ((strB a0).length : Int), vI v16]) (A_J0_length hΓ hs0) cf_J0_length hs0 rfl wM_X12_148 (le45 rfl) (le45 rfl) (dat D_X12_isWord 6 rfl) rfl rfl (le45 rfl) (le45 rfl) rfl (fun _ => ?_) nlt0
    refine AW.icmp_neH (t := 22) (n := 18) h (dat D_X12_isWord 7 rfl) rfl rfl rfl rfl (fun h => ?_) (fun h => ?_)
    · refine AW.iconst (n := 19) (dat D_X12_isWord 8 rfl) rfl ?_
      refine AW.goto (t := 23) (dat D_X12_isWord 9 rfl) rfl ?_
      cases h
      exact AW.to hJ5 (lle_s rfl (lle_s rfl (lle_n (lle_n (lle_z)))))
    · refine AW.iconst (n := 23) (dat D_X12_isWord 10 rfl) rfl ?_
      cases h
      exact AW.to hJ5 (lle_s rfl (lle_s rfl (lle_n (lle_n (lle_z)))))
  · refine AW.iconst (n := 23) (dat D_X12_isWord 10 rfl) rfl ?_
    cases h
    exact AW.to hJ5 (lle_s rfl (lle_s rfl (lle_n (lle_n (lle_z)))))
def L_X12_takesWord : List (Nat × Instr × Nat) := [(0, .aload_n 0, 1), (1, .aload_n 1, 1), (2, .invokevirtual 157, 3), (5, .istore_n 2, 1), (6, .iload_n 2, 1), (7, .ifCond .eq 16, 3), (10, .aload_n 0, 1), (11, .dup, 1), (12, .getfield 114, 3), (15, .aload_n 1, 1), (16, .invokevirtual 148, 3), (19, .iadd, 1), (20, .putfield 114, 3), (23, .iload_n 2, 1), (24, .ireturn, 1)]
theorem D_X12_takesWord : dOK cX12_takesWord L_X12_takesWord = true := by decide +kernel
theorem cf_X12_takesWord : CFV mX12_takesWord 1 := ⟨wI_X12_takesWord, wS_X12_takesWord, wN_WaveRightModel, wC_X12_takesWord, rfl, ⟨by decide +kernel, by decide +kernel, by decide +kernel⟩, le45 rfl⟩
def X12_takesWord (n : Nat) (a0 : Nat) (σ : SG) : Option (Int × SG) :=
  bnd2 (X12_isWord n a0 σ) fun v2 σ3 =>
  if w32 v2 = 0 then
    some ((wZ v2, σ3))
  else
    lt (up σ3 57 4 ((σ3 57 4) + ((strB a0).length : Int))) fun σ4 =>
    some ((wZ v2, σ4))
set_option maxHeartbeats 4000000 in
set_option maxRecDepth 100000 in
theorem A_X12_takesWord {Γ : GA} (hΓ : (gl Γ).stackTraces = false) {n : Nat} {a0 : Nat} {σ : SG} {r : Int} {τ : SG} (hs0 : a0 < strN) (h : X12_takesWord n a0 σ = some (r, τ)) : AM Γ mX12_takesWord 10 0 0 [vR 57, vO a0] (85, σ) (0, r) (85, τ) := by
  refine AM.of pl_X12 rfl wC_X12_takesWord (le45 rfl) hΓ ?_
  refine AW.to (ls'' := [some (vR 57), some (vO a0), none]) ?_ (lle_s rfl (lle_s rfl (lle_e (lle_z))))
  unfold X12_takesWord at h
  refine AW.aload_n (n := 1) (dat D_X12_takesWord 0 rfl) rfl rfl ?_
  refine AW.oload_n (n := 2) (dat D_X12_takesWord 1 rfl) rfl rfl ?_
  obtain ⟨v2, σ3, hc1, h⟩ := bnd2_some h
  refine AW.cV (n := 5) (as := [vO a0]) (st := []) (st' := [vI v2]) (uc' := 0) (us' := 0) (A_X12_isWord hΓ hs0 hc1) cf_X12_isWord ly_57 (le45 rfl) vc_12 (le45 rfl) wM_X12_157 (le45 rfl) (le45 rfl) (dat D_X12_takesWord 2 rfl) rfl rfl (le45 rfl) (le45 rfl) rfl (fun _ => ?_) nlt0
  refine AW.istore_n (n := 6) (ls' := [some (vR 57), some (vO a0), some (vI v2)]) (dat D_X12_takesWord 3 rfl) rfl (le45 rfl) (le45 rfl) rfl rfl ?_
  refine AW.iload_n (n := 7) (dat D_X12_takesWord 4 rfl) rfl rfl ?_
  refine AW.if_eqH (t := 23) (n := 10) h (dat D_X12_takesWord 5 rfl) rfl rfl (fun h => ?_) (fun h => ?_)
  · refine AW.iload_n (n := 24) (dat D_X12_takesWord 13 rfl) rfl rfl ?_
    cases h
    exact AW.zret rfl rfl rfl rfl (dat D_X12_takesWord 14 rfl)
  · refine AW.aload_n (n := 11) (dat D_X12_takesWord 6 rfl) rfl rfl ?_
    refine AW.dup (n := 12) (dat D_X12_takesWord 7 rfl) rfl (cR _) ?_
    refine AW.getI (n := 15) fX12_4 wF_X12_114 ly_57 (le45 rfl) rfl rfl (dat D_X12_takesWord 8 rfl) rfl ?_
    refine AW.oload_n (n := 16) (dat D_X12_takesWord 9 rfl) rfl rfl ?_
    refine AW.cO (n := 19) (uc' := 0) (us' := 0) (as := []) (st := [vI (σ3 57 4), vR 57]) (st' := [vI ((strB a0).length : Int), vI (σ3 57 4), vR 57]) (A_J0_length hΓ hs0) cf_J0_length hs0 rfl wM_X12_148 (le45 rfl) (le45 rfl) (dat D_X12_takesWord 10 rfl) rfl rfl (le45 rfl) (le45 rfl) rfl (fun _ => ?_) nlt0
    refine AW.iadd (n := 20) (dat D_X12_takesWord 11 rfl) rfl ?_
    refine AW.putI (n := 23) fX12_4 wF_X12_114 ly_57 (le45 rfl) rfl rfl rfl (dat D_X12_takesWord 12 rfl) rfl ?_
    refine AW.ltS h (fun σ4 h => ?_)
    refine AW.iload_n (n := 24) (dat D_X12_takesWord 13 rfl) rfl rfl ?_
    cases h
    exact AW.zret rfl rfl rfl rfl (dat D_X12_takesWord 14 rfl)
def L_X12_asksWord : List (Nat × Instr × Nat) := [(0, .aload_n 0, 1), (1, .invokevirtual 130, 3), (4, .ifCond .ne 15, 3), (7, .aload_n 0, 1), (8, .aload_n 1, 1), (9, .invokevirtual 161, 3), (12, .ifCond .ne 7, 3), (15, .aload_n 0, 1), (16, .invokevirtual 141, 3), (19, .return_, 1)]
theorem D_X12_asksWord : dOK cX12_asksWord L_X12_asksWord = true := by decide +kernel
theorem cf_X12_asksWord : CFV mX12_asksWord 1 := ⟨wI_X12_asksWord, wS_X12_asksWord, wN_WaveRightModel, wC_X12_asksWord, rfl, ⟨by decide +kernel, by decide +kernel, by decide +kernel⟩, le45 rfl⟩
def X12_asksWord (n : Nat) (a0 : Nat) (σ : SG) : Option (SG) :=
  (X12_hasFailed n σ).bind fun v2 =>
  if w32 v2 = 0 then
    bnd2 (X12_takesWord n a0 σ) fun v4 σ5 =>
    if w32 v4 = 0 then
      (X12_fails n σ5).bind fun σ7 =>
      some (σ7)
    else
      some (σ5)
  else
    some (σ)
set_option maxHeartbeats 4000000 in
set_option maxRecDepth 100000 in
theorem A_X12_asksWord {Γ : GA} (hΓ : (gl Γ).stackTraces = false) {n : Nat} {a0 : Nat} {σ : SG} {τ : SG} (hs0 : a0 < strN) (h : X12_asksWord n a0 σ = some τ) : AM Γ mX12_asksWord 11 0 0 [vR 57, vO a0] (85, σ) (0, 0) (85, τ) := by
  refine AM.of pl_X12 rfl wC_X12_asksWord (le45 rfl) hΓ ?_
  refine AW.to (ls'' := [some (vR 57), some (vO a0)]) ?_ (lle_s rfl (lle_s rfl (lle_z)))
  unfold X12_asksWord at h
  refine AW.aload_n (n := 1) (dat D_X12_asksWord 0 rfl) rfl rfl ?_
  obtain ⟨v2, hc1, h⟩ := ob_some h
  refine AW.cV (n := 4) (as := []) (st := []) (st' := [vI v2]) (uc' := 0) (us' := 0) (A_X12_hasFailed hΓ hc1) cf_X12_hasFailed ly_57 (le45 rfl) vc_12 (le45 rfl) wM_X12_130 (le45 rfl) (le45 rfl) (dat D_X12_asksWord 1 rfl) rfl rfl (le45 rfl) (le45 rfl) rfl (fun _ => ?_) nlt0
  refine AW.if_neH (t := 19) (n := 7) h (dat D_X12_asksWord 2 rfl) rfl rfl (fun h => ?_) (fun h => ?_)
  · refine AW.aload_n (n := 8) (dat D_X12_asksWord 3 rfl) rfl rfl ?_
    refine AW.oload_n (n := 9) (dat D_X12_asksWord 4 rfl) rfl rfl ?_
    obtain ⟨v4, σ5, hc3, h⟩ := bnd2_some h
    refine AW.cV (n := 12) (as := [vO a0]) (st := []) (st' := [vI v4]) (uc' := 0) (us' := 0) (A_X12_takesWord hΓ hs0 hc3) cf_X12_takesWord ly_57 (le45 rfl) vc_12 (le45 rfl) wM_X12_161 (le45 rfl) (le45 rfl) (dat D_X12_asksWord 5 rfl) rfl rfl (le45 rfl) (le45 rfl) rfl (fun _ => ?_) nlt0
    refine AW.if_neH (t := 19) (n := 15) h (dat D_X12_asksWord 6 rfl) rfl rfl (fun h => ?_) (fun h => ?_)
    · refine AW.aload_n (n := 16) (dat D_X12_asksWord 7 rfl) rfl rfl ?_
      obtain ⟨σ7, hc6, h⟩ := ob_some h
      refine AW.cV (n := 19) (as := []) (st := []) (st' := []) (uc' := 0) (us' := 0) (A_X12_fails hΓ hc6) cf_X12_fails ly_57 (le45 rfl) vc_12 (le45 rfl) wM_X12_141 (le45 rfl) (le45 rfl) (dat D_X12_asksWord 8 rfl) rfl rfl (le45 rfl) (le45 rfl) rfl (fun _ => ?_) nlt0
      cases h
      exact AW.vret rfl rfl rfl (dat D_X12_asksWord 9 rfl)
    · cases h
      exact AW.vret rfl rfl rfl (dat D_X12_asksWord 9 rfl)
  · cases h
    exact AW.vret rfl rfl rfl (dat D_X12_asksWord 9 rfl)
def L_X12_isNumber : List (Nat × Instr × Nat) := [(0, .aload_n 0, 1), (1, .invokevirtual 127, 3), (4, .aload_n 0, 1), (5, .invokevirtual 130, 3), (8, .ifCond .ne 18, 3), (11, .aload_n 0, 1), (12, .bipush 48, 2), (14, .bipush 57, 2), (16, .invokevirtual 120, 3), (19, .ifCond .eq 7, 3), (22, .iconst 1, 1), (23, .goto 4, 3), (26, .iconst 0, 1), (27, .ireturn, 1)]
theorem D_X12_isNumber : dOK cX12_isNumber L_X12_isNumber = true := by decide +kernel
theorem cf_X12_isNumber : CFV mX12_isNumber 0 := ⟨wI_X12_isNumber, wS_X12_isNumber, wN_WaveRightModel, wC_X12_isNumber, rfl, ⟨by decide +kernel, by decide +kernel, by decide +kernel⟩, le45 rfl⟩
def X12_isNumber (n : Nat) (σ : SG) : Option (Int × SG) :=
  (X12_blanks n σ).bind fun σ2 =>
  (X12_hasFailed n σ2).bind fun v4 =>
  if w32 v4 = 0 then
    (X12_isAt n 48 57 σ2).bind fun v6 =>
    if w32 v6 = 0 then
      some ((0, σ2))
    else
      some ((1, σ2))
  else
    some ((0, σ2))
set_option maxHeartbeats 4000000 in
set_option maxRecDepth 100000 in
theorem A_X12_isNumber {Γ : GA} (hΓ : (gl Γ).stackTraces = false) {n : Nat} {σ : SG} {r : Int} {τ : SG}  (h : X12_isNumber n σ = some (r, τ)) : AM Γ mX12_isNumber 3 0 0 [vR 57] (85, σ) (0, r) (85, τ) := by
  refine AM.of pl_X12 rfl wC_X12_isNumber (le45 rfl) hΓ ?_
  refine AW.to (ls'' := [some (vR 57)]) ?_ (lle_s rfl (lle_z))
  unfold X12_isNumber at h
  refine AW.aload_n (n := 1) (dat D_X12_isNumber 0 rfl) rfl rfl ?_
  obtain ⟨σ2, hc1, h⟩ := ob_some h
  refine AW.cV (n := 4) (as := []) (st := []) (st' := []) (uc' := 0) (us' := 0) (A_X12_blanks hΓ hc1) cf_X12_blanks ly_57 (le45 rfl) vc_12 (le45 rfl) wM_X12_127 (le45 rfl) (le45 rfl) (dat D_X12_isNumber 1 rfl) rfl rfl (le45 rfl) (le45 rfl) rfl (fun _ => ?_) nlt0
  refine AW.aload_n (n := 5) (dat D_X12_isNumber 2 rfl) rfl rfl ?_
  obtain ⟨v4, hc3, h⟩ := ob_some h
  refine AW.cV (n := 8) (as := []) (st := []) (st' := [vI v4]) (uc' := 0) (us' := 0) (A_X12_hasFailed hΓ hc3) cf_X12_hasFailed ly_57 (le45 rfl) vc_12 (le45 rfl) wM_X12_130 (le45 rfl) (le45 rfl) (dat D_X12_isNumber 3 rfl) rfl rfl (le45 rfl) (le45 rfl) rfl (fun _ => ?_) nlt0
  refine AW.if_neH (t := 26) (n := 11) h (dat D_X12_isNumber 4 rfl) rfl rfl (fun h => ?_) (fun h => ?_)
  · refine AW.aload_n (n := 12) (dat D_X12_isNumber 5 rfl) rfl rfl ?_
    refine AW.bipush (n := 14) (dat D_X12_isNumber 6 rfl) rfl (by decide) ?_
    refine AW.bipush (n := 16) (dat D_X12_isNumber 7 rfl) rfl (by decide) ?_
    obtain ⟨v6, hc5, h⟩ := ob_some h
    refine AW.cV (n := 19) (as := [vI 48, vI 57]) (st := []) (st' := [vI v6]) (uc' := 0) (us' := 0) (A_X12_isAt hΓ hc5) cf_X12_isAt ly_57 (le45 rfl) vc_12 (le45 rfl) wM_X12_120 (le45 rfl) (le45 rfl) (dat D_X12_isNumber 8 rfl) rfl rfl (le45 rfl) (le45 rfl) rfl (fun _ => ?_) nlt0
    refine AW.if_eqH (t := 26) (n := 22) h (dat D_X12_isNumber 9 rfl) rfl rfl (fun h => ?_) (fun h => ?_)
    · refine AW.iconst (n := 27) (dat D_X12_isNumber 12 rfl) rfl ?_
      cases h
      exact AW.zret rfl (by decide) rfl rfl (dat D_X12_isNumber 13 rfl)
    · refine AW.iconst (n := 23) (dat D_X12_isNumber 10 rfl) rfl ?_
      refine AW.goto (t := 27) (dat D_X12_isNumber 11 rfl) rfl ?_
      cases h
      exact AW.zret rfl (by decide) rfl rfl (dat D_X12_isNumber 13 rfl)
  · refine AW.iconst (n := 27) (dat D_X12_isNumber 12 rfl) rfl ?_
    cases h
    exact AW.zret rfl (by decide) rfl rfl (dat D_X12_isNumber 13 rfl)
def L_X12_number : List (Nat × Instr × Nat) := [(0, .aload_n 0, 1), (1, .invokevirtual 130, 3), (4, .ifCond .eq 5, 3), (7, .iconst 0, 1), (8, .ireturn, 1), (9, .aload_n 0, 1), (10, .invokevirtual 127, 3), (13, .iconst 0, 1), (14, .istore 4, 2), (16, .aload_n 0, 1), (17, .bipush 48, 2), (19, .bipush 57, 2), (21, .invokevirtual 120, 3), (24, .ifCond .eq 49, 3), (27, .aload_n 0, 1), (28, .getfield 114, 3), (31, .aload_n 0, 1), (32, .getfield 124, 3), (35, .isub, 1), (36, .iload_n 1, 1), (37, .if_icmp .ge 23, 3), (40, .bipush 10, 2), (42, .iload 4, 2), (44, .imul, 1), (45, .aload_n 0, 1), (46, .getfield 9, 3), (49, .aload_n 0, 1), (50, .getfield 114, 3), (53, .baload, 1), (54, .iadd, 1), (55, .bipush 48, 2), (57, .isub, 1), (58, .istore 4, 2), (60, .aload_n 0, 1), (61, .dup, 1), (62, .getfield 114, 3), (65, .iconst 1, 1), (66, .iadd, 1), (67, .putfield 114, 3), (70, .goto (-54), 3), (73, .aload_n 0, 1), (74, .getfield 114, 3), (77, .aload_n 0, 1), (78, .getfield 124, 3), (81, .isub, 1), (82, .istore 5, 2), (84, .iload 5, 2), (86, .ifCond .eq 19, 3), (89, .iload 5, 2), (91, .iload_n 1, 1), (92, .if_icmp .gt 13, 3), (95, .iload 4, 2), (97, .iload_n 2, 1), (98, .iload_n 3, 1), (99, .invokestatic 164, 3), (102, .ifCond .ne 7, 3), (105, .aload_n 0, 1), (106, .invokevirtual 141, 3), (109, .iload 4, 2), (111, .ireturn, 1)]
theorem D_X12_number : dOK cX12_number L_X12_number = true := by decide +kernel
theorem cf_X12_number : CFV mX12_number 3 := ⟨wI_X12_number, wS_X12_number, wN_WaveRightModel, wC_X12_number, rfl, ⟨by decide +kernel, by decide +kernel, by decide +kernel⟩, le45 rfl⟩
def X12_number_e16 (n : Nat) (a0 : Int) (a1 : Int) (a2 : Int) (e8 : Int) (σ9 : SG) : Option (Int × SG) :=
  lt ((σ9 57 4) - (σ9 57 5)) fun x10 =>
  if w32 x10 = 0 then
    (X12_fails n σ9).bind fun σ12 =>
    some ((e8, σ12))
  else
    if w32 a0 < w32 x10 then
      (X12_fails n σ9).bind fun σ14 =>
      some ((e8, σ14))
    else
      (X12_in n e8 a1 a2 σ9).bind fun v16 =>
      if w32 v16 = 0 then
        (X12_fails n σ9).bind fun σ18 =>
        some ((e8, σ18))
      else
        some ((e8, σ9))
def X12_number_j60 (n : Nat) (σ6 : SG) (y21 : Int) : Option ((Int × SG) ⊕ (Int × SG)) :=
  lt (up σ6 57 4 ((σ6 57 4) + 1)) fun σ23 =>
  some (.inl (y21, σ23))
def X12_number_l16 (n : Nat) (a0 : Int) (z5 : Int) (σ6 : SG) : Option ((Int × SG) ⊕ (Int × SG)) :=
  (X12_isAt n 48 57 σ6).bind fun v20 =>
  if w32 v20 = 0 then
    some (.inr (z5, σ6))
  else
    ((if w32 a0 ≤ w32 ((σ6 57 4) - (σ6 57 5)) then
      some (z5)
    else
      rdA 400 (σ6 57 4) fun j24 =>
      lt (((10 * z5) + (σ6 58 j24)) - 48) fun x25 =>
      some (x25)) : Option (Int)).bind (fun s => X12_number_j60 n σ6 s)
def X12_number (n : Nat) (a0 : Int) (a1 : Int) (a2 : Int) (σ : SG) : Option (Int × SG) :=
  (X12_hasFailed n σ).bind fun v2 =>
  if w32 v2 = 0 then
    (X12_blanks n σ).bind fun σ4 =>
    ((iter n (fun s : Int × SG => X12_number_l16 n a0 s.1 s.2) (0, σ4)) : Option (Int × SG)).bind (fun s => X12_number_e16 n a0 a1 a2 s.1 s.2)
  else
    some ((0, σ))
set_option maxHeartbeats 4000000 in
set_option maxRecDepth 100000 in
theorem A_X12_number {Γ : GA} (hΓ : (gl Γ).stackTraces = false) {n : Nat} {a0 : Int} {a1 : Int} {a2 : Int} {σ : SG} {r : Int} {τ : SG}  (h : X12_number n a0 a1 a2 σ = some (r, τ)) : AM Γ mX12_number 3 0 0 [vR 57, vI a0, vI a1, vI a2] (85, σ) (0, r) (85, τ) := by
  refine AM.of pl_X12 rfl wC_X12_number (le45 rfl) hΓ ?_
  refine AW.to (ls'' := [some (vR 57), some (vI a0), some (vI a1), some (vI a2), none, none]) ?_ (lle_s rfl (lle_s rfl (lle_s rfl (lle_s rfl (lle_e (lle_e (lle_z)))))))
  unfold X12_number at h
  refine AW.aload_n (n := 1) (dat D_X12_number 0 rfl) rfl rfl ?_
  obtain ⟨v2, hc1, h⟩ := ob_some h
  refine AW.cV (n := 4) (as := []) (st := []) (st' := [vI v2]) (uc' := 0) (us' := 0) (A_X12_hasFailed hΓ hc1) cf_X12_hasFailed ly_57 (le45 rfl) vc_12 (le45 rfl) wM_X12_130 (le45 rfl) (le45 rfl) (dat D_X12_number 1 rfl) rfl rfl (le45 rfl) (le45 rfl) rfl (fun _ => ?_) nlt0
  refine AW.if_eqH (t := 9) (n := 7) h (dat D_X12_number 2 rfl) rfl rfl (fun h => ?_) (fun h => ?_)
  · refine AW.aload_n (n := 10) (dat D_X12_number 5 rfl) rfl rfl ?_
    obtain ⟨σ4, hc3, h⟩ := ob_some h
    refine AW.cV (n := 13) (as := []) (st := []) (st' := []) (uc' := 0) (us' := 0) (A_X12_blanks hΓ hc3) cf_X12_blanks ly_57 (le45 rfl) vc_12 (le45 rfl) wM_X12_127 (le45 rfl) (le45 rfl) (dat D_X12_number 6 rfl) rfl rfl (le45 rfl) (le45 rfl) rfl (fun _ => ?_) nlt0
    refine AW.iconst (n := 14) (dat D_X12_number 7 rfl) rfl ?_
    refine AW.istore (n := 16) (ls' := [some (vR 57), some (vI a0), some (vI a1), some (vI a2), some (vI 0), none]) (dat D_X12_number 8 rfl) rfl (le45 rfl) (le45 rfl) rfl rfl ?_
    obtain ⟨b7, hi7, hq7⟩ := ob_some h
    obtain ⟨e8, σ9⟩ := b7
    have hR7 : AW Γ mX12_number 3 (0, r) (85, τ) 0 0 73 [some (vR 57), some (vI a0), some (vI a1), some (vI a2), some (vI e8), none] [] (85, σ9) := by
      have h : X12_number_e16 n a0 a1 a2 e8 σ9 = some _ := hq7
      unfold X12_number_e16 at h
      refine AW.aload_n (n := 74) (dat D_X12_number 40 rfl) rfl rfl ?_
      refine AW.getI (n := 77) fX12_4 wF_X12_114 ly_57 (le45 rfl) rfl rfl (dat D_X12_number 41 rfl) rfl ?_
      refine AW.aload_n (n := 78) (dat D_X12_number 42 rfl) rfl rfl ?_
      refine AW.getI (n := 81) fX12_5 wF_X12_124 ly_57 (le45 rfl) rfl rfl (dat D_X12_number 43 rfl) rfl ?_
      refine AW.isub (n := 82) (dat D_X12_number 44 rfl) rfl ?_
      refine AW.ltI h (fun x10 h => ?_)
      refine AW.istore (n := 84) (ls' := [some (vR 57), some (vI a0), some (vI a1), some (vI a2), some (vI e8), some (vI x10)]) (dat D_X12_number 45 rfl) rfl (le45 rfl) (le45 rfl) rfl rfl ?_
      refine AW.iload (n := 86) (dat D_X12_number 46 rfl) rfl rfl ?_
      refine AW.if_eqH (t := 105) (n := 89) h (dat D_X12_number 47 rfl) rfl rfl (fun h => ?_) (fun h => ?_)
      · refine AW.aload_n (n := 106) (dat D_X12_number 56 rfl) rfl rfl ?_
        obtain ⟨σ12, hc11, h⟩ := ob_some h
        refine AW.cV (n := 109) (as := []) (st := []) (st' := []) (uc' := 0) (us' := 0) (A_X12_fails hΓ hc11) cf_X12_fails ly_57 (le45 rfl) vc_12 (le45 rfl) wM_X12_141 (le45 rfl) (le45 rfl) (dat D_X12_number 57 rfl) rfl rfl (le45 rfl) (le45 rfl) rfl (fun _ => ?_) nlt0
        refine AW.iload (n := 111) (dat D_X12_number 58 rfl) rfl rfl ?_
        cases h
        exact AW.iret rfl rfl rfl (dat D_X12_number 59 rfl)
      · refine AW.iload (n := 91) (dat D_X12_number 48 rfl) rfl rfl ?_
        refine AW.iload_n (n := 92) (dat D_X12_number 49 rfl) rfl rfl ?_
        refine AW.icmp_gtH (t := 105) (n := 95) h (dat D_X12_number 50 rfl) rfl rfl rfl rfl (fun h => ?_) (fun h => ?_)
        · refine AW.aload_n (n := 106) (dat D_X12_number 56 rfl) rfl rfl ?_
          obtain ⟨σ14, hc13, h⟩ := ob_some h
          refine AW.cV (n := 109) (as := []) (st := []) (st' := []) (uc' := 0) (us' := 0) (A_X12_fails hΓ hc13) cf_X12_fails ly_57 (le45 rfl) vc_12 (le45 rfl) wM_X12_141 (le45 rfl) (le45 rfl) (dat D_X12_number 57 rfl) rfl rfl (le45 rfl) (le45 rfl) rfl (fun _ => ?_) nlt0
          refine AW.iload (n := 111) (dat D_X12_number 58 rfl) rfl rfl ?_
          cases h
          exact AW.iret rfl rfl rfl (dat D_X12_number 59 rfl)
        · refine AW.iload (n := 97) (dat D_X12_number 51 rfl) rfl rfl ?_
          refine AW.iload_n (n := 98) (dat D_X12_number 52 rfl) rfl rfl ?_
          refine AW.iload_n (n := 99) (dat D_X12_number 53 rfl) rfl rfl ?_
          obtain ⟨v16, hc15, h⟩ := ob_some h
          refine AW.cS (n := 102) (as := [vI e8, vI a1, vI a2]) (st := []) (st' := [vI v16]) (uc' := 0) (us' := 0) (A_X12_in hΓ hc15) cf_X12_in rfl wM_X12_164 (le45 rfl) (le45 rfl) (dat D_X12_number 54 rfl) rfl rfl (le45 rfl) (le45 rfl) rfl (fun _ => ?_) nlt0
          refine AW.if_neH (t := 109) (n := 105) h (dat D_X12_number 55 rfl) rfl rfl (fun h => ?_) (fun h => ?_)
          · refine AW.aload_n (n := 106) (dat D_X12_number 56 rfl) rfl rfl ?_
            obtain ⟨σ18, hc17, h⟩ := ob_some h
            refine AW.cV (n := 109) (as := []) (st := []) (st' := []) (uc' := 0) (us' := 0) (A_X12_fails hΓ hc17) cf_X12_fails ly_57 (le45 rfl) vc_12 (le45 rfl) wM_X12_141 (le45 rfl) (le45 rfl) (dat D_X12_number 57 rfl) rfl rfl (le45 rfl) (le45 rfl) rfl (fun _ => ?_) nlt0
            refine AW.iload (n := 111) (dat D_X12_number 58 rfl) rfl rfl ?_
            cases h
            exact AW.iret rfl rfl rfl (dat D_X12_number 59 rfl)
          · refine AW.iload (n := 111) (dat D_X12_number 58 rfl) rfl rfl ?_
            cases h
            exact AW.iret rfl rfl rfl (dat D_X12_number 59 rfl)
    refine AW.to (ls'' := [some (vR 57), some (vI a0), some (vI a1), some (vI a2), some (vI 0), none]) ?_ (lle_s rfl (lle_s rfl (lle_s rfl (lle_s rfl (lle_s rfl (lle_n (lle_z)))))))
    refine aw_iter (fun s : Int × SG => AW Γ mX12_number 3 (0, r) (85, τ) 0 0 16 [some (vR 57), some (vI a0), some (vI a1), some (vI a2), some (vI (s.1)), none] [] (85, s.2)) (fun s y h hk7 hb7 => ?_) _ _ hi7
    obtain ⟨z5, σ6⟩ := s
    show AW Γ mX12_number 3 (0, r) (85, τ) 0 0 16 [some (vR 57), some (vI a0), some (vI a1), some (vI a2), some (vI z5), none] [] (85, σ6)
    have h : X12_number_l16 n a0 z5 σ6 = some y := h
    unfold X12_number_l16 at h
    refine AW.aload_n (n := 17) (dat D_X12_number 9 rfl) rfl rfl ?_
    refine AW.bipush (n := 19) (dat D_X12_number 10 rfl) rfl (by decide) ?_
    refine AW.bipush (n := 21) (dat D_X12_number 11 rfl) rfl (by decide) ?_
    obtain ⟨v20, hc19, h⟩ := ob_some h
    refine AW.cV (n := 24) (as := [vI 48, vI 57]) (st := []) (st' := [vI v20]) (uc' := 0) (us' := 0) (A_X12_isAt hΓ hc19) cf_X12_isAt ly_57 (le45 rfl) vc_12 (le45 rfl) wM_X12_120 (le45 rfl) (le45 rfl) (dat D_X12_number 12 rfl) rfl rfl (le45 rfl) (le45 rfl) rfl (fun _ => ?_) nlt0
    refine AW.if_eqH (t := 73) (n := 27) h (dat D_X12_number 13 rfl) rfl rfl (fun h => ?_) (fun h => ?_)
    · cases h
      have hb := hb7 _ rfl
      cases hb
      exact AW.to hR7 (lle_s rfl (lle_s rfl (lle_s rfl (lle_s rfl (lle_s rfl (lle_n (lle_z)))))))
    · refine AW.aload_n (n := 28) (dat D_X12_number 14 rfl) rfl rfl ?_
      refine AW.getI (n := 31) fX12_4 wF_X12_114 ly_57 (le45 rfl) rfl rfl (dat D_X12_number 15 rfl) rfl ?_
      refine AW.aload_n (n := 32) (dat D_X12_number 16 rfl) rfl rfl ?_
      refine AW.getI (n := 35) fX12_5 wF_X12_124 ly_57 (le45 rfl) rfl rfl (dat D_X12_number 17 rfl) rfl ?_
      refine AW.isub (n := 36) (dat D_X12_number 18 rfl) rfl ?_
      refine AW.iload_n (n := 37) (dat D_X12_number 19 rfl) rfl rfl ?_
      obtain ⟨s22, h, hq22⟩ := ob_some h
      obtain ⟨y21, e22⟩ : ∃ z, z = s22 := ⟨_, rfl⟩
      subst e22
      have hJ22 : AW Γ mX12_number 3 (0, r) (85, τ) 0 0 60 [some (vR 57), some (vI a0), some (vI a1), some (vI a2), some (vI y21), none] [] (85, σ6) := by
        have h : X12_number_j60 n σ6 y21 = some _ := hq22
        unfold X12_number_j60 at h
        refine AW.aload_n (n := 61) (dat D_X12_number 33 rfl) rfl rfl ?_
        refine AW.dup (n := 62) (dat D_X12_number 34 rfl) rfl (cR _) ?_
        refine AW.getI (n := 65) fX12_4 wF_X12_114 ly_57 (le45 rfl) rfl rfl (dat D_X12_number 35 rfl) rfl ?_
        refine AW.iconst (n := 66) (dat D_X12_number 36 rfl) rfl ?_
        refine AW.iadd (n := 67) (dat D_X12_number 37 rfl) rfl ?_
        refine AW.putI (n := 70) fX12_4 wF_X12_114 ly_57 (le45 rfl) rfl rfl rfl (dat D_X12_number 38 rfl) rfl ?_
        refine AW.ltS h (fun σ23 h => ?_)
        refine AW.goto (t := 16) (dat D_X12_number 39 rfl) rfl ?_
        cases h
        exact AW.to (hk7 _ rfl) (lle_s rfl (lle_s rfl (lle_s rfl (lle_s rfl (lle_s rfl (lle_n (lle_z)))))))
      refine AW.icmp_geH (t := 60) (n := 40) h (dat D_X12_number 20 rfl) rfl rfl rfl rfl (fun h => ?_) (fun h => ?_)
      · cases h
        exact AW.to hJ22 (lle_s rfl (lle_s rfl (lle_s rfl (lle_s rfl (lle_s rfl (lle_n (lle_z)))))))
      · refine AW.bipush (n := 42) (dat D_X12_number 21 rfl) rfl (by decide) ?_
        refine AW.iload (n := 44) (dat D_X12_number 22 rfl) rfl rfl ?_
        refine AW.imul (n := 45) (dat D_X12_number 23 rfl) rfl ?_
        refine AW.aload_n (n := 46) (dat D_X12_number 24 rfl) rfl rfl ?_
        refine AW.getR (n := 49) (t := 58) fX12_1 wF_X12_9 ly_57 (le45 rfl) rfl (dat D_X12_number 25 rfl) rfl ?_
        refine AW.aload_n (n := 50) (dat D_X12_number 26 rfl) rfl rfl ?_
        refine AW.getI (n := 53) fX12_4 wF_X12_114 ly_57 (le45 rfl) rfl rfl (dat D_X12_number 27 rfl) rfl ?_
        refine AW.baldH h (n := 54) rfl ly_58 (le45 rfl) (dat D_X12_number 28 rfl) rfl (fun j24 h => ?_)
        refine AW.iadd (n := 55) (dat D_X12_number 29 rfl) rfl ?_
        refine AW.bipush (n := 57) (dat D_X12_number 30 rfl) rfl (by decide) ?_
        refine AW.isub (n := 58) (dat D_X12_number 31 rfl) rfl ?_
        refine AW.ltI h (fun x25 h => ?_)
        refine AW.istore (n := 60) (ls' := [some (vR 57), some (vI a0), some (vI a1), some (vI a2), some (vI x25), none]) (dat D_X12_number 32 rfl) rfl (le45 rfl) (le45 rfl) rfl rfl ?_
        cases h
        exact AW.to hJ22 (lle_s rfl (lle_s rfl (lle_s rfl (lle_s rfl (lle_s rfl (lle_n (lle_z)))))))
  · refine AW.iconst (n := 8) (dat D_X12_number 3 rfl) rfl ?_
    cases h
    exact AW.iret rfl rfl rfl (dat D_X12_number 4 rfl)
def L_X12_after : List (Nat × Instr × Nat) := [(0, .aload_n 0, 1), (1, .aload_n 1, 1), (2, .invokevirtual 168, 3), (5, .aload_n 0, 1), (6, .iconst 2, 1), (7, .iload_n 2, 1), (8, .iload_n 3, 1), (9, .invokevirtual 172, 3), (12, .ireturn, 1)]
theorem D_X12_after : dOK cX12_after L_X12_after = true := by decide +kernel
theorem cf_X12_after : CFV mX12_after 3 := ⟨wI_X12_after, wS_X12_after, wN_WaveRightModel, wC_X12_after, rfl, ⟨by decide +kernel, by decide +kernel, by decide +kernel⟩, le45 rfl⟩
def X12_after (n : Nat) (a0 : Nat) (a1 : Int) (a2 : Int) (σ : SG) : Option (Int × SG) :=
  (X12_asksWord n a0 σ).bind fun σ2 =>
  bnd2 (X12_number n 2 a1 a2 σ2) fun v4 σ5 =>
  some ((v4, σ5))
set_option maxHeartbeats 4000000 in
set_option maxRecDepth 100000 in
theorem A_X12_after {Γ : GA} (hΓ : (gl Γ).stackTraces = false) {n : Nat} {a0 : Nat} {a1 : Int} {a2 : Int} {σ : SG} {r : Int} {τ : SG} (hs0 : a0 < strN) (h : X12_after n a0 a1 a2 σ = some (r, τ)) : AM Γ mX12_after 12 0 0 [vR 57, vO a0, vI a1, vI a2] (85, σ) (0, r) (85, τ) := by
  refine AM.of pl_X12 rfl wC_X12_after (le45 rfl) hΓ ?_
  refine AW.to (ls'' := [some (vR 57), some (vO a0), some (vI a1), some (vI a2)]) ?_ (lle_s rfl (lle_s rfl (lle_s rfl (lle_s rfl (lle_z)))))
  unfold X12_after at h
  refine AW.aload_n (n := 1) (dat D_X12_after 0 rfl) rfl rfl ?_
  refine AW.oload_n (n := 2) (dat D_X12_after 1 rfl) rfl rfl ?_
  obtain ⟨σ2, hc1, h⟩ := ob_some h
  refine AW.cV (n := 5) (as := [vO a0]) (st := []) (st' := []) (uc' := 0) (us' := 0) (A_X12_asksWord hΓ hs0 hc1) cf_X12_asksWord ly_57 (le45 rfl) vc_12 (le45 rfl) wM_X12_168 (le45 rfl) (le45 rfl) (dat D_X12_after 2 rfl) rfl rfl (le45 rfl) (le45 rfl) rfl (fun _ => ?_) nlt0
  refine AW.aload_n (n := 6) (dat D_X12_after 3 rfl) rfl rfl ?_
  refine AW.iconst (n := 7) (dat D_X12_after 4 rfl) rfl ?_
  refine AW.iload_n (n := 8) (dat D_X12_after 5 rfl) rfl rfl ?_
  refine AW.iload_n (n := 9) (dat D_X12_after 6 rfl) rfl rfl ?_
  obtain ⟨v4, σ5, hc3, h⟩ := bnd2_some h
  refine AW.cV (n := 12) (as := [vI 2, vI a1, vI a2]) (st := []) (st' := [vI v4]) (uc' := 0) (us' := 0) (A_X12_number hΓ hc3) cf_X12_number ly_57 (le45 rfl) vc_12 (le45 rfl) wM_X12_172 (le45 rfl) (le45 rfl) (dat D_X12_after 7 rfl) rfl rfl (le45 rfl) (le45 rfl) rfl (fun _ => ?_) nlt0
  cases h
  exact AW.iret rfl rfl rfl (dat D_X12_after 8 rfl)
def L_X12_fault : List (Nat × Instr × Nat) := [(0, .aload_n 0, 1), (1, .iconst 0, 1), (2, .putfield 105, 3), (5, .aload_n 0, 1), (6, .getfield 17, 3), (9, .ireturn, 1)]
theorem D_X12_fault : dOK cX12_fault L_X12_fault = true := by decide +kernel
theorem cf_X12_fault : CFV mX12_fault 0 := ⟨wI_X12_fault, wS_X12_fault, wN_WaveRightModel, wC_X12_fault, rfl, ⟨by decide +kernel, by decide +kernel, by decide +kernel⟩, le45 rfl⟩
def X12_fault (n : Nat) (σ : SG) : Option (Int × SG) :=
  lt (up σ 57 0 0) fun σ1 =>
  some (((σ1 57 8), σ1))
set_option maxHeartbeats 4000000 in
set_option maxRecDepth 100000 in
theorem A_X12_fault {Γ : GA} (hΓ : (gl Γ).stackTraces = false) {n : Nat} {σ : SG} {r : Int} {τ : SG}  (h : X12_fault n σ = some (r, τ)) : AM Γ mX12_fault 1 0 0 [vR 57] (85, σ) (0, r) (85, τ) := by
  refine AM.of pl_X12 rfl wC_X12_fault (le45 rfl) hΓ ?_
  refine AW.to (ls'' := [some (vR 57)]) ?_ (lle_s rfl (lle_z))
  unfold X12_fault at h
  refine AW.aload_n (n := 1) (dat D_X12_fault 0 rfl) rfl rfl ?_
  refine AW.iconst (n := 2) (dat D_X12_fault 1 rfl) rfl ?_
  refine AW.putI (n := 5) fX12_0 wF_X12_105 ly_57 (le45 rfl) rfl rfl rfl (dat D_X12_fault 2 rfl) rfl ?_
  refine AW.ltS h (fun σ1 h => ?_)
  refine AW.aload_n (n := 6) (dat D_X12_fault 3 rfl) rfl rfl ?_
  refine AW.getI (n := 9) fX12_8 wF_X12_17 ly_57 (le45 rfl) rfl rfl (dat D_X12_fault 4 rfl) rfl ?_
  cases h
  exact AW.iret rfl rfl rfl (dat D_X12_fault 5 rfl)
def L_X12_isName : List (Nat × Instr × Nat) := [(0, .aload_n 0, 1), (1, .invokevirtual 144, 3), (4, .istore_n 1, 1), (5, .aload_n 0, 1), (6, .invokevirtual 130, 3), (9, .ifCond .ne 116, 3), (12, .iload_n 1, 1), (13, .ifCond .le 112, 3), (16, .iload_n 1, 1), (17, .bipush 6, 2), (19, .if_icmp .gt 106, 3), (22, .aload_n 0, 1), (23, .ldc 176, 2), (25, .invokevirtual 157, 3), (28, .ifCond .ne 97, 3), (31, .aload_n 0, 1), (32, .ldc 178, 2), (34, .invokevirtual 157, 3), (37, .ifCond .ne 88, 3), (40, .aload_n 0, 1), (41, .ldc 180, 2), (43, .invokevirtual 157, 3), (46, .ifCond .ne 79, 3), (49, .aload_n 0, 1), (50, .ldc 182, 2), (52, .invokevirtual 157, 3), (55, .ifCond .ne 70, 3), (58, .aload_n 0, 1), (59, .ldc 184, 2), (61, .invokevirtual 157, 3), (64, .ifCond .ne 61, 3), (67, .aload_n 0, 1), (68, .ldc 186, 2), (70, .invokevirtual 157, 3), (73, .ifCond .ne 52, 3), (76, .aload_n 0, 1), (77, .ldc 188, 2), (79, .invokevirtual 157, 3), (82, .ifCond .ne 43, 3), (85, .aload_n 0, 1), (86, .ldc 190, 2), (88, .invokevirtual 157, 3), (91, .ifCond .ne 34, 3), (94, .aload_n 0, 1), (95, .ldc 192, 2), (97, .invokevirtual 157, 3), (100, .ifCond .ne 25, 3), (103, .aload_n 0, 1), (104, .ldc 194, 2), (106, .invokevirtual 157, 3), (109, .ifCond .ne 16, 3), (112, .aload_n 0, 1), (113, .ldc 196, 2), (115, .invokevirtual 157, 3), (118, .ifCond .ne 7, 3), (121, .iconst 1, 1), (122, .goto 4, 3), (125, .iconst 0, 1), (126, .ireturn, 1)]
theorem D_X12_isName : dOK cX12_isName L_X12_isName = true := by decide +kernel
theorem cf_X12_isName : CFV mX12_isName 0 := ⟨wI_X12_isName, wS_X12_isName, wN_WaveRightModel, wC_X12_isName, rfl, ⟨by decide +kernel, by decide +kernel, by decide +kernel⟩, le45 rfl⟩
def X12_isName (n : Nat) (σ : SG) : Option (Int × SG) :=
  bnd2 (X12_wordMany n σ) fun v2 σ3 =>
  (X12_hasFailed n σ3).bind fun v5 =>
  if w32 v5 = 0 then
    if w32 v2 ≤ 0 then
      some ((0, σ3))
    else
      if 6 < w32 v2 then
        some ((0, σ3))
      else
        bnd2 (X12_isWord n 47 σ3) fun v7 σ8 =>
        if w32 v7 = 0 then
          bnd2 (X12_isWord n 48 σ8) fun v10 σ11 =>
          if w32 v10 = 0 then
            bnd2 (X12_isWord n 49 σ11) fun v13 σ14 =>
            if w32 v13 = 0 then
              bnd2 (X12_isWord n 50 σ14) fun v16 σ17 =>
              if w32 v16 = 0 then
                bnd2 (X12_isWord n 51 σ17) fun v19 σ20 =>
                if w32 v19 = 0 then
                  bnd2 (X12_isWord n 52 σ20) fun v22 σ23 =>
                  if w32 v22 = 0 then
                    bnd2 (X12_isWord n 53 σ23) fun v25 σ26 =>
                    if w32 v25 = 0 then
                      bnd2 (X12_isWord n 54 σ26) fun v28 σ29 =>
                      if w32 v28 = 0 then
                        bnd2 (X12_isWord n 55 σ29) fun v31 σ32 =>
                        if w32 v31 = 0 then
                          bnd2 (X12_isWord n 56 σ32) fun v34 σ35 =>
                          if w32 v34 = 0 then
                            bnd2 (X12_isWord n 57 σ35) fun v37 σ38 =>
                            if w32 v37 = 0 then
                              some ((1, σ38))
                            else
                              some ((0, σ38))
                          else
                            some ((0, σ35))
                        else
                          some ((0, σ32))
                      else
                        some ((0, σ29))
                    else
                      some ((0, σ26))
                  else
                    some ((0, σ23))
                else
                  some ((0, σ20))
              else
                some ((0, σ17))
            else
              some ((0, σ14))
          else
            some ((0, σ11))
        else
          some ((0, σ8))
  else
    some ((0, σ3))
set_option maxHeartbeats 4000000 in
set_option maxRecDepth 100000 in
theorem A_X12_isName {Γ : GA} (hΓ : (gl Γ).stackTraces = false) {n : Nat} {σ : SG} {r : Int} {τ : SG}  (h : X12_isName n σ = some (r, τ)) : AM Γ mX12_isName 10 0 0 [vR 57] (85, σ) (0, r) (85, τ) := by
  refine AM.of pl_X12 rfl wC_X12_isName (le45 rfl) hΓ ?_
  refine AW.to (ls'' := [some (vR 57), none]) ?_ (lle_s rfl (lle_e (lle_z)))
  unfold X12_isName at h
  refine AW.aload_n (n := 1) (dat D_X12_isName 0 rfl) rfl rfl ?_
  obtain ⟨v2, σ3, hc1, h⟩ := bnd2_some h
  refine AW.cV (n := 4) (as := []) (st := []) (st' := [vI v2]) (uc' := 0) (us' := 0) (A_X12_wordMany hΓ hc1) cf_X12_wordMany ly_57 (le45 rfl) vc_12 (le45 rfl) wM_X12_144 (le45 rfl) (le45 rfl) (dat D_X12_isName 1 rfl) rfl rfl (le45 rfl) (le45 rfl) rfl (fun _ => ?_) nlt0
  refine AW.istore_n (n := 5) (ls' := [some (vR 57), some (vI v2)]) (dat D_X12_isName 2 rfl) rfl (le45 rfl) (le45 rfl) rfl rfl ?_
  refine AW.aload_n (n := 6) (dat D_X12_isName 3 rfl) rfl rfl ?_
  obtain ⟨v5, hc4, h⟩ := ob_some h
  refine AW.cV (n := 9) (as := []) (st := []) (st' := [vI v5]) (uc' := 0) (us' := 0) (A_X12_hasFailed hΓ hc4) cf_X12_hasFailed ly_57 (le45 rfl) vc_12 (le45 rfl) wM_X12_130 (le45 rfl) (le45 rfl) (dat D_X12_isName 4 rfl) rfl rfl (le45 rfl) (le45 rfl) rfl (fun _ => ?_) nlt0
  refine AW.if_neH (t := 125) (n := 12) h (dat D_X12_isName 5 rfl) rfl rfl (fun h => ?_) (fun h => ?_)
  · refine AW.iload_n (n := 13) (dat D_X12_isName 6 rfl) rfl rfl ?_
    refine AW.if_leH (t := 125) (n := 16) h (dat D_X12_isName 7 rfl) rfl rfl (fun h => ?_) (fun h => ?_)
    · refine AW.iconst (n := 126) (dat D_X12_isName 57 rfl) rfl ?_
      cases h
      exact AW.zret rfl (by decide) rfl rfl (dat D_X12_isName 58 rfl)
    · refine AW.iload_n (n := 17) (dat D_X12_isName 8 rfl) rfl rfl ?_
      refine AW.bipush (n := 19) (dat D_X12_isName 9 rfl) rfl (by decide) ?_
      refine AW.icmp_gtH (t := 125) (n := 22) h (dat D_X12_isName 10 rfl) rfl rfl rfl (by decide) (fun h => ?_) (fun h => ?_)
      · refine AW.iconst (n := 126) (dat D_X12_isName 57 rfl) rfl ?_
        cases h
        exact AW.zret rfl (by decide) rfl rfl (dat D_X12_isName 58 rfl)
      · refine AW.aload_n (n := 23) (dat D_X12_isName 11 rfl) rfl rfl ?_
        refine AW.ldcS (n := 25) (j := 47) rfl (dat D_X12_isName 12 rfl) rfl ?_
        obtain ⟨v7, σ8, hc6, h⟩ := bnd2_some h
        refine AW.cV (n := 28) (as := [vO 47]) (st := []) (st' := [vI v7]) (uc' := 0) (us' := 0) (A_X12_isWord hΓ (by decide) hc6) cf_X12_isWord ly_57 (le45 rfl) vc_12 (le45 rfl) wM_X12_157 (le45 rfl) (le45 rfl) (dat D_X12_isName 13 rfl) rfl rfl (le45 rfl) (le45 rfl) rfl (fun _ => ?_) nlt0
        refine AW.if_neH (t := 125) (n := 31) h (dat D_X12_isName 14 rfl) rfl rfl (fun h => ?_) (fun h => ?_)
        · refine AW.aload_n (n := 32) (dat D_X12_isName 15 rfl) rfl rfl ?_
          refine AW.ldcS (n := 34) (j := 48) rfl (dat D_X12_isName 16 rfl) rfl ?_
          obtain ⟨v10, σ11, hc9, h⟩ := bnd2_some h
          refine AW.cV (n := 37) (as := [vO 48]) (st := []) (st' := [vI v10]) (uc' := 0) (us' := 0) (A_X12_isWord hΓ (by decide) hc9) cf_X12_isWord ly_57 (le45 rfl) vc_12 (le45 rfl) wM_X12_157 (le45 rfl) (le45 rfl) (dat D_X12_isName 17 rfl) rfl rfl (le45 rfl) (le45 rfl) rfl (fun _ => ?_) nlt0
          refine AW.if_neH (t := 125) (n := 40) h (dat D_X12_isName 18 rfl) rfl rfl (fun h => ?_) (fun h => ?_)
          · refine AW.aload_n (n := 41) (dat D_X12_isName 19 rfl) rfl rfl ?_
            refine AW.ldcS (n := 43) (j := 49) rfl (dat D_X12_isName 20 rfl) rfl ?_
            obtain ⟨v13, σ14, hc12, h⟩ := bnd2_some h
            refine AW.cV (n := 46) (as := [vO 49]) (st := []) (st' := [vI v13]) (uc' := 0) (us' := 0) (A_X12_isWord hΓ (by decide) hc12) cf_X12_isWord ly_57 (le45 rfl) vc_12 (le45 rfl) wM_X12_157 (le45 rfl) (le45 rfl) (dat D_X12_isName 21 rfl) rfl rfl (le45 rfl) (le45 rfl) rfl (fun _ => ?_) nlt0
            refine AW.if_neH (t := 125) (n := 49) h (dat D_X12_isName 22 rfl) rfl rfl (fun h => ?_) (fun h => ?_)
            · refine AW.aload_n (n := 50) (dat D_X12_isName 23 rfl) rfl rfl ?_
              refine AW.ldcS (n := 52) (j := 50) rfl (dat D_X12_isName 24 rfl) rfl ?_
              obtain ⟨v16, σ17, hc15, h⟩ := bnd2_some h
              refine AW.cV (n := 55) (as := [vO 50]) (st := []) (st' := [vI v16]) (uc' := 0) (us' := 0) (A_X12_isWord hΓ (by decide) hc15) cf_X12_isWord ly_57 (le45 rfl) vc_12 (le45 rfl) wM_X12_157 (le45 rfl) (le45 rfl) (dat D_X12_isName 25 rfl) rfl rfl (le45 rfl) (le45 rfl) rfl (fun _ => ?_) nlt0
              refine AW.if_neH (t := 125) (n := 58) h (dat D_X12_isName 26 rfl) rfl rfl (fun h => ?_) (fun h => ?_)
              · refine AW.aload_n (n := 59) (dat D_X12_isName 27 rfl) rfl rfl ?_
                refine AW.ldcS (n := 61) (j := 51) rfl (dat D_X12_isName 28 rfl) rfl ?_
                obtain ⟨v19, σ20, hc18, h⟩ := bnd2_some h
                refine AW.cV (n := 64) (as := [vO 51]) (st := []) (st' := [vI v19]) (uc' := 0) (us' := 0) (A_X12_isWord hΓ (by decide) hc18) cf_X12_isWord ly_57 (le45 rfl) vc_12 (le45 rfl) wM_X12_157 (le45 rfl) (le45 rfl) (dat D_X12_isName 29 rfl) rfl rfl (le45 rfl) (le45 rfl) rfl (fun _ => ?_) nlt0
                refine AW.if_neH (t := 125) (n := 67) h (dat D_X12_isName 30 rfl) rfl rfl (fun h => ?_) (fun h => ?_)
                · refine AW.aload_n (n := 68) (dat D_X12_isName 31 rfl) rfl rfl ?_
                  refine AW.ldcS (n := 70) (j := 52) rfl (dat D_X12_isName 32 rfl) rfl ?_
                  obtain ⟨v22, σ23, hc21, h⟩ := bnd2_some h
                  refine AW.cV (n := 73) (as := [vO 52]) (st := []) (st' := [vI v22]) (uc' := 0) (us' := 0) (A_X12_isWord hΓ (by decide) hc21) cf_X12_isWord ly_57 (le45 rfl) vc_12 (le45 rfl) wM_X12_157 (le45 rfl) (le45 rfl) (dat D_X12_isName 33 rfl) rfl rfl (le45 rfl) (le45 rfl) rfl (fun _ => ?_) nlt0
                  refine AW.if_neH (t := 125) (n := 76) h (dat D_X12_isName 34 rfl) rfl rfl (fun h => ?_) (fun h => ?_)
                  · refine AW.aload_n (n := 77) (dat D_X12_isName 35 rfl) rfl rfl ?_
                    refine AW.ldcS (n := 79) (j := 53) rfl (dat D_X12_isName 36 rfl) rfl ?_
                    obtain ⟨v25, σ26, hc24, h⟩ := bnd2_some h
                    refine AW.cV (n := 82) (as := [vO 53]) (st := []) (st' := [vI v25]) (uc' := 0) (us' := 0) (A_X12_isWord hΓ (by decide) hc24) cf_X12_isWord ly_57 (le45 rfl) vc_12 (le45 rfl) wM_X12_157 (le45 rfl) (le45 rfl) (dat D_X12_isName 37 rfl) rfl rfl (le45 rfl) (le45 rfl) rfl (fun _ => ?_) nlt0
                    refine AW.if_neH (t := 125) (n := 85) h (dat D_X12_isName 38 rfl) rfl rfl (fun h => ?_) (fun h => ?_)
                    · refine AW.aload_n (n := 86) (dat D_X12_isName 39 rfl) rfl rfl ?_
                      refine AW.ldcS (n := 88) (j := 54) rfl (dat D_X12_isName 40 rfl) rfl ?_
                      obtain ⟨v28, σ29, hc27, h⟩ := bnd2_some h
                      refine AW.cV (n := 91) (as := [vO 54]) (st := []) (st' := [vI v28]) (uc' := 0) (us' := 0) (A_X12_isWord hΓ (by decide) hc27) cf_X12_isWord ly_57 (le45 rfl) vc_12 (le45 rfl) wM_X12_157 (le45 rfl) (le45 rfl) (dat D_X12_isName 41 rfl) rfl rfl (le45 rfl) (le45 rfl) rfl (fun _ => ?_) nlt0
                      refine AW.if_neH (t := 125) (n := 94) h (dat D_X12_isName 42 rfl) rfl rfl (fun h => ?_) (fun h => ?_)
                      · refine AW.aload_n (n := 95) (dat D_X12_isName 43 rfl) rfl rfl ?_
                        refine AW.ldcS (n := 97) (j := 55) rfl (dat D_X12_isName 44 rfl) rfl ?_
                        obtain ⟨v31, σ32, hc30, h⟩ := bnd2_some h
                        refine AW.cV (n := 100) (as := [vO 55]) (st := []) (st' := [vI v31]) (uc' := 0) (us' := 0) (A_X12_isWord hΓ (by decide) hc30) cf_X12_isWord ly_57 (le45 rfl) vc_12 (le45 rfl) wM_X12_157 (le45 rfl) (le45 rfl) (dat D_X12_isName 45 rfl) rfl rfl (le45 rfl) (le45 rfl) rfl (fun _ => ?_) nlt0
                        refine AW.if_neH (t := 125) (n := 103) h (dat D_X12_isName 46 rfl) rfl rfl (fun h => ?_) (fun h => ?_)
                        · refine AW.aload_n (n := 104) (dat D_X12_isName 47 rfl) rfl rfl ?_
                          refine AW.ldcS (n := 106) (j := 56) rfl (dat D_X12_isName 48 rfl) rfl ?_
                          obtain ⟨v34, σ35, hc33, h⟩ := bnd2_some h
                          refine AW.cV (n := 109) (as := [vO 56]) (st := []) (st' := [vI v34]) (uc' := 0) (us' := 0) (A_X12_isWord hΓ (by decide) hc33) cf_X12_isWord ly_57 (le45 rfl) vc_12 (le45 rfl) wM_X12_157 (le45 rfl) (le45 rfl) (dat D_X12_isName 49 rfl) rfl rfl (le45 rfl) (le45 rfl) rfl (fun _ => ?_) nlt0
                          refine AW.if_neH (t := 125) (n := 112) h (dat D_X12_isName 50 rfl) rfl rfl (fun h => ?_) (fun h => ?_)
                          · refine AW.aload_n (n := 113) (dat D_X12_isName 51 rfl) rfl rfl ?_
                            refine AW.ldcS (n := 115) (j := 57) rfl (dat D_X12_isName 52 rfl) rfl ?_
                            obtain ⟨v37, σ38, hc36, h⟩ := bnd2_some h
                            refine AW.cV (n := 118) (as := [vO 57]) (st := []) (st' := [vI v37]) (uc' := 0) (us' := 0) (A_X12_isWord hΓ (by decide) hc36) cf_X12_isWord ly_57 (le45 rfl) vc_12 (le45 rfl) wM_X12_157 (le45 rfl) (le45 rfl) (dat D_X12_isName 53 rfl) rfl rfl (le45 rfl) (le45 rfl) rfl (fun _ => ?_) nlt0
                            refine AW.if_neH (t := 125) (n := 121) h (dat D_X12_isName 54 rfl) rfl rfl (fun h => ?_) (fun h => ?_)
                            · refine AW.iconst (n := 122) (dat D_X12_isName 55 rfl) rfl ?_
                              refine AW.goto (t := 126) (dat D_X12_isName 56 rfl) rfl ?_
                              cases h
                              exact AW.zret rfl (by decide) rfl rfl (dat D_X12_isName 58 rfl)
                            · refine AW.iconst (n := 126) (dat D_X12_isName 57 rfl) rfl ?_
                              cases h
                              exact AW.zret rfl (by decide) rfl rfl (dat D_X12_isName 58 rfl)
                          · refine AW.iconst (n := 126) (dat D_X12_isName 57 rfl) rfl ?_
                            cases h
                            exact AW.zret rfl (by decide) rfl rfl (dat D_X12_isName 58 rfl)
                        · refine AW.iconst (n := 126) (dat D_X12_isName 57 rfl) rfl ?_
                          cases h
                          exact AW.zret rfl (by decide) rfl rfl (dat D_X12_isName 58 rfl)
                      · refine AW.iconst (n := 126) (dat D_X12_isName 57 rfl) rfl ?_
                        cases h
                        exact AW.zret rfl (by decide) rfl rfl (dat D_X12_isName 58 rfl)
                    · refine AW.iconst (n := 126) (dat D_X12_isName 57 rfl) rfl ?_
                      cases h
                      exact AW.zret rfl (by decide) rfl rfl (dat D_X12_isName 58 rfl)
                  · refine AW.iconst (n := 126) (dat D_X12_isName 57 rfl) rfl ?_
                    cases h
                    exact AW.zret rfl (by decide) rfl rfl (dat D_X12_isName 58 rfl)
                · refine AW.iconst (n := 126) (dat D_X12_isName 57 rfl) rfl ?_
                  cases h
                  exact AW.zret rfl (by decide) rfl rfl (dat D_X12_isName 58 rfl)
              · refine AW.iconst (n := 126) (dat D_X12_isName 57 rfl) rfl ?_
                cases h
                exact AW.zret rfl (by decide) rfl rfl (dat D_X12_isName 58 rfl)
            · refine AW.iconst (n := 126) (dat D_X12_isName 57 rfl) rfl ?_
              cases h
              exact AW.zret rfl (by decide) rfl rfl (dat D_X12_isName 58 rfl)
          · refine AW.iconst (n := 126) (dat D_X12_isName 57 rfl) rfl ?_
            cases h
            exact AW.zret rfl (by decide) rfl rfl (dat D_X12_isName 58 rfl)
        · refine AW.iconst (n := 126) (dat D_X12_isName 57 rfl) rfl ?_
          cases h
          exact AW.zret rfl (by decide) rfl rfl (dat D_X12_isName 58 rfl)
  · refine AW.iconst (n := 126) (dat D_X12_isName 57 rfl) rfl ?_
    cases h
    exact AW.zret rfl (by decide) rfl rfl (dat D_X12_isName 58 rfl)
def L_X12_isTold : List (Nat × Instr × Nat) := [(0, .aload_n 0, 1), (1, .invokevirtual 144, 3), (4, .istore_n 1, 1), (5, .iconst 0, 1), (6, .istore_n 2, 1), (7, .iload_n 2, 1), (8, .aload_n 0, 1), (9, .getfield 24, 3), (12, .iconst 0, 1), (13, .iaload, 1), (14, .if_icmp .ge 82, 3), (17, .iconst 1, 1), (18, .istore_n 3, 1), (19, .iconst 0, 1), (20, .istore 4, 2), (22, .iload 4, 2), (24, .bipush 6, 2), (26, .if_icmp .ge 58, 3), (29, .iload_n 3, 1), (30, .ifCond .eq 46, 3), (33, .aload_n 0, 1), (34, .getfield 24, 3), (37, .iconst 4, 1), (38, .bipush 6, 2), (40, .iload_n 2, 1), (41, .imul, 1), (42, .iadd, 1), (43, .iload 4, 2), (45, .iadd, 1), (46, .iaload, 1), (47, .iload 4, 2), (49, .iload_n 1, 1), (50, .if_icmp .ge 18, 3), (53, .aload_n 0, 1), (54, .getfield 9, 3), (57, .aload_n 0, 1), (58, .getfield 114, 3), (61, .iload 4, 2), (63, .iadd, 1), (64, .baload, 1), (65, .goto 4, 3), (68, .iconst 0, 1), (69, .if_icmp .ne 7, 3), (72, .iconst 1, 1), (73, .goto 4, 3), (76, .iconst 0, 1), (77, .istore_n 3, 1), (78, .iinc 4 1, 3), (81, .goto (-59), 3), (84, .iload_n 3, 1), (85, .ifCond .eq 5, 3), (88, .iconst 1, 1), (89, .ireturn, 1), (90, .iinc 2 1, 3), (93, .goto (-86), 3), (96, .iconst 0, 1), (97, .ireturn, 1)]
theorem D_X12_isTold : dOK cX12_isTold L_X12_isTold = true := by decide +kernel
theorem cf_X12_isTold : CFV mX12_isTold 0 := ⟨wI_X12_isTold, wS_X12_isTold, wN_WaveRightModel, wC_X12_isTold, rfl, ⟨by decide +kernel, by decide +kernel, by decide +kernel⟩, le45 rfl⟩
def X12_isTold_e7 (n : Nat) (σ3 : SG) : Option (Int × SG) :=
  some ((0, σ3))
def X12_isTold_e22 (n : Nat) (z4 : Int) (σ3 : SG) (e10 : Int) : Option ((Int) ⊕ ((Unit) ⊕ (Int × SG))) :=
  if w32 e10 = 0 then
    lt (z4 + 1) fun x11 =>
    some (.inl x11)
  else
    some (.inr (.inr (1, σ3)))
def X12_isTold_j77 (n : Nat) (z8 : Int) (y12 : Int) : Option ((Int × Int) ⊕ (Int)) :=
  lt (z8 + 1) fun x14 =>
  some (.inl (y12, x14))
def X12_isTold_j69 (n : Nat) (σ3 : SG) (j15 : Nat) (y16 : Int) : Option (Int) :=
  if w32 (σ3 61 j15) = w32 y16 then
    some (1)
  else
    some (0)
def X12_isTold_l22 (n : Nat) (z4 : Int) (v2 : Int) (σ3 : SG) (z7 : Int) (z8 : Int) : Option ((Int × Int) ⊕ (Int)) :=
  if 6 ≤ w32 z8 then
    some (.inr z7)
  else
    ((if w32 z7 = 0 then
      some (0)
    else
      rdA 144 ((4 + (6 * z4)) + z8) fun j15 =>
      ((if w32 v2 ≤ w32 z8 then
        some (0)
      else
        rdA 400 ((σ3 57 4) + z8) fun j18 =>
        some ((σ3 58 j18))) : Option (Int)).bind (fun s => X12_isTold_j69 n σ3 j15 s)) : Option (Int)).bind (fun s => X12_isTold_j77 n z8 s)
def X12_isTold_l7 (n : Nat) (σ3 : SG) (v2 : Int) (z4 : Int) : Option ((Int) ⊕ ((Unit) ⊕ (Int × SG))) :=
  rdA 144 0 fun j6 =>
  if w32 (σ3 61 j6) ≤ w32 z4 then
    some (.inr (.inl ()))
  else
    ((iter n (fun s : Int × Int => X12_isTold_l22 n z4 v2 σ3 s.1 s.2) (1, 0)) : Option (Int)).bind (fun s => X12_isTold_e22 n z4 σ3 s)
def X12_isTold (n : Nat) (σ : SG) : Option (Int × SG) :=
  bnd2 (X12_wordMany n σ) fun v2 σ3 =>
  ((iter n (fun s : Int => X12_isTold_l7 n σ3 v2 s) 0) : Option ((Unit) ⊕ (Int × SG))).bind (orr (fun s => X12_isTold_e7 n σ3))
set_option maxHeartbeats 4000000 in
set_option maxRecDepth 100000 in
theorem A_X12_isTold {Γ : GA} (hΓ : (gl Γ).stackTraces = false) {n : Nat} {σ : SG} {r : Int} {τ : SG}  (h : X12_isTold n σ = some (r, τ)) : AM Γ mX12_isTold 4 0 0 [vR 57] (85, σ) (0, r) (85, τ) := by
  refine AM.of pl_X12 rfl wC_X12_isTold (le45 rfl) hΓ ?_
  refine AW.to (ls'' := [some (vR 57), none, none, none, none]) ?_ (lle_s rfl (lle_e (lle_e (lle_e (lle_e (lle_z))))))
  unfold X12_isTold at h
  refine AW.aload_n (n := 1) (dat D_X12_isTold 0 rfl) rfl rfl ?_
  obtain ⟨v2, σ3, hc1, h⟩ := bnd2_some h
  refine AW.cV (n := 4) (as := []) (st := []) (st' := [vI v2]) (uc' := 0) (us' := 0) (A_X12_wordMany hΓ hc1) cf_X12_wordMany ly_57 (le45 rfl) vc_12 (le45 rfl) wM_X12_144 (le45 rfl) (le45 rfl) (dat D_X12_isTold 1 rfl) rfl rfl (le45 rfl) (le45 rfl) rfl (fun _ => ?_) nlt0
  refine AW.istore_n (n := 5) (ls' := [some (vR 57), some (vI v2), none, none, none]) (dat D_X12_isTold 2 rfl) rfl (le45 rfl) (le45 rfl) rfl rfl ?_
  refine AW.iconst (n := 6) (dat D_X12_isTold 3 rfl) rfl ?_
  refine AW.istore_n (n := 7) (ls' := [some (vR 57), some (vI v2), some (vI 0), none, none]) (dat D_X12_isTold 4 rfl) rfl (le45 rfl) (le45 rfl) rfl rfl ?_
  obtain ⟨b5, hi5, hq5⟩ := ob_some h
  have hR5 : ∀ (_ : Unit), b5 = .inl () → AW Γ mX12_isTold 4 (0, r) (85, τ) 0 0 96 [none, none, none, none, none] [] (85, σ3) := by
    intro _ e
    subst e
    have h : X12_isTold_e7 n σ3 = some _ := hq5
    unfold X12_isTold_e7 at h
    refine AW.iconst (n := 97) (dat D_X12_isTold 55 rfl) rfl ?_
    cases h
    exact AW.zret rfl (by decide) rfl rfl (dat D_X12_isTold 56 rfl)
  refine AW.to (ls'' := [some (vR 57), some (vI v2), some (vI 0), none, none]) ?_ (lle_s rfl (lle_s rfl (lle_s rfl (lle_n (lle_n (lle_z))))))
  refine aw_iter (fun s : Int => AW Γ mX12_isTold 4 (0, r) (85, τ) 0 0 7 [some (vR 57), some (vI v2), some (vI s), none, none] [] (85, σ3)) (fun s y h hk5 hb5 => ?_) _ _ hi5
  obtain ⟨z4, e5⟩ : ∃ z, z = s := ⟨_, rfl⟩
  subst e5
  show AW Γ mX12_isTold 4 (0, r) (85, τ) 0 0 7 [some (vR 57), some (vI v2), some (vI z4), none, none] [] (85, σ3)
  have h : X12_isTold_l7 n σ3 v2 z4 = some y := h
  unfold X12_isTold_l7 at h
  refine AW.iload_n (n := 8) (dat D_X12_isTold 5 rfl) rfl rfl ?_
  refine AW.aload_n (n := 9) (dat D_X12_isTold 6 rfl) rfl rfl ?_
  refine AW.getR (n := 12) (t := 61) fX12_10 wF_X12_24 ly_57 (le45 rfl) rfl (dat D_X12_isTold 7 rfl) rfl ?_
  refine AW.iconst (n := 13) (dat D_X12_isTold 8 rfl) rfl ?_
  refine AW.ialdH h (n := 14) rfl ly_61 (le45 rfl) (dat D_X12_isTold 9 rfl) rfl (fun j6 h => ?_)
  refine AW.icmp_geH (t := 96) (n := 17) h (dat D_X12_isTold 10 rfl) rfl rfl rfl rfl (fun h => ?_) (fun h => ?_)
  · cases h
    have hb := hb5 _ rfl
    exact AW.to (hR5 () hb.symm) (lle_n (lle_n (lle_n (lle_n (lle_n (lle_z))))))
  · refine AW.iconst (n := 18) (dat D_X12_isTold 11 rfl) rfl ?_
    refine AW.istore_n (n := 19) (ls' := [some (vR 57), some (vI v2), some (vI z4), some (vI 1), none]) (dat D_X12_isTold 12 rfl) rfl (le45 rfl) (le45 rfl) rfl rfl ?_
    refine AW.iconst (n := 20) (dat D_X12_isTold 13 rfl) rfl ?_
    refine AW.istore (n := 22) (ls' := [some (vR 57), some (vI v2), some (vI z4), some (vI 1), some (vI 0)]) (dat D_X12_isTold 14 rfl) rfl (le45 rfl) (le45 rfl) rfl rfl ?_
    obtain ⟨b9, hi9, hq9⟩ := ob_some h
    obtain ⟨e10, e9⟩ : ∃ z, z = b9 := ⟨_, rfl⟩
    subst e9
    have hR9 : AW Γ mX12_isTold 4 (0, r) (85, τ) 0 0 84 [some (vR 57), some (vI v2), some (vI z4), some (vI e10), none] [] (85, σ3) := by
      have h : X12_isTold_e22 n z4 σ3 e10 = some _ := hq9
      unfold X12_isTold_e22 at h
      refine AW.iload_n (n := 85) (dat D_X12_isTold 49 rfl) rfl rfl ?_
      refine AW.if_eqH (t := 90) (n := 88) h (dat D_X12_isTold 50 rfl) rfl rfl (fun h => ?_) (fun h => ?_)
      · refine AW.iincH h (n := 93) (dat D_X12_isTold 53 rfl) rfl rfl (le45 rfl) rfl (fun x11 h => ?_)
        refine AW.lq (ls' := [some (vR 57), some (vI v2), some (vI x11), some (vI e10), none]) rfl ?_
        refine AW.goto (t := 7) (dat D_X12_isTold 54 rfl) rfl ?_
        cases h
        exact AW.to (hk5 _ rfl) (lle_s rfl (lle_s rfl (lle_s rfl (lle_n (lle_n (lle_z))))))
      · refine AW.iconst (n := 89) (dat D_X12_isTold 51 rfl) rfl ?_
        cases h
        have hb := hb5 _ rfl
        subst hb
        have h := hq5
        have h : some _ = some _ := h
        cases h
        exact AW.zret rfl (by decide) rfl rfl (dat D_X12_isTold 52 rfl)
    refine AW.to (ls'' := [some (vR 57), some (vI v2), some (vI z4), some (vI 1), some (vI 0)]) ?_ (lle_s rfl (lle_s rfl (lle_s rfl (lle_s rfl (lle_s rfl (lle_z))))))
    refine aw_iter (fun s : Int × Int => AW Γ mX12_isTold 4 (0, r) (85, τ) 0 0 22 [some (vR 57), some (vI v2), some (vI z4), some (vI (s.1)), some (vI (s.2))] [] (85, σ3)) (fun s y h hk9 hb9 => ?_) _ _ hi9
    obtain ⟨z7, z8⟩ := s
    show AW Γ mX12_isTold 4 (0, r) (85, τ) 0 0 22 [some (vR 57), some (vI v2), some (vI z4), some (vI z7), some (vI z8)] [] (85, σ3)
    have h : X12_isTold_l22 n z4 v2 σ3 z7 z8 = some y := h
    unfold X12_isTold_l22 at h
    refine AW.iload (n := 24) (dat D_X12_isTold 15 rfl) rfl rfl ?_
    refine AW.bipush (n := 26) (dat D_X12_isTold 16 rfl) rfl (by decide) ?_
    refine AW.icmp_geH (t := 84) (n := 29) h (dat D_X12_isTold 17 rfl) rfl rfl rfl (by decide) (fun h => ?_) (fun h => ?_)
    · cases h
      have hb := hb9 _ rfl
      cases hb
      exact AW.to hR9 (lle_s rfl (lle_s rfl (lle_s rfl (lle_s rfl (lle_n (lle_z))))))
    · refine AW.iload_n (n := 30) (dat D_X12_isTold 18 rfl) rfl rfl ?_
      obtain ⟨s13, h, hq13⟩ := ob_some h
      obtain ⟨y12, e13⟩ : ∃ z, z = s13 := ⟨_, rfl⟩
      subst e13
      have hJ13 : AW Γ mX12_isTold 4 (0, r) (85, τ) 0 0 77 [some (vR 57), some (vI v2), some (vI z4), none, some (vI z8)] [vI y12] (85, σ3) := by
        have h : X12_isTold_j77 n z8 y12 = some _ := hq13
        unfold X12_isTold_j77 at h
        refine AW.istore_n (n := 78) (ls' := [some (vR 57), some (vI v2), some (vI z4), some (vI y12), some (vI z8)]) (dat D_X12_isTold 46 rfl) rfl (le45 rfl) (le45 rfl) rfl rfl ?_
        refine AW.iincH h (n := 81) (dat D_X12_isTold 47 rfl) rfl rfl (le45 rfl) rfl (fun x14 h => ?_)
        refine AW.lq (ls' := [some (vR 57), some (vI v2), some (vI z4), some (vI y12), some (vI x14)]) rfl ?_
        refine AW.goto (t := 22) (dat D_X12_isTold 48 rfl) rfl ?_
        cases h
        exact AW.to (hk9 _ rfl) (lle_s rfl (lle_s rfl (lle_s rfl (lle_s rfl (lle_s rfl (lle_z))))))
      refine AW.if_eqH (t := 76) (n := 33) h (dat D_X12_isTold 19 rfl) rfl rfl (fun h => ?_) (fun h => ?_)
      · refine AW.iconst (n := 77) (dat D_X12_isTold 45 rfl) rfl ?_
        cases h
        exact AW.to hJ13 (lle_s rfl (lle_s rfl (lle_s rfl (lle_n (lle_s rfl (lle_z))))))
      · refine AW.aload_n (n := 34) (dat D_X12_isTold 20 rfl) rfl rfl ?_
        refine AW.getR (n := 37) (t := 61) fX12_10 wF_X12_24 ly_57 (le45 rfl) rfl (dat D_X12_isTold 21 rfl) rfl ?_
        refine AW.iconst (n := 38) (dat D_X12_isTold 22 rfl) rfl ?_
        refine AW.bipush (n := 40) (dat D_X12_isTold 23 rfl) rfl (by decide) ?_
        refine AW.iload_n (n := 41) (dat D_X12_isTold 24 rfl) rfl rfl ?_
        refine AW.imul (n := 42) (dat D_X12_isTold 25 rfl) rfl ?_
        refine AW.iadd (n := 43) (dat D_X12_isTold 26 rfl) rfl ?_
        refine AW.iload (n := 45) (dat D_X12_isTold 27 rfl) rfl rfl ?_
        refine AW.iadd (n := 46) (dat D_X12_isTold 28 rfl) rfl ?_
        refine AW.ialdH h (n := 47) rfl ly_61 (le45 rfl) (dat D_X12_isTold 29 rfl) rfl (fun j15 h => ?_)
        refine AW.iload (n := 49) (dat D_X12_isTold 30 rfl) rfl rfl ?_
        refine AW.iload_n (n := 50) (dat D_X12_isTold 31 rfl) rfl rfl ?_
        obtain ⟨s17, h, hq17⟩ := ob_some h
        obtain ⟨y16, e17⟩ : ∃ z, z = s17 := ⟨_, rfl⟩
        subst e17
        have hJ17 : AW Γ mX12_isTold 4 (0, r) (85, τ) 0 0 69 [some (vR 57), some (vI v2), some (vI z4), none, some (vI z8)] [vI y16, vI (σ3 61 j15)] (85, σ3) := by
          have h : X12_isTold_j69 n σ3 j15 y16 = some _ := hq17
          unfold X12_isTold_j69 at h
          refine AW.icmp_neH (t := 76) (n := 72) h (dat D_X12_isTold 42 rfl) rfl rfl rfl rfl (fun h => ?_) (fun h => ?_)
          · refine AW.iconst (n := 73) (dat D_X12_isTold 43 rfl) rfl ?_
            refine AW.goto (t := 77) (dat D_X12_isTold 44 rfl) rfl ?_
            cases h
            exact AW.to hJ13 (lle_s rfl (lle_s rfl (lle_s rfl (lle_n (lle_s rfl (lle_z))))))
          · refine AW.iconst (n := 77) (dat D_X12_isTold 45 rfl) rfl ?_
            cases h
            exact AW.to hJ13 (lle_s rfl (lle_s rfl (lle_s rfl (lle_n (lle_s rfl (lle_z))))))
        refine AW.icmp_geH (t := 68) (n := 53) h (dat D_X12_isTold 32 rfl) rfl rfl rfl rfl (fun h => ?_) (fun h => ?_)
        · refine AW.iconst (n := 69) (dat D_X12_isTold 41 rfl) rfl ?_
          cases h
          exact AW.to hJ17 (lle_s rfl (lle_s rfl (lle_s rfl (lle_n (lle_s rfl (lle_z))))))
        · refine AW.aload_n (n := 54) (dat D_X12_isTold 33 rfl) rfl rfl ?_
          refine AW.getR (n := 57) (t := 58) fX12_1 wF_X12_9 ly_57 (le45 rfl) rfl (dat D_X12_isTold 34 rfl) rfl ?_
          refine AW.aload_n (n := 58) (dat D_X12_isTold 35 rfl) rfl rfl ?_
          refine AW.getI (n := 61) fX12_4 wF_X12_114 ly_57 (le45 rfl) rfl rfl (dat D_X12_isTold 36 rfl) rfl ?_
          refine AW.iload (n := 63) (dat D_X12_isTold 37 rfl) rfl rfl ?_
          refine AW.iadd (n := 64) (dat D_X12_isTold 38 rfl) rfl ?_
          refine AW.baldH h (n := 65) rfl ly_58 (le45 rfl) (dat D_X12_isTold 39 rfl) rfl (fun j18 h => ?_)
          refine AW.goto (t := 69) (dat D_X12_isTold 40 rfl) rfl ?_
          cases h
          exact AW.to hJ17 (lle_s rfl (lle_s rfl (lle_s rfl (lle_n (lle_s rfl (lle_z))))))
def L_X12_surferLine : List (Nat × Instr × Nat) := [(0, .aload_n 0, 1), (1, .getfield 24, 3), (4, .iconst 0, 1), (5, .iaload, 1), (6, .istore_n 1, 1), (7, .iload_n 1, 1), (8, .iconst 5, 1), (9, .if_icmp .ne 8, 3), (12, .aload_n 0, 1), (13, .invokevirtual 141, 3), (16, .return_, 1), (17, .aload_n 0, 1), (18, .ldc 176, 2), (20, .invokevirtual 168, 3), (23, .aload_n 0, 1), (24, .invokevirtual 198, 3), (27, .ifCond .eq 10, 3), (30, .aload_n 0, 1), (31, .invokevirtual 201, 3), (34, .ifCond .eq 8, 3), (37, .aload_n 0, 1), (38, .invokevirtual 141, 3), (41, .return_, 1), (42, .aload_n 0, 1), (43, .invokevirtual 144, 3), (46, .istore_n 2, 1), (47, .iconst 0, 1), (48, .istore_n 3, 1), (49, .iload_n 3, 1), (50, .bipush 6, 2), (52, .if_icmp .ge 42, 3), (55, .aload_n 0, 1), (56, .getfield 24, 3), (59, .iconst 4, 1), (60, .bipush 6, 2), (62, .iload_n 1, 1), (63, .imul, 1), (64, .iadd, 1), (65, .iload_n 3, 1), (66, .iadd, 1), (67, .iload_n 3, 1), (68, .iload_n 2, 1), (69, .if_icmp .ge 17, 3), (72, .aload_n 0, 1), (73, .getfield 9, 3), (76, .aload_n 0, 1), (77, .getfield 114, 3), (80, .iload_n 3, 1), (81, .iadd, 1), (82, .baload, 1), (83, .goto 4, 3), (86, .iconst 0, 1), (87, .iastore, 1), (88, .iinc 3 1, 3), (91, .goto (-42), 3), (94, .aload_n 0, 1), (95, .dup, 1), (96, .getfield 114, 3), (99, .iload_n 2, 1), (100, .iadd, 1), (101, .putfield 114, 3), (104, .aload_n 0, 1), (105, .getfield 24, 3), (108, .bipush 34, 2), (110, .iload_n 1, 1), (111, .iadd, 1), (112, .aload_n 0, 1), (113, .ldc 178, 2), (115, .iconst 0, 1), (116, .bipush 40, 2), (118, .invokevirtual 204, 3), (121, .iastore, 1), (122, .aload_n 0, 1), (123, .getfield 24, 3), (126, .bipush 39, 2), (128, .iload_n 1, 1), (129, .iadd, 1), (130, .aload_n 0, 1), (131, .ldc 180, 2), (133, .iconst 1, 1), (134, .bipush 9, 2), (136, .invokevirtual 204, 3), (139, .iastore, 1), (140, .aload_n 0, 1), (141, .getfield 24, 3), (144, .iconst 0, 1), (145, .dup2, 1), (146, .iaload, 1), (147, .iconst 1, 1), (148, .iadd, 1), (149, .iastore, 1), (150, .return_, 1)]
theorem D_X12_surferLine : dOK cX12_surferLine L_X12_surferLine = true := by decide +kernel
theorem cf_X12_surferLine : CFV mX12_surferLine 0 := ⟨wI_X12_surferLine, wS_X12_surferLine, wN_WaveRightModel, wC_X12_surferLine, rfl, ⟨by decide +kernel, by decide +kernel, by decide +kernel⟩, le45 rfl⟩
def X12_surferLine_e49 (n : Nat) (v14 : Int) (x2 : Int) (σ19 : SG) : Option (SG) :=
  lt (up σ19 57 4 ((σ19 57 4) + v14)) fun σ20 =>
  bnd2 (X12_after n 48 0 40 σ20) fun v22 σ23 =>
  rdA 144 (34 + x2) fun j24 => lt (up σ23 61 j24 v22) fun σ25 =>
  bnd2 (X12_after n 49 1 9 σ25) fun v27 σ28 =>
  rdA 144 (39 + x2) fun j29 => lt (up σ28 61 j29 v27) fun σ30 =>
  rdA 144 0 fun j31 =>
  rdA 144 0 fun j32 => lt (up σ30 61 j32 ((σ30 61 j31) + 1)) fun σ33 =>
  some (σ33)
def X12_surferLine_j87 (n : Nat) (x2 : Int) (z16 : Int) (σ17 : SG) (y34 : Int) : Option ((Int × SG) ⊕ (SG)) :=
  rdA 144 ((4 + (6 * x2)) + z16) fun j36 => lt (up σ17 61 j36 y34) fun σ37 =>
  lt (z16 + 1) fun x38 =>
  some (.inl (x38, σ37))
def X12_surferLine_l49 (n : Nat) (v14 : Int) (x2 : Int) (z16 : Int) (σ17 : SG) : Option ((Int × SG) ⊕ (SG)) :=
  if 6 ≤ w32 z16 then
    some (.inr σ17)
  else
    ((if w32 v14 ≤ w32 z16 then
      some (0)
    else
      rdA 400 ((σ17 57 4) + z16) fun j39 =>
      some ((σ17 58 j39))) : Option (Int)).bind (fun s => X12_surferLine_j87 n x2 z16 σ17 s)
def X12_surferLine (n : Nat) (σ : SG) : Option (SG) :=
  rdA 144 0 fun j1 =>
  lt (σ 61 j1) fun x2 =>
  if w32 x2 = 5 then
    (X12_fails n σ).bind fun σ43 =>
    some (σ43)
  else
    (X12_asksWord n 47 σ).bind fun σ4 =>
    bnd2 (X12_isName n σ4) fun v6 σ7 =>
    if w32 v6 = 0 then
      (X12_fails n σ7).bind fun σ9 =>
      some (σ9)
    else
      bnd2 (X12_isTold n σ7) fun v11 σ12 =>
      if w32 v11 = 0 then
        bnd2 (X12_wordMany n σ12) fun v14 σ15 =>
        ((iter n (fun s : Int × SG => X12_surferLine_l49 n v14 x2 s.1 s.2) (0, σ15)) : Option (SG)).bind (fun s => X12_surferLine_e49 n v14 x2 s)
      else
        (X12_fails n σ12).bind fun σ41 =>
        some (σ41)
set_option maxHeartbeats 4000000 in
set_option maxRecDepth 100000 in
theorem A_X12_surferLine {Γ : GA} (hΓ : (gl Γ).stackTraces = false) {n : Nat} {σ : SG} {τ : SG}  (h : X12_surferLine n σ = some τ) : AM Γ mX12_surferLine 13 0 0 [vR 57] (85, σ) (0, 0) (85, τ) := by
  refine AM.of pl_X12 rfl wC_X12_surferLine (le45 rfl) hΓ ?_
  refine AW.to (ls'' := [some (vR 57), none, none, none]) ?_ (lle_s rfl (lle_e (lle_e (lle_e (lle_z)))))
  unfold X12_surferLine at h
  refine AW.aload_n (n := 1) (dat D_X12_surferLine 0 rfl) rfl rfl ?_
  refine AW.getR (n := 4) (t := 61) fX12_10 wF_X12_24 ly_57 (le45 rfl) rfl (dat D_X12_surferLine 1 rfl) rfl ?_
  refine AW.iconst (n := 5) (dat D_X12_surferLine 2 rfl) rfl ?_
  refine AW.ialdH h (n := 6) rfl ly_61 (le45 rfl) (dat D_X12_surferLine 3 rfl) rfl (fun j1 h => ?_)
  refine AW.ltI h (fun x2 h => ?_)
  refine AW.istore_n (n := 7) (ls' := [some (vR 57), some (vI x2), none, none]) (dat D_X12_surferLine 4 rfl) rfl (le45 rfl) (le45 rfl) rfl rfl ?_
  refine AW.iload_n (n := 8) (dat D_X12_surferLine 5 rfl) rfl rfl ?_
  refine AW.iconst (n := 9) (dat D_X12_surferLine 6 rfl) rfl ?_
  refine AW.icmp_neH (t := 17) (n := 12) h (dat D_X12_surferLine 7 rfl) rfl rfl rfl (by decide) (fun h => ?_) (fun h => ?_)
  · refine AW.aload_n (n := 13) (dat D_X12_surferLine 8 rfl) rfl rfl ?_
    obtain ⟨σ43, hc42, h⟩ := ob_some h
    refine AW.cV (n := 16) (as := []) (st := []) (st' := []) (uc' := 0) (us' := 0) (A_X12_fails hΓ hc42) cf_X12_fails ly_57 (le45 rfl) vc_12 (le45 rfl) wM_X12_141 (le45 rfl) (le45 rfl) (dat D_X12_surferLine 9 rfl) rfl rfl (le45 rfl) (le45 rfl) rfl (fun _ => ?_) nlt0
    cases h
    exact AW.vret rfl rfl rfl (dat D_X12_surferLine 10 rfl)
  · refine AW.aload_n (n := 18) (dat D_X12_surferLine 11 rfl) rfl rfl ?_
    refine AW.ldcS (n := 20) (j := 47) rfl (dat D_X12_surferLine 12 rfl) rfl ?_
    obtain ⟨σ4, hc3, h⟩ := ob_some h
    refine AW.cV (n := 23) (as := [vO 47]) (st := []) (st' := []) (uc' := 0) (us' := 0) (A_X12_asksWord hΓ (by decide) hc3) cf_X12_asksWord ly_57 (le45 rfl) vc_12 (le45 rfl) wM_X12_168 (le45 rfl) (le45 rfl) (dat D_X12_surferLine 13 rfl) rfl rfl (le45 rfl) (le45 rfl) rfl (fun _ => ?_) nlt0
    refine AW.aload_n (n := 24) (dat D_X12_surferLine 14 rfl) rfl rfl ?_
    obtain ⟨v6, σ7, hc5, h⟩ := bnd2_some h
    refine AW.cV (n := 27) (as := []) (st := []) (st' := [vI v6]) (uc' := 0) (us' := 0) (A_X12_isName hΓ hc5) cf_X12_isName ly_57 (le45 rfl) vc_12 (le45 rfl) wM_X12_198 (le45 rfl) (le45 rfl) (dat D_X12_surferLine 15 rfl) rfl rfl (le45 rfl) (le45 rfl) rfl (fun _ => ?_) nlt0
    refine AW.if_eqH (t := 37) (n := 30) h (dat D_X12_surferLine 16 rfl) rfl rfl (fun h => ?_) (fun h => ?_)
    · refine AW.aload_n (n := 38) (dat D_X12_surferLine 20 rfl) rfl rfl ?_
      obtain ⟨σ9, hc8, h⟩ := ob_some h
      refine AW.cV (n := 41) (as := []) (st := []) (st' := []) (uc' := 0) (us' := 0) (A_X12_fails hΓ hc8) cf_X12_fails ly_57 (le45 rfl) vc_12 (le45 rfl) wM_X12_141 (le45 rfl) (le45 rfl) (dat D_X12_surferLine 21 rfl) rfl rfl (le45 rfl) (le45 rfl) rfl (fun _ => ?_) nlt0
      cases h
      exact AW.vret rfl rfl rfl (dat D_X12_surferLine 22 rfl)
    · refine AW.aload_n (n := 31) (dat D_X12_surferLine 17 rfl) rfl rfl ?_
      obtain ⟨v11, σ12, hc10, h⟩ := bnd2_some h
      refine AW.cV (n := 34) (as := []) (st := []) (st' := [vI v11]) (uc' := 0) (us' := 0) (A_X12_isTold hΓ hc10) cf_X12_isTold ly_57 (le45 rfl) vc_12 (le45 rfl) wM_X12_201 (le45 rfl) (le45 rfl) (dat D_X12_surferLine 18 rfl) rfl rfl (le45 rfl) (le45 rfl) rfl (fun _ => ?_) nlt0
      refine AW.if_eqH (t := 42) (n := 37) h (dat D_X12_surferLine 19 rfl) rfl rfl (fun h => ?_) (fun h => ?_)
      · refine AW.aload_n (n := 43) (dat D_X12_surferLine 23 rfl) rfl rfl ?_
        obtain ⟨v14, σ15, hc13, h⟩ := bnd2_some h
        refine AW.cV (n := 46) (as := []) (st := []) (st' := [vI v14]) (uc' := 0) (us' := 0) (A_X12_wordMany hΓ hc13) cf_X12_wordMany ly_57 (le45 rfl) vc_12 (le45 rfl) wM_X12_144 (le45 rfl) (le45 rfl) (dat D_X12_surferLine 24 rfl) rfl rfl (le45 rfl) (le45 rfl) rfl (fun _ => ?_) nlt0
        refine AW.istore_n (n := 47) (ls' := [some (vR 57), some (vI x2), some (vI v14), none]) (dat D_X12_surferLine 25 rfl) rfl (le45 rfl) (le45 rfl) rfl rfl ?_
        refine AW.iconst (n := 48) (dat D_X12_surferLine 26 rfl) rfl ?_
        refine AW.istore_n (n := 49) (ls' := [some (vR 57), some (vI x2), some (vI v14), some (vI 0)]) (dat D_X12_surferLine 27 rfl) rfl (le45 rfl) (le45 rfl) rfl rfl ?_
        obtain ⟨b18, hi18, hq18⟩ := ob_some h
        obtain ⟨σ19, e18⟩ : ∃ z, z = b18 := ⟨_, rfl⟩
        subst e18
        have hR18 : AW Γ mX12_surferLine 13 (0, 0) (85, τ) 0 0 94 [some (vR 57), some (vI x2), some (vI v14), none] [] (85, σ19) := by
          have h : X12_surferLine_e49 n v14 x2 σ19 = some _ := hq18
          unfold X12_surferLine_e49 at h
          refine AW.aload_n (n := 95) (dat D_X12_surferLine 55 rfl) rfl rfl ?_
          refine AW.dup (n := 96) (dat D_X12_surferLine 56 rfl) rfl (cR _) ?_
          refine AW.getI (n := 99) fX12_4 wF_X12_114 ly_57 (le45 rfl) rfl rfl (dat D_X12_surferLine 57 rfl) rfl ?_
          refine AW.iload_n (n := 100) (dat D_X12_surferLine 58 rfl) rfl rfl ?_
          refine AW.iadd (n := 101) (dat D_X12_surferLine 59 rfl) rfl ?_
          refine AW.putI (n := 104) fX12_4 wF_X12_114 ly_57 (le45 rfl) rfl rfl rfl (dat D_X12_surferLine 60 rfl) rfl ?_
          refine AW.ltS h (fun σ20 h => ?_)
          refine AW.aload_n (n := 105) (dat D_X12_surferLine 61 rfl) rfl rfl ?_
          refine AW.getR (n := 108) (t := 61) fX12_10 wF_X12_24 ly_57 (le45 rfl) rfl (dat D_X12_surferLine 62 rfl) rfl ?_
          refine AW.bipush (n := 110) (dat D_X12_surferLine 63 rfl) rfl (by decide) ?_
          refine AW.iload_n (n := 111) (dat D_X12_surferLine 64 rfl) rfl rfl ?_
          refine AW.iadd (n := 112) (dat D_X12_surferLine 65 rfl) rfl ?_
          refine AW.aload_n (n := 113) (dat D_X12_surferLine 66 rfl) rfl rfl ?_
          refine AW.ldcS (n := 115) (j := 48) rfl (dat D_X12_surferLine 67 rfl) rfl ?_
          refine AW.iconst (n := 116) (dat D_X12_surferLine 68 rfl) rfl ?_
          refine AW.bipush (n := 118) (dat D_X12_surferLine 69 rfl) rfl (by decide) ?_
          obtain ⟨v22, σ23, hc21, h⟩ := bnd2_some h
          refine AW.cV (n := 121) (as := [vO 48, vI 0, vI 40]) (st := [vI (34 + x2), vR 61]) (st' := [vI v22, vI (34 + x2), vR 61]) (uc' := 0) (us' := 0) (A_X12_after hΓ (by decide) hc21) cf_X12_after ly_57 (le45 rfl) vc_12 (le45 rfl) wM_X12_204 (le45 rfl) (le45 rfl) (dat D_X12_surferLine 70 rfl) rfl rfl (le45 rfl) (le45 rfl) rfl (fun _ => ?_) nlt0
          refine AW.iastH h (n := 122) rfl ly_61 (le45 rfl) (dat D_X12_surferLine 71 rfl) rfl (fun j24 h => ?_)
          refine AW.ltS h (fun σ25 h => ?_)
          refine AW.aload_n (n := 123) (dat D_X12_surferLine 72 rfl) rfl rfl ?_
          refine AW.getR (n := 126) (t := 61) fX12_10 wF_X12_24 ly_57 (le45 rfl) rfl (dat D_X12_surferLine 73 rfl) rfl ?_
          refine AW.bipush (n := 128) (dat D_X12_surferLine 74 rfl) rfl (by decide) ?_
          refine AW.iload_n (n := 129) (dat D_X12_surferLine 75 rfl) rfl rfl ?_
          refine AW.iadd (n := 130) (dat D_X12_surferLine 76 rfl) rfl ?_
          refine AW.aload_n (n := 131) (dat D_X12_surferLine 77 rfl) rfl rfl ?_
          refine AW.ldcS (n := 133) (j := 49) rfl (dat D_X12_surferLine 78 rfl) rfl ?_
          refine AW.iconst (n := 134) (dat D_X12_surferLine 79 rfl) rfl ?_
          refine AW.bipush (n := 136) (dat D_X12_surferLine 80 rfl) rfl (by decide) ?_
          obtain ⟨v27, σ28, hc26, h⟩ := bnd2_some h
          refine AW.cV (n := 139) (as := [vO 49, vI 1, vI 9]) (st := [vI (39 + x2), vR 61]) (st' := [vI v27, vI (39 + x2), vR 61]) (uc' := 0) (us' := 0) (A_X12_after hΓ (by decide) hc26) cf_X12_after ly_57 (le45 rfl) vc_12 (le45 rfl) wM_X12_204 (le45 rfl) (le45 rfl) (dat D_X12_surferLine 81 rfl) rfl rfl (le45 rfl) (le45 rfl) rfl (fun _ => ?_) nlt0
          refine AW.iastH h (n := 140) rfl ly_61 (le45 rfl) (dat D_X12_surferLine 82 rfl) rfl (fun j29 h => ?_)
          refine AW.ltS h (fun σ30 h => ?_)
          refine AW.aload_n (n := 141) (dat D_X12_surferLine 83 rfl) rfl rfl ?_
          refine AW.getR (n := 144) (t := 61) fX12_10 wF_X12_24 ly_57 (le45 rfl) rfl (dat D_X12_surferLine 84 rfl) rfl ?_
          refine AW.iconst (n := 145) (dat D_X12_surferLine 85 rfl) rfl ?_
          refine AW.dup2 (n := 146) (dat D_X12_surferLine 86 rfl) rfl (cI _) (cR _) ?_
          refine AW.ialdH h (n := 147) rfl ly_61 (le45 rfl) (dat D_X12_surferLine 87 rfl) rfl (fun j31 h => ?_)
          refine AW.iconst (n := 148) (dat D_X12_surferLine 88 rfl) rfl ?_
          refine AW.iadd (n := 149) (dat D_X12_surferLine 89 rfl) rfl ?_
          refine AW.iastH h (n := 150) rfl ly_61 (le45 rfl) (dat D_X12_surferLine 90 rfl) rfl (fun j32 h => ?_)
          refine AW.ltS h (fun σ33 h => ?_)
          cases h
          exact AW.vret rfl rfl rfl (dat D_X12_surferLine 91 rfl)
        refine AW.to (ls'' := [some (vR 57), some (vI x2), some (vI v14), some (vI 0)]) ?_ (lle_s rfl (lle_s rfl (lle_s rfl (lle_s rfl (lle_z)))))
        refine aw_iter (fun s : Int × SG => AW Γ mX12_surferLine 13 (0, 0) (85, τ) 0 0 49 [some (vR 57), some (vI x2), some (vI v14), some (vI (s.1))] [] (85, s.2)) (fun s y h hk18 hb18 => ?_) _ _ hi18
        obtain ⟨z16, σ17⟩ := s
        show AW Γ mX12_surferLine 13 (0, 0) (85, τ) 0 0 49 [some (vR 57), some (vI x2), some (vI v14), some (vI z16)] [] (85, σ17)
        have h : X12_surferLine_l49 n v14 x2 z16 σ17 = some y := h
        unfold X12_surferLine_l49 at h
        refine AW.iload_n (n := 50) (dat D_X12_surferLine 28 rfl) rfl rfl ?_
        refine AW.bipush (n := 52) (dat D_X12_surferLine 29 rfl) rfl (by decide) ?_
        refine AW.icmp_geH (t := 94) (n := 55) h (dat D_X12_surferLine 30 rfl) rfl rfl rfl (by decide) (fun h => ?_) (fun h => ?_)
        · cases h
          have hb := hb18 _ rfl
          cases hb
          exact AW.to hR18 (lle_s rfl (lle_s rfl (lle_s rfl (lle_n (lle_z)))))
        · refine AW.aload_n (n := 56) (dat D_X12_surferLine 31 rfl) rfl rfl ?_
          refine AW.getR (n := 59) (t := 61) fX12_10 wF_X12_24 ly_57 (le45 rfl) rfl (dat D_X12_surferLine 32 rfl) rfl ?_
          refine AW.iconst (n := 60) (dat D_X12_surferLine 33 rfl) rfl ?_
          refine AW.bipush (n := 62) (dat D_X12_surferLine 34 rfl) rfl (by decide) ?_
          refine AW.iload_n (n := 63) (dat D_X12_surferLine 35 rfl) rfl rfl ?_
          refine AW.imul (n := 64) (dat D_X12_surferLine 36 rfl) rfl ?_
          refine AW.iadd (n := 65) (dat D_X12_surferLine 37 rfl) rfl ?_
          refine AW.iload_n (n := 66) (dat D_X12_surferLine 38 rfl) rfl rfl ?_
          refine AW.iadd (n := 67) (dat D_X12_surferLine 39 rfl) rfl ?_
          refine AW.iload_n (n := 68) (dat D_X12_surferLine 40 rfl) rfl rfl ?_
          refine AW.iload_n (n := 69) (dat D_X12_surferLine 41 rfl) rfl rfl ?_
          obtain ⟨s35, h, hq35⟩ := ob_some h
          obtain ⟨y34, e35⟩ : ∃ z, z = s35 := ⟨_, rfl⟩
          subst e35
          have hJ35 : AW Γ mX12_surferLine 13 (0, 0) (85, τ) 0 0 87 [some (vR 57), some (vI x2), some (vI v14), some (vI z16)] [vI y34, vI ((4 + (6 * x2)) + z16), vR 61] (85, σ17) := by
            have h : X12_surferLine_j87 n x2 z16 σ17 y34 = some _ := hq35
            unfold X12_surferLine_j87 at h
            refine AW.iastH h (n := 88) rfl ly_61 (le45 rfl) (dat D_X12_surferLine 52 rfl) rfl (fun j36 h => ?_)
            refine AW.ltS h (fun σ37 h => ?_)
            refine AW.iincH h (n := 91) (dat D_X12_surferLine 53 rfl) rfl rfl (le45 rfl) rfl (fun x38 h => ?_)
            refine AW.lq (ls' := [some (vR 57), some (vI x2), some (vI v14), some (vI x38)]) rfl ?_
            refine AW.goto (t := 49) (dat D_X12_surferLine 54 rfl) rfl ?_
            cases h
            exact AW.to (hk18 _ rfl) (lle_s rfl (lle_s rfl (lle_s rfl (lle_s rfl (lle_z)))))
          refine AW.icmp_geH (t := 86) (n := 72) h (dat D_X12_surferLine 42 rfl) rfl rfl rfl rfl (fun h => ?_) (fun h => ?_)
          · refine AW.iconst (n := 87) (dat D_X12_surferLine 51 rfl) rfl ?_
            cases h
            exact AW.to hJ35 (lle_s rfl (lle_s rfl (lle_s rfl (lle_s rfl (lle_z)))))
          · refine AW.aload_n (n := 73) (dat D_X12_surferLine 43 rfl) rfl rfl ?_
            refine AW.getR (n := 76) (t := 58) fX12_1 wF_X12_9 ly_57 (le45 rfl) rfl (dat D_X12_surferLine 44 rfl) rfl ?_
            refine AW.aload_n (n := 77) (dat D_X12_surferLine 45 rfl) rfl rfl ?_
            refine AW.getI (n := 80) fX12_4 wF_X12_114 ly_57 (le45 rfl) rfl rfl (dat D_X12_surferLine 46 rfl) rfl ?_
            refine AW.iload_n (n := 81) (dat D_X12_surferLine 47 rfl) rfl rfl ?_
            refine AW.iadd (n := 82) (dat D_X12_surferLine 48 rfl) rfl ?_
            refine AW.baldH h (n := 83) rfl ly_58 (le45 rfl) (dat D_X12_surferLine 49 rfl) rfl (fun j39 h => ?_)
            refine AW.goto (t := 87) (dat D_X12_surferLine 50 rfl) rfl ?_
            cases h
            exact AW.to hJ35 (lle_s rfl (lle_s rfl (lle_s rfl (lle_s rfl (lle_z)))))
      · refine AW.aload_n (n := 38) (dat D_X12_surferLine 20 rfl) rfl rfl ?_
        obtain ⟨σ41, hc40, h⟩ := ob_some h
        refine AW.cV (n := 41) (as := []) (st := []) (st' := []) (uc' := 0) (us' := 0) (A_X12_fails hΓ hc40) cf_X12_fails ly_57 (le45 rfl) vc_12 (le45 rfl) wM_X12_141 (le45 rfl) (le45 rfl) (dat D_X12_surferLine 21 rfl) rfl rfl (le45 rfl) (le45 rfl) rfl (fun _ => ?_) nlt0
        cases h
        exact AW.vret rfl rfl rfl (dat D_X12_surferLine 22 rfl)
def L_X12_waveLine : List (Nat × Instr × Nat) := [(0, .aload_n 0, 1), (1, .getfield 24, 3), (4, .iconst 1, 1), (5, .iaload, 1), (6, .istore_n 1, 1), (7, .iload_n 1, 1), (8, .bipush 20, 2), (10, .if_icmp .ne 8, 3), (13, .aload_n 0, 1), (14, .invokevirtual 141, 3), (17, .return_, 1), (18, .bipush 44, 2), (20, .iconst 5, 1), (21, .iload_n 1, 1), (22, .imul, 1), (23, .iadd, 1), (24, .istore_n 2, 1), (25, .aload_n 0, 1), (26, .getfield 24, 3), (29, .iload_n 2, 1), (30, .aload_n 0, 1), (31, .ldc 186, 2), (33, .iload_n 1, 1), (34, .ifCond .ne 7, 3), (37, .iconst 1, 1), (38, .goto 11, 3), (41, .aload_n 0, 1), (42, .getfield 24, 3), (45, .iload_n 2, 1), (46, .iconst 5, 1), (47, .isub, 1), (48, .iaload, 1), (49, .bipush 99, 2), (51, .invokevirtual 204, 3), (54, .iastore, 1), (55, .aload_n 0, 1), (56, .getfield 24, 3), (59, .iload_n 2, 1), (60, .iconst 1, 1), (61, .iadd, 1), (62, .aload_n 0, 1), (63, .ldc 178, 2), (65, .iconst 0, 1), (66, .bipush 40, 2), (68, .invokevirtual 204, 3), (71, .iastore, 1), (72, .aload_n 0, 1), (73, .invokevirtual 127, 3), (76, .aload_n 0, 1), (77, .getfield 24, 3), (80, .iload_n 2, 1), (81, .iconst 2, 1), (82, .iadd, 1), (83, .aload_n 0, 1), (84, .ldc 188, 2), (86, .invokevirtual 161, 3), (89, .ifCond .eq 7, 3), (92, .iconst 1, 1), (93, .goto 30, 3), (96, .aload_n 0, 1), (97, .ldc 190, 2), (99, .invokevirtual 161, 3), (102, .ifCond .eq 7, 3), (105, .iconst 2, 1), (106, .goto 17, 3), (109, .aload_n 0, 1), (110, .ldc 192, 2), (112, .invokevirtual 161, 3), (115, .ifCond .eq 7, 3), (118, .iconst 3, 1), (119, .goto 4, 3), (122, .iconst 0, 1), (123, .iastore, 1), (124, .aload_n 0, 1), (125, .getfield 24, 3), (128, .iload_n 2, 1), (129, .iconst 2, 1), (130, .iadd, 1), (131, .iaload, 1), (132, .ifCond .ne 7, 3), (135, .aload_n 0, 1), (136, .invokevirtual 141, 3), (139, .aload_n 0, 1), (140, .getfield 24, 3), (143, .iload_n 2, 1), (144, .iconst 3, 1), (145, .iadd, 1), (146, .aload_n 0, 1), (147, .ldc 194, 2), (149, .iconst 1, 1), (150, .bipush 9, 2), (152, .invokevirtual 204, 3), (155, .iastore, 1), (156, .aload_n 0, 1), (157, .getfield 24, 3), (160, .iload_n 2, 1), (161, .iconst 4, 1), (162, .iadd, 1), (163, .aload_n 0, 1), (164, .ldc 196, 2), (166, .iconst 1, 1), (167, .bipush 15, 2), (169, .invokevirtual 204, 3), (172, .iastore, 1), (173, .aload_n 0, 1), (174, .getfield 24, 3), (177, .iconst 1, 1), (178, .dup2, 1), (179, .iaload, 1), (180, .iconst 1, 1), (181, .iadd, 1), (182, .iastore, 1), (183, .return_, 1)]
theorem D_X12_waveLine : dOK cX12_waveLine L_X12_waveLine = true := by decide +kernel
theorem cf_X12_waveLine : CFV mX12_waveLine 0 := ⟨wI_X12_waveLine, wS_X12_waveLine, wN_WaveRightModel, wC_X12_waveLine, rfl, ⟨by decide +kernel, by decide +kernel, by decide +kernel⟩, le45 rfl⟩
def X12_waveLine_j139 (n : Nat) (x3 : Int) (σ27 : SG) : Option (SG) :=
  bnd2 (X12_after n 56 1 9 σ27) fun v30 σ31 =>
  rdA 144 (x3 + 3) fun j32 => lt (up σ31 61 j32 v30) fun σ33 =>
  bnd2 (X12_after n 57 1 15 σ33) fun v35 σ36 =>
  rdA 144 (x3 + 4) fun j37 => lt (up σ36 61 j37 v35) fun σ38 =>
  rdA 144 1 fun j39 =>
  rdA 144 1 fun j40 => lt (up σ38 61 j40 ((σ38 61 j39) + 1)) fun σ41 =>
  some (σ41)
def X12_waveLine_j123 (n : Nat) (x3 : Int) (y21 : Int) (σ22 : SG) : Option (SG) :=
  rdA 144 (x3 + 2) fun j24 => lt (up σ22 61 j24 y21) fun σ25 =>
  rdA 144 (x3 + 2) fun j26 =>
  ((if w32 (σ25 61 j26) = 0 then
    (X12_fails n σ25).bind fun σ43 =>
    some (σ43)
  else
    some (σ25)) : Option (SG)).bind (fun s => X12_waveLine_j139 n x3 s)
def X12_waveLine_j49 (n : Nat) (σ : SG) (x3 : Int) (y4 : Int) : Option (SG) :=
  bnd2 (X12_after n 52 y4 99 σ) fun v7 σ8 =>
  rdA 144 x3 fun j9 => lt (up σ8 61 j9 v7) fun σ10 =>
  bnd2 (X12_after n 48 0 40 σ10) fun v12 σ13 =>
  rdA 144 (x3 + 1) fun j14 => lt (up σ13 61 j14 v12) fun σ15 =>
  (X12_blanks n σ15).bind fun σ17 =>
  bnd2 (X12_takesWord n 53 σ17) fun v19 σ20 =>
  ((if w32 v19 = 0 then
    bnd2 (X12_takesWord n 54 σ20) fun v45 σ46 =>
    if w32 v45 = 0 then
      bnd2 (X12_takesWord n 55 σ46) fun v48 σ49 =>
      if w32 v48 = 0 then
        some ((0, σ49))
      else
        some ((3, σ49))
    else
      some ((2, σ46))
  else
    some ((1, σ20))) : Option (Int × SG)).bind (fun s => X12_waveLine_j123 n x3 s.1 s.2)
def X12_waveLine (n : Nat) (σ : SG) : Option (SG) :=
  rdA 144 1 fun j1 =>
  lt (σ 61 j1) fun x2 =>
  if w32 x2 = 20 then
    (X12_fails n σ).bind fun σ52 =>
    some (σ52)
  else
    lt (44 + (5 * x2)) fun x3 =>
    ((if w32 x2 = 0 then
      some (1)
    else
      rdA 144 (x3 - 5) fun j50 =>
      some ((σ 61 j50))) : Option (Int)).bind (fun s => X12_waveLine_j49 n σ x3 s)
set_option maxHeartbeats 4000000 in
set_option maxRecDepth 100000 in
theorem A_X12_waveLine {Γ : GA} (hΓ : (gl Γ).stackTraces = false) {n : Nat} {σ : SG} {τ : SG}  (h : X12_waveLine n σ = some τ) : AM Γ mX12_waveLine 13 0 0 [vR 57] (85, σ) (0, 0) (85, τ) := by
  refine AM.of pl_X12 rfl wC_X12_waveLine (le45 rfl) hΓ ?_
  refine AW.to (ls'' := [some (vR 57), none, none]) ?_ (lle_s rfl (lle_e (lle_e (lle_z))))
  unfold X12_waveLine at h
  refine AW.aload_n (n := 1) (dat D_X12_waveLine 0 rfl) rfl rfl ?_
  refine AW.getR (n := 4) (t := 61) fX12_10 wF_X12_24 ly_57 (le45 rfl) rfl (dat D_X12_waveLine 1 rfl) rfl ?_
  refine AW.iconst (n := 5) (dat D_X12_waveLine 2 rfl) rfl ?_
  refine AW.ialdH h (n := 6) rfl ly_61 (le45 rfl) (dat D_X12_waveLine 3 rfl) rfl (fun j1 h => ?_)
  refine AW.ltI h (fun x2 h => ?_)
  refine AW.istore_n (n := 7) (ls' := [some (vR 57), some (vI x2), none]) (dat D_X12_waveLine 4 rfl) rfl (le45 rfl) (le45 rfl) rfl rfl ?_
  refine AW.iload_n (n := 8) (dat D_X12_waveLine 5 rfl) rfl rfl ?_
  refine AW.bipush (n := 10) (dat D_X12_waveLine 6 rfl) rfl (by decide) ?_
  refine AW.icmp_neH (t := 18) (n := 13) h (dat D_X12_waveLine 7 rfl) rfl rfl rfl (by decide) (fun h => ?_) (fun h => ?_)
  · refine AW.aload_n (n := 14) (dat D_X12_waveLine 8 rfl) rfl rfl ?_
    obtain ⟨σ52, hc51, h⟩ := ob_some h
    refine AW.cV (n := 17) (as := []) (st := []) (st' := []) (uc' := 0) (us' := 0) (A_X12_fails hΓ hc51) cf_X12_fails ly_57 (le45 rfl) vc_12 (le45 rfl) wM_X12_141 (le45 rfl) (le45 rfl) (dat D_X12_waveLine 9 rfl) rfl rfl (le45 rfl) (le45 rfl) rfl (fun _ => ?_) nlt0
    cases h
    exact AW.vret rfl rfl rfl (dat D_X12_waveLine 10 rfl)
  · refine AW.bipush (n := 20) (dat D_X12_waveLine 11 rfl) rfl (by decide) ?_
    refine AW.iconst (n := 21) (dat D_X12_waveLine 12 rfl) rfl ?_
    refine AW.iload_n (n := 22) (dat D_X12_waveLine 13 rfl) rfl rfl ?_
    refine AW.imul (n := 23) (dat D_X12_waveLine 14 rfl) rfl ?_
    refine AW.iadd (n := 24) (dat D_X12_waveLine 15 rfl) rfl ?_
    refine AW.ltI h (fun x3 h => ?_)
    refine AW.istore_n (n := 25) (ls' := [some (vR 57), some (vI x2), some (vI x3)]) (dat D_X12_waveLine 16 rfl) rfl (le45 rfl) (le45 rfl) rfl rfl ?_
    refine AW.aload_n (n := 26) (dat D_X12_waveLine 17 rfl) rfl rfl ?_
    refine AW.getR (n := 29) (t := 61) fX12_10 wF_X12_24 ly_57 (le45 rfl) rfl (dat D_X12_waveLine 18 rfl) rfl ?_
    refine AW.iload_n (n := 30) (dat D_X12_waveLine 19 rfl) rfl rfl ?_
    refine AW.aload_n (n := 31) (dat D_X12_waveLine 20 rfl) rfl rfl ?_
    refine AW.ldcS (n := 33) (j := 52) rfl (dat D_X12_waveLine 21 rfl) rfl ?_
    refine AW.iload_n (n := 34) (dat D_X12_waveLine 22 rfl) rfl rfl ?_
    obtain ⟨s5, h, hq5⟩ := ob_some h
    obtain ⟨y4, e5⟩ : ∃ z, z = s5 := ⟨_, rfl⟩
    subst e5
    have hJ5 : AW Γ mX12_waveLine 13 (0, 0) (85, τ) 0 0 49 [some (vR 57), none, some (vI x3)] [vI y4, vO 52, vR 57, vI x3, vR 61] (85, σ) := by
      have h : X12_waveLine_j49 n σ x3 y4 = some _ := hq5
      unfold X12_waveLine_j49 at h
      refine AW.bipush (n := 51) (dat D_X12_waveLine 32 rfl) rfl (by decide) ?_
      obtain ⟨v7, σ8, hc6, h⟩ := bnd2_some h
      refine AW.cV (n := 54) (as := [vO 52, vI y4, vI 99]) (st := [vI x3, vR 61]) (st' := [vI v7, vI x3, vR 61]) (uc' := 0) (us' := 0) (A_X12_after hΓ (by decide) hc6) cf_X12_after ly_57 (le45 rfl) vc_12 (le45 rfl) wM_X12_204 (le45 rfl) (le45 rfl) (dat D_X12_waveLine 33 rfl) rfl rfl (le45 rfl) (le45 rfl) rfl (fun _ => ?_) nlt0
      refine AW.iastH h (n := 55) rfl ly_61 (le45 rfl) (dat D_X12_waveLine 34 rfl) rfl (fun j9 h => ?_)
      refine AW.ltS h (fun σ10 h => ?_)
      refine AW.aload_n (n := 56) (dat D_X12_waveLine 35 rfl) rfl rfl ?_
      refine AW.getR (n := 59) (t := 61) fX12_10 wF_X12_24 ly_57 (le45 rfl) rfl (dat D_X12_waveLine 36 rfl) rfl ?_
      refine AW.iload_n (n := 60) (dat D_X12_waveLine 37 rfl) rfl rfl ?_
      refine AW.iconst (n := 61) (dat D_X12_waveLine 38 rfl) rfl ?_
      refine AW.iadd (n := 62) (dat D_X12_waveLine 39 rfl) rfl ?_
      refine AW.aload_n (n := 63) (dat D_X12_waveLine 40 rfl) rfl rfl ?_
      refine AW.ldcS (n := 65) (j := 48) rfl (dat D_X12_waveLine 41 rfl) rfl ?_
      refine AW.iconst (n := 66) (dat D_X12_waveLine 42 rfl) rfl ?_
      refine AW.bipush (n := 68) (dat D_X12_waveLine 43 rfl) rfl (by decide) ?_
      obtain ⟨v12, σ13, hc11, h⟩ := bnd2_some h
      refine AW.cV (n := 71) (as := [vO 48, vI 0, vI 40]) (st := [vI (x3 + 1), vR 61]) (st' := [vI v12, vI (x3 + 1), vR 61]) (uc' := 0) (us' := 0) (A_X12_after hΓ (by decide) hc11) cf_X12_after ly_57 (le45 rfl) vc_12 (le45 rfl) wM_X12_204 (le45 rfl) (le45 rfl) (dat D_X12_waveLine 44 rfl) rfl rfl (le45 rfl) (le45 rfl) rfl (fun _ => ?_) nlt0
      refine AW.iastH h (n := 72) rfl ly_61 (le45 rfl) (dat D_X12_waveLine 45 rfl) rfl (fun j14 h => ?_)
      refine AW.ltS h (fun σ15 h => ?_)
      refine AW.aload_n (n := 73) (dat D_X12_waveLine 46 rfl) rfl rfl ?_
      obtain ⟨σ17, hc16, h⟩ := ob_some h
      refine AW.cV (n := 76) (as := []) (st := []) (st' := []) (uc' := 0) (us' := 0) (A_X12_blanks hΓ hc16) cf_X12_blanks ly_57 (le45 rfl) vc_12 (le45 rfl) wM_X12_127 (le45 rfl) (le45 rfl) (dat D_X12_waveLine 47 rfl) rfl rfl (le45 rfl) (le45 rfl) rfl (fun _ => ?_) nlt0
      refine AW.aload_n (n := 77) (dat D_X12_waveLine 48 rfl) rfl rfl ?_
      refine AW.getR (n := 80) (t := 61) fX12_10 wF_X12_24 ly_57 (le45 rfl) rfl (dat D_X12_waveLine 49 rfl) rfl ?_
      refine AW.iload_n (n := 81) (dat D_X12_waveLine 50 rfl) rfl rfl ?_
      refine AW.iconst (n := 82) (dat D_X12_waveLine 51 rfl) rfl ?_
      refine AW.iadd (n := 83) (dat D_X12_waveLine 52 rfl) rfl ?_
      refine AW.aload_n (n := 84) (dat D_X12_waveLine 53 rfl) rfl rfl ?_
      refine AW.ldcS (n := 86) (j := 53) rfl (dat D_X12_waveLine 54 rfl) rfl ?_
      obtain ⟨v19, σ20, hc18, h⟩ := bnd2_some h
      refine AW.cV (n := 89) (as := [vO 53]) (st := [vI (x3 + 2), vR 61]) (st' := [vI v19, vI (x3 + 2), vR 61]) (uc' := 0) (us' := 0) (A_X12_takesWord hΓ (by decide) hc18) cf_X12_takesWord ly_57 (le45 rfl) vc_12 (le45 rfl) wM_X12_161 (le45 rfl) (le45 rfl) (dat D_X12_waveLine 55 rfl) rfl rfl (le45 rfl) (le45 rfl) rfl (fun _ => ?_) nlt0
      obtain ⟨s23, h, hq23⟩ := ob_some h
      obtain ⟨y21, σ22⟩ := s23
      have hJ23 : AW Γ mX12_waveLine 13 (0, 0) (85, τ) 0 0 123 [some (vR 57), none, some (vI x3)] [vI y21, vI (x3 + 2), vR 61] (85, σ22) := by
        have h : X12_waveLine_j123 n x3 y21 σ22 = some _ := hq23
        unfold X12_waveLine_j123 at h
        refine AW.iastH h (n := 124) rfl ly_61 (le45 rfl) (dat D_X12_waveLine 72 rfl) rfl (fun j24 h => ?_)
        refine AW.ltS h (fun σ25 h => ?_)
        refine AW.aload_n (n := 125) (dat D_X12_waveLine 73 rfl) rfl rfl ?_
        refine AW.getR (n := 128) (t := 61) fX12_10 wF_X12_24 ly_57 (le45 rfl) rfl (dat D_X12_waveLine 74 rfl) rfl ?_
        refine AW.iload_n (n := 129) (dat D_X12_waveLine 75 rfl) rfl rfl ?_
        refine AW.iconst (n := 130) (dat D_X12_waveLine 76 rfl) rfl ?_
        refine AW.iadd (n := 131) (dat D_X12_waveLine 77 rfl) rfl ?_
        refine AW.ialdH h (n := 132) rfl ly_61 (le45 rfl) (dat D_X12_waveLine 78 rfl) rfl (fun j26 h => ?_)
        obtain ⟨s28, h, hq28⟩ := ob_some h
        obtain ⟨σ27, e28⟩ : ∃ z, z = s28 := ⟨_, rfl⟩
        subst e28
        have hJ28 : AW Γ mX12_waveLine 13 (0, 0) (85, τ) 0 0 139 [some (vR 57), none, some (vI x3)] [] (85, σ27) := by
          have h : X12_waveLine_j139 n x3 σ27 = some _ := hq28
          unfold X12_waveLine_j139 at h
          refine AW.aload_n (n := 140) (dat D_X12_waveLine 82 rfl) rfl rfl ?_
          refine AW.getR (n := 143) (t := 61) fX12_10 wF_X12_24 ly_57 (le45 rfl) rfl (dat D_X12_waveLine 83 rfl) rfl ?_
          refine AW.iload_n (n := 144) (dat D_X12_waveLine 84 rfl) rfl rfl ?_
          refine AW.iconst (n := 145) (dat D_X12_waveLine 85 rfl) rfl ?_
          refine AW.iadd (n := 146) (dat D_X12_waveLine 86 rfl) rfl ?_
          refine AW.aload_n (n := 147) (dat D_X12_waveLine 87 rfl) rfl rfl ?_
          refine AW.ldcS (n := 149) (j := 56) rfl (dat D_X12_waveLine 88 rfl) rfl ?_
          refine AW.iconst (n := 150) (dat D_X12_waveLine 89 rfl) rfl ?_
          refine AW.bipush (n := 152) (dat D_X12_waveLine 90 rfl) rfl (by decide) ?_
          obtain ⟨v30, σ31, hc29, h⟩ := bnd2_some h
          refine AW.cV (n := 155) (as := [vO 56, vI 1, vI 9]) (st := [vI (x3 + 3), vR 61]) (st' := [vI v30, vI (x3 + 3), vR 61]) (uc' := 0) (us' := 0) (A_X12_after hΓ (by decide) hc29) cf_X12_after ly_57 (le45 rfl) vc_12 (le45 rfl) wM_X12_204 (le45 rfl) (le45 rfl) (dat D_X12_waveLine 91 rfl) rfl rfl (le45 rfl) (le45 rfl) rfl (fun _ => ?_) nlt0
          refine AW.iastH h (n := 156) rfl ly_61 (le45 rfl) (dat D_X12_waveLine 92 rfl) rfl (fun j32 h => ?_)
          refine AW.ltS h (fun σ33 h => ?_)
          refine AW.aload_n (n := 157) (dat D_X12_waveLine 93 rfl) rfl rfl ?_
          refine AW.getR (n := 160) (t := 61) fX12_10 wF_X12_24 ly_57 (le45 rfl) rfl (dat D_X12_waveLine 94 rfl) rfl ?_
          refine AW.iload_n (n := 161) (dat D_X12_waveLine 95 rfl) rfl rfl ?_
          refine AW.iconst (n := 162) (dat D_X12_waveLine 96 rfl) rfl ?_
          refine AW.iadd (n := 163) (dat D_X12_waveLine 97 rfl) rfl ?_
          refine AW.aload_n (n := 164) (dat D_X12_waveLine 98 rfl) rfl rfl ?_
          refine AW.ldcS (n := 166) (j := 57) rfl (dat D_X12_waveLine 99 rfl) rfl ?_
          refine AW.iconst (n := 167) (dat D_X12_waveLine 100 rfl) rfl ?_
          refine AW.bipush (n := 169) (dat D_X12_waveLine 101 rfl) rfl (by decide) ?_
          obtain ⟨v35, σ36, hc34, h⟩ := bnd2_some h
          refine AW.cV (n := 172) (as := [vO 57, vI 1, vI 15]) (st := [vI (x3 + 4), vR 61]) (st' := [vI v35, vI (x3 + 4), vR 61]) (uc' := 0) (us' := 0) (A_X12_after hΓ (by decide) hc34) cf_X12_after ly_57 (le45 rfl) vc_12 (le45 rfl) wM_X12_204 (le45 rfl) (le45 rfl) (dat D_X12_waveLine 102 rfl) rfl rfl (le45 rfl) (le45 rfl) rfl (fun _ => ?_) nlt0
          refine AW.iastH h (n := 173) rfl ly_61 (le45 rfl) (dat D_X12_waveLine 103 rfl) rfl (fun j37 h => ?_)
          refine AW.ltS h (fun σ38 h => ?_)
          refine AW.aload_n (n := 174) (dat D_X12_waveLine 104 rfl) rfl rfl ?_
          refine AW.getR (n := 177) (t := 61) fX12_10 wF_X12_24 ly_57 (le45 rfl) rfl (dat D_X12_waveLine 105 rfl) rfl ?_
          refine AW.iconst (n := 178) (dat D_X12_waveLine 106 rfl) rfl ?_
          refine AW.dup2 (n := 179) (dat D_X12_waveLine 107 rfl) rfl (cI _) (cR _) ?_
          refine AW.ialdH h (n := 180) rfl ly_61 (le45 rfl) (dat D_X12_waveLine 108 rfl) rfl (fun j39 h => ?_)
          refine AW.iconst (n := 181) (dat D_X12_waveLine 109 rfl) rfl ?_
          refine AW.iadd (n := 182) (dat D_X12_waveLine 110 rfl) rfl ?_
          refine AW.iastH h (n := 183) rfl ly_61 (le45 rfl) (dat D_X12_waveLine 111 rfl) rfl (fun j40 h => ?_)
          refine AW.ltS h (fun σ41 h => ?_)
          cases h
          exact AW.vret rfl rfl rfl (dat D_X12_waveLine 112 rfl)
        refine AW.if_neH (t := 139) (n := 135) h (dat D_X12_waveLine 79 rfl) rfl rfl (fun h => ?_) (fun h => ?_)
        · refine AW.aload_n (n := 136) (dat D_X12_waveLine 80 rfl) rfl rfl ?_
          obtain ⟨σ43, hc42, h⟩ := ob_some h
          refine AW.cV (n := 139) (as := []) (st := []) (st' := []) (uc' := 0) (us' := 0) (A_X12_fails hΓ hc42) cf_X12_fails ly_57 (le45 rfl) vc_12 (le45 rfl) wM_X12_141 (le45 rfl) (le45 rfl) (dat D_X12_waveLine 81 rfl) rfl rfl (le45 rfl) (le45 rfl) rfl (fun _ => ?_) nlt0
          cases h
          exact AW.to hJ28 (lle_s rfl (lle_n (lle_s rfl (lle_z))))
        · cases h
          exact AW.to hJ28 (lle_s rfl (lle_n (lle_s rfl (lle_z))))
      refine AW.if_eqH (t := 96) (n := 92) h (dat D_X12_waveLine 56 rfl) rfl rfl (fun h => ?_) (fun h => ?_)
      · refine AW.aload_n (n := 97) (dat D_X12_waveLine 59 rfl) rfl rfl ?_
        refine AW.ldcS (n := 99) (j := 54) rfl (dat D_X12_waveLine 60 rfl) rfl ?_
        obtain ⟨v45, σ46, hc44, h⟩ := bnd2_some h
        refine AW.cV (n := 102) (as := [vO 54]) (st := [vI (x3 + 2), vR 61]) (st' := [vI v45, vI (x3 + 2), vR 61]) (uc' := 0) (us' := 0) (A_X12_takesWord hΓ (by decide) hc44) cf_X12_takesWord ly_57 (le45 rfl) vc_12 (le45 rfl) wM_X12_161 (le45 rfl) (le45 rfl) (dat D_X12_waveLine 61 rfl) rfl rfl (le45 rfl) (le45 rfl) rfl (fun _ => ?_) nlt0
        refine AW.if_eqH (t := 109) (n := 105) h (dat D_X12_waveLine 62 rfl) rfl rfl (fun h => ?_) (fun h => ?_)
        · refine AW.aload_n (n := 110) (dat D_X12_waveLine 65 rfl) rfl rfl ?_
          refine AW.ldcS (n := 112) (j := 55) rfl (dat D_X12_waveLine 66 rfl) rfl ?_
          obtain ⟨v48, σ49, hc47, h⟩ := bnd2_some h
          refine AW.cV (n := 115) (as := [vO 55]) (st := [vI (x3 + 2), vR 61]) (st' := [vI v48, vI (x3 + 2), vR 61]) (uc' := 0) (us' := 0) (A_X12_takesWord hΓ (by decide) hc47) cf_X12_takesWord ly_57 (le45 rfl) vc_12 (le45 rfl) wM_X12_161 (le45 rfl) (le45 rfl) (dat D_X12_waveLine 67 rfl) rfl rfl (le45 rfl) (le45 rfl) rfl (fun _ => ?_) nlt0
          refine AW.if_eqH (t := 122) (n := 118) h (dat D_X12_waveLine 68 rfl) rfl rfl (fun h => ?_) (fun h => ?_)
          · refine AW.iconst (n := 123) (dat D_X12_waveLine 71 rfl) rfl ?_
            cases h
            exact AW.to hJ23 (lle_s rfl (lle_n (lle_s rfl (lle_z))))
          · refine AW.iconst (n := 119) (dat D_X12_waveLine 69 rfl) rfl ?_
            refine AW.goto (t := 123) (dat D_X12_waveLine 70 rfl) rfl ?_
            cases h
            exact AW.to hJ23 (lle_s rfl (lle_n (lle_s rfl (lle_z))))
        · refine AW.iconst (n := 106) (dat D_X12_waveLine 63 rfl) rfl ?_
          refine AW.goto (t := 123) (dat D_X12_waveLine 64 rfl) rfl ?_
          cases h
          exact AW.to hJ23 (lle_s rfl (lle_n (lle_s rfl (lle_z))))
      · refine AW.iconst (n := 93) (dat D_X12_waveLine 57 rfl) rfl ?_
        refine AW.goto (t := 123) (dat D_X12_waveLine 58 rfl) rfl ?_
        cases h
        exact AW.to hJ23 (lle_s rfl (lle_n (lle_s rfl (lle_z))))
    refine AW.if_neH (t := 41) (n := 37) h (dat D_X12_waveLine 23 rfl) rfl rfl (fun h => ?_) (fun h => ?_)
    · refine AW.iconst (n := 38) (dat D_X12_waveLine 24 rfl) rfl ?_
      refine AW.goto (t := 49) (dat D_X12_waveLine 25 rfl) rfl ?_
      cases h
      exact AW.to hJ5 (lle_s rfl (lle_n (lle_s rfl (lle_z))))
    · refine AW.aload_n (n := 42) (dat D_X12_waveLine 26 rfl) rfl rfl ?_
      refine AW.getR (n := 45) (t := 61) fX12_10 wF_X12_24 ly_57 (le45 rfl) rfl (dat D_X12_waveLine 27 rfl) rfl ?_
      refine AW.iload_n (n := 46) (dat D_X12_waveLine 28 rfl) rfl rfl ?_
      refine AW.iconst (n := 47) (dat D_X12_waveLine 29 rfl) rfl ?_
      refine AW.isub (n := 48) (dat D_X12_waveLine 30 rfl) rfl ?_
      refine AW.ialdH h (n := 49) rfl ly_61 (le45 rfl) (dat D_X12_waveLine 31 rfl) rfl (fun j50 h => ?_)
      cases h
      exact AW.to hJ5 (lle_s rfl (lle_n (lle_s rfl (lle_z))))
def L_X12_seaLine : List (Nat × Instr × Nat) := [(0, .aload_n 0, 1), (1, .invokevirtual 127, 3), (4, .aload_n 0, 1), (5, .ldc 176, 2), (7, .invokevirtual 157, 3), (10, .ifCond .eq 10, 3), (13, .aload_n 0, 1), (14, .invokevirtual 208, 3), (17, .goto 101, 3), (20, .aload_n 0, 1), (21, .ldc 186, 2), (23, .invokevirtual 157, 3), (26, .ifCond .eq 10, 3), (29, .aload_n 0, 1), (30, .invokevirtual 211, 3), (33, .goto 85, 3), (36, .aload_n 0, 1), (37, .ldc 182, 2), (39, .invokevirtual 157, 3), (42, .ifCond .eq 33, 3), (45, .aload_n 0, 1), (46, .getfield 214, 3), (49, .ifCond .ne 26, 3), (52, .aload_n 0, 1), (53, .iconst 1, 1), (54, .putfield 214, 3), (57, .aload_n 0, 1), (58, .getfield 24, 3), (61, .iconst 2, 1), (62, .aload_n 0, 1), (63, .ldc 182, 2), (65, .iconst 1, 1), (66, .bipush 60, 2), (68, .invokevirtual 204, 3), (71, .iastore, 1), (72, .goto 46, 3), (75, .aload_n 0, 1), (76, .ldc 184, 2), (78, .invokevirtual 157, 3), (81, .ifCond .eq 33, 3), (84, .aload_n 0, 1), (85, .getfield 217, 3), (88, .ifCond .ne 26, 3), (91, .aload_n 0, 1), (92, .iconst 1, 1), (93, .putfield 217, 3), (96, .aload_n 0, 1), (97, .getfield 24, 3), (100, .iconst 3, 1), (101, .aload_n 0, 1), (102, .ldc 184, 2), (104, .iconst 0, 1), (105, .bipush 30, 2), (107, .invokevirtual 204, 3), (110, .iastore, 1), (111, .goto 7, 3), (114, .aload_n 0, 1), (115, .invokevirtual 141, 3), (118, .aload_n 0, 1), (119, .bipush 59, 2), (121, .invokevirtual 220, 3), (124, .return_, 1)]
theorem D_X12_seaLine : dOK cX12_seaLine L_X12_seaLine = true := by decide +kernel
theorem cf_X12_seaLine : CFV mX12_seaLine 0 := ⟨wI_X12_seaLine, wS_X12_seaLine, wN_WaveRightModel, wC_X12_seaLine, rfl, ⟨by decide +kernel, by decide +kernel, by decide +kernel⟩, le45 rfl⟩
def X12_seaLine_j118 (n : Nat) (σ6 : SG) : Option (SG) :=
  (X12_asksSign n 59 σ6).bind fun σ9 =>
  some (σ9)
def X12_seaLine (n : Nat) (σ : SG) : Option (SG) :=
  (X12_blanks n σ).bind fun σ2 =>
  bnd2 (X12_isWord n 47 σ2) fun v4 σ5 =>
  ((if w32 v4 = 0 then
    bnd2 (X12_isWord n 52 σ5) fun v11 σ12 =>
    if w32 v11 = 0 then
      bnd2 (X12_isWord n 50 σ12) fun v14 σ15 =>
      if w32 v14 = 0 then
        bnd2 (X12_isWord n 51 σ15) fun v17 σ18 =>
        if w32 v17 = 0 then
          (X12_fails n σ18).bind fun σ20 =>
          some (σ20)
        else
          if w32 (σ18 57 13) = 0 then
            lt (up σ18 57 13 1) fun σ23 =>
            bnd2 (X12_after n 51 0 30 σ23) fun v25 σ26 =>
            rdA 144 3 fun j27 => lt (up σ26 61 j27 v25) fun σ28 =>
            some (σ28)
          else
            (X12_fails n σ18).bind fun σ22 =>
            some (σ22)
      else
        if w32 (σ15 57 12) = 0 then
          lt (up σ15 57 12 1) fun σ42 =>
          bnd2 (X12_after n 50 1 60 σ42) fun v44 σ45 =>
          rdA 144 2 fun j46 => lt (up σ45 61 j46 v44) fun σ47 =>
          some (σ47)
        else
          bnd2 (X12_isWord n 51 σ15) fun v30 σ31 =>
          if w32 v30 = 0 then
            (X12_fails n σ31).bind fun σ33 =>
            some (σ33)
          else
            if w32 (σ31 57 13) = 0 then
              lt (up σ31 57 13 1) fun σ36 =>
              bnd2 (X12_after n 51 0 30 σ36) fun v38 σ39 =>
              rdA 144 3 fun j40 => lt (up σ39 61 j40 v38) fun σ41 =>
              some (σ41)
            else
              (X12_fails n σ31).bind fun σ35 =>
              some (σ35)
    else
      (X12_waveLine n σ12).bind fun σ49 =>
      some (σ49)
  else
    (X12_surferLine n σ5).bind fun σ51 =>
    some (σ51)) : Option (SG)).bind (fun s => X12_seaLine_j118 n s)
set_option maxHeartbeats 4000000 in
set_option maxRecDepth 100000 in
theorem A_X12_seaLine {Γ : GA} (hΓ : (gl Γ).stackTraces = false) {n : Nat} {σ : SG} {τ : SG}  (h : X12_seaLine n σ = some τ) : AM Γ mX12_seaLine 14 0 0 [vR 57] (85, σ) (0, 0) (85, τ) := by
  refine AM.of pl_X12 rfl wC_X12_seaLine (le45 rfl) hΓ ?_
  refine AW.to (ls'' := [some (vR 57)]) ?_ (lle_s rfl (lle_z))
  unfold X12_seaLine at h
  refine AW.aload_n (n := 1) (dat D_X12_seaLine 0 rfl) rfl rfl ?_
  obtain ⟨σ2, hc1, h⟩ := ob_some h
  refine AW.cV (n := 4) (as := []) (st := []) (st' := []) (uc' := 0) (us' := 0) (A_X12_blanks hΓ hc1) cf_X12_blanks ly_57 (le45 rfl) vc_12 (le45 rfl) wM_X12_127 (le45 rfl) (le45 rfl) (dat D_X12_seaLine 1 rfl) rfl rfl (le45 rfl) (le45 rfl) rfl (fun _ => ?_) nlt0
  refine AW.aload_n (n := 5) (dat D_X12_seaLine 2 rfl) rfl rfl ?_
  refine AW.ldcS (n := 7) (j := 47) rfl (dat D_X12_seaLine 3 rfl) rfl ?_
  obtain ⟨v4, σ5, hc3, h⟩ := bnd2_some h
  refine AW.cV (n := 10) (as := [vO 47]) (st := []) (st' := [vI v4]) (uc' := 0) (us' := 0) (A_X12_isWord hΓ (by decide) hc3) cf_X12_isWord ly_57 (le45 rfl) vc_12 (le45 rfl) wM_X12_157 (le45 rfl) (le45 rfl) (dat D_X12_seaLine 4 rfl) rfl rfl (le45 rfl) (le45 rfl) rfl (fun _ => ?_) nlt0
  obtain ⟨s7, h, hq7⟩ := ob_some h
  obtain ⟨σ6, e7⟩ : ∃ z, z = s7 := ⟨_, rfl⟩
  subst e7
  have hJ7 : AW Γ mX12_seaLine 14 (0, 0) (85, τ) 0 0 118 [some (vR 57)] [] (85, σ6) := by
    have h : X12_seaLine_j118 n σ6 = some _ := hq7
    unfold X12_seaLine_j118 at h
    refine AW.aload_n (n := 119) (dat D_X12_seaLine 58 rfl) rfl rfl ?_
    refine AW.bipush (n := 121) (dat D_X12_seaLine 59 rfl) rfl (by decide) ?_
    obtain ⟨σ9, hc8, h⟩ := ob_some h
    refine AW.cV (n := 124) (as := [vI 59]) (st := []) (st' := []) (uc' := 0) (us' := 0) (A_X12_asksSign hΓ hc8) cf_X12_asksSign ly_57 (le45 rfl) vc_12 (le45 rfl) wM_X12_220 (le45 rfl) (le45 rfl) (dat D_X12_seaLine 60 rfl) rfl rfl (le45 rfl) (le45 rfl) rfl (fun _ => ?_) nlt0
    cases h
    exact AW.vret rfl rfl rfl (dat D_X12_seaLine 61 rfl)
  refine AW.if_eqH (t := 20) (n := 13) h (dat D_X12_seaLine 5 rfl) rfl rfl (fun h => ?_) (fun h => ?_)
  · refine AW.aload_n (n := 21) (dat D_X12_seaLine 9 rfl) rfl rfl ?_
    refine AW.ldcS (n := 23) (j := 52) rfl (dat D_X12_seaLine 10 rfl) rfl ?_
    obtain ⟨v11, σ12, hc10, h⟩ := bnd2_some h
    refine AW.cV (n := 26) (as := [vO 52]) (st := []) (st' := [vI v11]) (uc' := 0) (us' := 0) (A_X12_isWord hΓ (by decide) hc10) cf_X12_isWord ly_57 (le45 rfl) vc_12 (le45 rfl) wM_X12_157 (le45 rfl) (le45 rfl) (dat D_X12_seaLine 11 rfl) rfl rfl (le45 rfl) (le45 rfl) rfl (fun _ => ?_) nlt0
    refine AW.if_eqH (t := 36) (n := 29) h (dat D_X12_seaLine 12 rfl) rfl rfl (fun h => ?_) (fun h => ?_)
    · refine AW.aload_n (n := 37) (dat D_X12_seaLine 16 rfl) rfl rfl ?_
      refine AW.ldcS (n := 39) (j := 50) rfl (dat D_X12_seaLine 17 rfl) rfl ?_
      obtain ⟨v14, σ15, hc13, h⟩ := bnd2_some h
      refine AW.cV (n := 42) (as := [vO 50]) (st := []) (st' := [vI v14]) (uc' := 0) (us' := 0) (A_X12_isWord hΓ (by decide) hc13) cf_X12_isWord ly_57 (le45 rfl) vc_12 (le45 rfl) wM_X12_157 (le45 rfl) (le45 rfl) (dat D_X12_seaLine 18 rfl) rfl rfl (le45 rfl) (le45 rfl) rfl (fun _ => ?_) nlt0
      refine AW.if_eqH (t := 75) (n := 45) h (dat D_X12_seaLine 19 rfl) rfl rfl (fun h => ?_) (fun h => ?_)
      · refine AW.aload_n (n := 76) (dat D_X12_seaLine 36 rfl) rfl rfl ?_
        refine AW.ldcS (n := 78) (j := 51) rfl (dat D_X12_seaLine 37 rfl) rfl ?_
        obtain ⟨v17, σ18, hc16, h⟩ := bnd2_some h
        refine AW.cV (n := 81) (as := [vO 51]) (st := []) (st' := [vI v17]) (uc' := 0) (us' := 0) (A_X12_isWord hΓ (by decide) hc16) cf_X12_isWord ly_57 (le45 rfl) vc_12 (le45 rfl) wM_X12_157 (le45 rfl) (le45 rfl) (dat D_X12_seaLine 38 rfl) rfl rfl (le45 rfl) (le45 rfl) rfl (fun _ => ?_) nlt0
        refine AW.if_eqH (t := 114) (n := 84) h (dat D_X12_seaLine 39 rfl) rfl rfl (fun h => ?_) (fun h => ?_)
        · refine AW.aload_n (n := 115) (dat D_X12_seaLine 56 rfl) rfl rfl ?_
          obtain ⟨σ20, hc19, h⟩ := ob_some h
          refine AW.cV (n := 118) (as := []) (st := []) (st' := []) (uc' := 0) (us' := 0) (A_X12_fails hΓ hc19) cf_X12_fails ly_57 (le45 rfl) vc_12 (le45 rfl) wM_X12_141 (le45 rfl) (le45 rfl) (dat D_X12_seaLine 57 rfl) rfl rfl (le45 rfl) (le45 rfl) rfl (fun _ => ?_) nlt0
          cases h
          exact AW.to hJ7 (lle_s rfl (lle_z))
        · refine AW.aload_n (n := 85) (dat D_X12_seaLine 40 rfl) rfl rfl ?_
          refine AW.getI (n := 88) fX12_13 wF_X12_217 ly_57 (le45 rfl) rfl rfl (dat D_X12_seaLine 41 rfl) rfl ?_
          refine AW.if_neH (t := 114) (n := 91) h (dat D_X12_seaLine 42 rfl) rfl rfl (fun h => ?_) (fun h => ?_)
          · refine AW.aload_n (n := 92) (dat D_X12_seaLine 43 rfl) rfl rfl ?_
            refine AW.iconst (n := 93) (dat D_X12_seaLine 44 rfl) rfl ?_
            refine AW.putZ (n := 96) (Or.inr rfl) fX12_13 wF_X12_217 ly_57 (le45 rfl) rfl rfl rfl (dat D_X12_seaLine 45 rfl) rfl ?_
            refine AW.ltS h (fun σ23 h => ?_)
            refine AW.aload_n (n := 97) (dat D_X12_seaLine 46 rfl) rfl rfl ?_
            refine AW.getR (n := 100) (t := 61) fX12_10 wF_X12_24 ly_57 (le45 rfl) rfl (dat D_X12_seaLine 47 rfl) rfl ?_
            refine AW.iconst (n := 101) (dat D_X12_seaLine 48 rfl) rfl ?_
            refine AW.aload_n (n := 102) (dat D_X12_seaLine 49 rfl) rfl rfl ?_
            refine AW.ldcS (n := 104) (j := 51) rfl (dat D_X12_seaLine 50 rfl) rfl ?_
            refine AW.iconst (n := 105) (dat D_X12_seaLine 51 rfl) rfl ?_
            refine AW.bipush (n := 107) (dat D_X12_seaLine 52 rfl) rfl (by decide) ?_
            obtain ⟨v25, σ26, hc24, h⟩ := bnd2_some h
            refine AW.cV (n := 110) (as := [vO 51, vI 0, vI 30]) (st := [vI 3, vR 61]) (st' := [vI v25, vI 3, vR 61]) (uc' := 0) (us' := 0) (A_X12_after hΓ (by decide) hc24) cf_X12_after ly_57 (le45 rfl) vc_12 (le45 rfl) wM_X12_204 (le45 rfl) (le45 rfl) (dat D_X12_seaLine 53 rfl) rfl rfl (le45 rfl) (le45 rfl) rfl (fun _ => ?_) nlt0
            refine AW.iastH h (n := 111) rfl ly_61 (le45 rfl) (dat D_X12_seaLine 54 rfl) rfl (fun j27 h => ?_)
            refine AW.ltS h (fun σ28 h => ?_)
            refine AW.goto (t := 118) (dat D_X12_seaLine 55 rfl) rfl ?_
            cases h
            exact AW.to hJ7 (lle_s rfl (lle_z))
          · refine AW.aload_n (n := 115) (dat D_X12_seaLine 56 rfl) rfl rfl ?_
            obtain ⟨σ22, hc21, h⟩ := ob_some h
            refine AW.cV (n := 118) (as := []) (st := []) (st' := []) (uc' := 0) (us' := 0) (A_X12_fails hΓ hc21) cf_X12_fails ly_57 (le45 rfl) vc_12 (le45 rfl) wM_X12_141 (le45 rfl) (le45 rfl) (dat D_X12_seaLine 57 rfl) rfl rfl (le45 rfl) (le45 rfl) rfl (fun _ => ?_) nlt0
            cases h
            exact AW.to hJ7 (lle_s rfl (lle_z))
      · refine AW.aload_n (n := 46) (dat D_X12_seaLine 20 rfl) rfl rfl ?_
        refine AW.getI (n := 49) fX12_12 wF_X12_214 ly_57 (le45 rfl) rfl rfl (dat D_X12_seaLine 21 rfl) rfl ?_
        refine AW.if_neH (t := 75) (n := 52) h (dat D_X12_seaLine 22 rfl) rfl rfl (fun h => ?_) (fun h => ?_)
        · refine AW.aload_n (n := 53) (dat D_X12_seaLine 23 rfl) rfl rfl ?_
          refine AW.iconst (n := 54) (dat D_X12_seaLine 24 rfl) rfl ?_
          refine AW.putZ (n := 57) (Or.inr rfl) fX12_12 wF_X12_214 ly_57 (le45 rfl) rfl rfl rfl (dat D_X12_seaLine 25 rfl) rfl ?_
          refine AW.ltS h (fun σ42 h => ?_)
          refine AW.aload_n (n := 58) (dat D_X12_seaLine 26 rfl) rfl rfl ?_
          refine AW.getR (n := 61) (t := 61) fX12_10 wF_X12_24 ly_57 (le45 rfl) rfl (dat D_X12_seaLine 27 rfl) rfl ?_
          refine AW.iconst (n := 62) (dat D_X12_seaLine 28 rfl) rfl ?_
          refine AW.aload_n (n := 63) (dat D_X12_seaLine 29 rfl) rfl rfl ?_
          refine AW.ldcS (n := 65) (j := 50) rfl (dat D_X12_seaLine 30 rfl) rfl ?_
          refine AW.iconst (n := 66) (dat D_X12_seaLine 31 rfl) rfl ?_
          refine AW.bipush (n := 68) (dat D_X12_seaLine 32 rfl) rfl (by decide) ?_
          obtain ⟨v44, σ45, hc43, h⟩ := bnd2_some h
          refine AW.cV (n := 71) (as := [vO 50, vI 1, vI 60]) (st := [vI 2, vR 61]) (st' := [vI v44, vI 2, vR 61]) (uc' := 0) (us' := 0) (A_X12_after hΓ (by decide) hc43) cf_X12_after ly_57 (le45 rfl) vc_12 (le45 rfl) wM_X12_204 (le45 rfl) (le45 rfl) (dat D_X12_seaLine 33 rfl) rfl rfl (le45 rfl) (le45 rfl) rfl (fun _ => ?_) nlt0
          refine AW.iastH h (n := 72) rfl ly_61 (le45 rfl) (dat D_X12_seaLine 34 rfl) rfl (fun j46 h => ?_)
          refine AW.ltS h (fun σ47 h => ?_)
          refine AW.goto (t := 118) (dat D_X12_seaLine 35 rfl) rfl ?_
          cases h
          exact AW.to hJ7 (lle_s rfl (lle_z))
        · refine AW.aload_n (n := 76) (dat D_X12_seaLine 36 rfl) rfl rfl ?_
          refine AW.ldcS (n := 78) (j := 51) rfl (dat D_X12_seaLine 37 rfl) rfl ?_
          obtain ⟨v30, σ31, hc29, h⟩ := bnd2_some h
          refine AW.cV (n := 81) (as := [vO 51]) (st := []) (st' := [vI v30]) (uc' := 0) (us' := 0) (A_X12_isWord hΓ (by decide) hc29) cf_X12_isWord ly_57 (le45 rfl) vc_12 (le45 rfl) wM_X12_157 (le45 rfl) (le45 rfl) (dat D_X12_seaLine 38 rfl) rfl rfl (le45 rfl) (le45 rfl) rfl (fun _ => ?_) nlt0
          refine AW.if_eqH (t := 114) (n := 84) h (dat D_X12_seaLine 39 rfl) rfl rfl (fun h => ?_) (fun h => ?_)
          · refine AW.aload_n (n := 115) (dat D_X12_seaLine 56 rfl) rfl rfl ?_
            obtain ⟨σ33, hc32, h⟩ := ob_some h
            refine AW.cV (n := 118) (as := []) (st := []) (st' := []) (uc' := 0) (us' := 0) (A_X12_fails hΓ hc32) cf_X12_fails ly_57 (le45 rfl) vc_12 (le45 rfl) wM_X12_141 (le45 rfl) (le45 rfl) (dat D_X12_seaLine 57 rfl) rfl rfl (le45 rfl) (le45 rfl) rfl (fun _ => ?_) nlt0
            cases h
            exact AW.to hJ7 (lle_s rfl (lle_z))
          · refine AW.aload_n (n := 85) (dat D_X12_seaLine 40 rfl) rfl rfl ?_
            refine AW.getI (n := 88) fX12_13 wF_X12_217 ly_57 (le45 rfl) rfl rfl (dat D_X12_seaLine 41 rfl) rfl ?_
            refine AW.if_neH (t := 114) (n := 91) h (dat D_X12_seaLine 42 rfl) rfl rfl (fun h => ?_) (fun h => ?_)
            · refine AW.aload_n (n := 92) (dat D_X12_seaLine 43 rfl) rfl rfl ?_
              refine AW.iconst (n := 93) (dat D_X12_seaLine 44 rfl) rfl ?_
              refine AW.putZ (n := 96) (Or.inr rfl) fX12_13 wF_X12_217 ly_57 (le45 rfl) rfl rfl rfl (dat D_X12_seaLine 45 rfl) rfl ?_
              refine AW.ltS h (fun σ36 h => ?_)
              refine AW.aload_n (n := 97) (dat D_X12_seaLine 46 rfl) rfl rfl ?_
              refine AW.getR (n := 100) (t := 61) fX12_10 wF_X12_24 ly_57 (le45 rfl) rfl (dat D_X12_seaLine 47 rfl) rfl ?_
              refine AW.iconst (n := 101) (dat D_X12_seaLine 48 rfl) rfl ?_
              refine AW.aload_n (n := 102) (dat D_X12_seaLine 49 rfl) rfl rfl ?_
              refine AW.ldcS (n := 104) (j := 51) rfl (dat D_X12_seaLine 50 rfl) rfl ?_
              refine AW.iconst (n := 105) (dat D_X12_seaLine 51 rfl) rfl ?_
              refine AW.bipush (n := 107) (dat D_X12_seaLine 52 rfl) rfl (by decide) ?_
              obtain ⟨v38, σ39, hc37, h⟩ := bnd2_some h
              refine AW.cV (n := 110) (as := [vO 51, vI 0, vI 30]) (st := [vI 3, vR 61]) (st' := [vI v38, vI 3, vR 61]) (uc' := 0) (us' := 0) (A_X12_after hΓ (by decide) hc37) cf_X12_after ly_57 (le45 rfl) vc_12 (le45 rfl) wM_X12_204 (le45 rfl) (le45 rfl) (dat D_X12_seaLine 53 rfl) rfl rfl (le45 rfl) (le45 rfl) rfl (fun _ => ?_) nlt0
              refine AW.iastH h (n := 111) rfl ly_61 (le45 rfl) (dat D_X12_seaLine 54 rfl) rfl (fun j40 h => ?_)
              refine AW.ltS h (fun σ41 h => ?_)
              refine AW.goto (t := 118) (dat D_X12_seaLine 55 rfl) rfl ?_
              cases h
              exact AW.to hJ7 (lle_s rfl (lle_z))
            · refine AW.aload_n (n := 115) (dat D_X12_seaLine 56 rfl) rfl rfl ?_
              obtain ⟨σ35, hc34, h⟩ := ob_some h
              refine AW.cV (n := 118) (as := []) (st := []) (st' := []) (uc' := 0) (us' := 0) (A_X12_fails hΓ hc34) cf_X12_fails ly_57 (le45 rfl) vc_12 (le45 rfl) wM_X12_141 (le45 rfl) (le45 rfl) (dat D_X12_seaLine 57 rfl) rfl rfl (le45 rfl) (le45 rfl) rfl (fun _ => ?_) nlt0
              cases h
              exact AW.to hJ7 (lle_s rfl (lle_z))
    · refine AW.aload_n (n := 30) (dat D_X12_seaLine 13 rfl) rfl rfl ?_
      obtain ⟨σ49, hc48, h⟩ := ob_some h
      refine AW.cV (n := 33) (as := []) (st := []) (st' := []) (uc' := 0) (us' := 0) (A_X12_waveLine hΓ hc48) cf_X12_waveLine ly_57 (le45 rfl) vc_12 (le45 rfl) wM_X12_211 (le45 rfl) (le45 rfl) (dat D_X12_seaLine 14 rfl) rfl rfl (le45 rfl) (le45 rfl) rfl (fun _ => ?_) nlt0
      refine AW.goto (t := 118) (dat D_X12_seaLine 15 rfl) rfl ?_
      cases h
      exact AW.to hJ7 (lle_s rfl (lle_z))
  · refine AW.aload_n (n := 14) (dat D_X12_seaLine 6 rfl) rfl rfl ?_
    obtain ⟨σ51, hc50, h⟩ := ob_some h
    refine AW.cV (n := 17) (as := []) (st := []) (st' := []) (uc' := 0) (us' := 0) (A_X12_surferLine hΓ hc50) cf_X12_surferLine ly_57 (le45 rfl) vc_12 (le45 rfl) wM_X12_208 (le45 rfl) (le45 rfl) (dat D_X12_seaLine 7 rfl) rfl rfl (le45 rfl) (le45 rfl) rfl (fun _ => ?_) nlt0
    refine AW.goto (t := 118) (dat D_X12_seaLine 8 rfl) rfl ?_
    cases h
    exact AW.to hJ7 (lle_s rfl (lle_z))
def L_X12_surfers : List (Nat × Instr × Nat) := [(0, .aload_n 0, 1), (1, .getfield 21, 3), (4, .iconst 0, 1), (5, .iaload, 1), (6, .ireturn, 1)]
theorem D_X12_surfers : dOK cX12_surfers L_X12_surfers = true := by decide +kernel
theorem cf_X12_surfers : CFV mX12_surfers 0 := ⟨wI_X12_surfers, wS_X12_surfers, wN_WaveRightModel, wC_X12_surfers, rfl, ⟨by decide +kernel, by decide +kernel, by decide +kernel⟩, le45 rfl⟩
def X12_surfers (n : Nat) (σ : SG) : Option (Int) :=
  rdA 144 0 fun j1 =>
  some ((σ 60 j1))
set_option maxHeartbeats 4000000 in
set_option maxRecDepth 100000 in
theorem A_X12_surfers {Γ : GA} (hΓ : (gl Γ).stackTraces = false) {n : Nat} {σ : SG} {r : Int}  (h : X12_surfers n σ = some r) : AM Γ mX12_surfers 1 0 0 [vR 57] (85, σ) (0, r) (85, σ) := by
  refine AM.of pl_X12 rfl wC_X12_surfers (le45 rfl) hΓ ?_
  refine AW.to (ls'' := [some (vR 57)]) ?_ (lle_s rfl (lle_z))
  unfold X12_surfers at h
  refine AW.aload_n (n := 1) (dat D_X12_surfers 0 rfl) rfl rfl ?_
  refine AW.getR (n := 4) (t := 60) fX12_9 wF_X12_21 ly_57 (le45 rfl) rfl (dat D_X12_surfers 1 rfl) rfl ?_
  refine AW.iconst (n := 5) (dat D_X12_surfers 2 rfl) rfl ?_
  refine AW.ialdH h (n := 6) rfl ly_60 (le45 rfl) (dat D_X12_surfers 3 rfl) rfl (fun j1 h => ?_)
  cases h
  exact AW.iret rfl rfl rfl (dat D_X12_surfers 4 rfl)
