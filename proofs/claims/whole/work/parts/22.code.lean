/-! ===== methods as functions, and their bytecode beside them (printed by wip/whole/gen/emit.py) ===== -/
def L_X3_passAny : List (Nat × Instr × Nat) := [(0, .aload_n 0, 1), (1, .iload_n 1, 1), (2, .invokevirtual 79, 3), (5, .ifCond .ne 5, 3), (8, .iconst 0, 1), (9, .ireturn, 1), (10, .iconst 0, 1), (11, .istore_n 2, 1), (12, .iload_n 2, 1), (13, .sipush 400, 3), (16, .if_icmp .ge 50, 3), (19, .aload_n 0, 1), (20, .getfield 9, 3), (23, .ldc 82, 2), (25, .invokevirtual 70, 3), (28, .ifCond .eq 38, 3), (31, .aload_n 0, 1), (32, .getfield 15, 3), (35, .bipush 10, 2), (37, .iconst 0, 1), (38, .invokevirtual 84, 3), (41, .istore_n 3, 1), (42, .aload_n 0, 1), (43, .iload_n 1, 1), (44, .invokevirtual 79, 3), (47, .ifCond .ne 5, 3), (50, .iconst 0, 1), (51, .ireturn, 1), (52, .aload_n 0, 1), (53, .getfield 15, 3), (56, .iload_n 3, 1), (57, .invokevirtual 88, 3), (60, .iinc 2 1, 3), (63, .goto (-51), 3), (66, .iconst 1, 1), (67, .ireturn, 1)]
theorem D_X3_passAny : dOK cX3_passAny L_X3_passAny = true := by decide +kernel
theorem cf_X3_passAny : CFV mX3_passAny 1 := ⟨wI_X3_passAny, wS_X3_passAny, wN_WaveRight_JudgeReader, wC_X3_passAny, rfl, ⟨by decide +kernel, by decide +kernel, by decide +kernel⟩, le45 rfl⟩
def L_X3_passAll : List (Nat × Instr × Nat) := [(0, .aload_n 0, 1), (1, .iload_n 1, 1), (2, .invokevirtual 92, 3), (5, .ifCond .ne 5, 3), (8, .iconst 0, 1), (9, .ireturn, 1), (10, .iconst 0, 1), (11, .istore_n 2, 1), (12, .iload_n 2, 1), (13, .sipush 400, 3), (16, .if_icmp .ge 50, 3), (19, .aload_n 0, 1), (20, .getfield 9, 3), (23, .ldc 95, 2), (25, .invokevirtual 70, 3), (28, .ifCond .eq 38, 3), (31, .aload_n 0, 1), (32, .getfield 15, 3), (35, .bipush 11, 2), (37, .iconst 0, 1), (38, .invokevirtual 84, 3), (41, .istore_n 3, 1), (42, .aload_n 0, 1), (43, .iload_n 1, 1), (44, .invokevirtual 92, 3), (47, .ifCond .ne 5, 3), (50, .iconst 0, 1), (51, .ireturn, 1), (52, .aload_n 0, 1), (53, .getfield 15, 3), (56, .iload_n 3, 1), (57, .invokevirtual 88, 3), (60, .iinc 2 1, 3), (63, .goto (-51), 3), (66, .iconst 1, 1), (67, .ireturn, 1)]
theorem D_X3_passAll : dOK cX3_passAll L_X3_passAll = true := by decide +kernel
theorem cf_X3_passAll : CFV mX3_passAll 1 := ⟨wI_X3_passAll, wS_X3_passAll, wN_WaveRight_JudgeReader, wC_X3_passAll, rfl, ⟨by decide +kernel, by decide +kernel, by decide +kernel⟩, le45 rfl⟩
def L_X3_passAtom : List (Nat × Instr × Nat) := [(0, .iconst 0, 1), (1, .istore_n 2, 1), (2, .iconst 0, 1), (3, .istore_n 3, 1), (4, .iload_n 3, 1), (5, .sipush 400, 3), (8, .if_icmp .ge 31, 3), (11, .aload_n 0, 1), (12, .getfield 9, 3), (15, .ldc 97, 2), (17, .invokevirtual 70, 3), (20, .ifCond .eq 19, 3), (23, .iload_n 2, 1), (24, .ifCond .ne 7, 3), (27, .iconst 1, 1), (28, .goto 4, 3), (31, .iconst 0, 1), (32, .istore_n 2, 1), (33, .iinc 3 1, 3), (36, .goto (-32), 3), (39, .aload_n 0, 1), (40, .getfield 9, 3), (43, .bipush 40, 2), (45, .invokevirtual 99, 3), (48, .ifCond .eq 11, 3), (51, .aload_n 0, 1), (52, .iload_n 1, 1), (53, .invokevirtual 102, 3), (56, .goto 8, 3), (59, .aload_n 0, 1), (60, .iload_n 1, 1), (61, .invokevirtual 105, 3), (64, .istore_n 3, 1), (65, .iload_n 3, 1), (66, .ifCond .eq 18, 3), (69, .iload_n 2, 1), (70, .ifCond .eq 14, 3), (73, .aload_n 0, 1), (74, .getfield 15, 3), (77, .bipush 9, 2), (79, .iconst 0, 1), (80, .invokevirtual 84, 3), (83, .pop, 1), (84, .iload_n 3, 1), (85, .ireturn, 1)]
theorem D_X3_passAtom : dOK cX3_passAtom L_X3_passAtom = true := by decide +kernel
theorem cf_X3_passAtom : CFV mX3_passAtom 1 := ⟨wI_X3_passAtom, wS_X3_passAtom, wN_WaveRight_JudgeReader, wC_X3_passAtom, rfl, ⟨by decide +kernel, by decide +kernel, by decide +kernel⟩, le45 rfl⟩
def L_X3_passGroup : List (Nat × Instr × Nat) := [(0, .iload_n 1, 1), (1, .bipush 6, 2), (3, .if_icmp .lt 5, 3), (6, .iconst 0, 1), (7, .ireturn, 1), (8, .aload_n 0, 1), (9, .getfield 9, 3), (12, .invokevirtual 55, 3), (15, .aload_n 0, 1), (16, .iload_n 1, 1), (17, .iconst 1, 1), (18, .iadd, 1), (19, .invokevirtual 73, 3), (22, .ifCond .eq 19, 3), (25, .aload_n 0, 1), (26, .getfield 9, 3), (29, .bipush 41, 2), (31, .invokevirtual 40, 3), (34, .ifCond .eq 7, 3), (37, .iconst 1, 1), (38, .goto 4, 3), (41, .iconst 0, 1), (42, .ireturn, 1)]
theorem D_X3_passGroup : dOK cX3_passGroup L_X3_passGroup = true := by decide +kernel
theorem cf_X3_passGroup : CFV mX3_passGroup 1 := ⟨wI_X3_passGroup, wS_X3_passGroup, wN_WaveRight_JudgeReader, wC_X3_passGroup, rfl, ⟨by decide +kernel, by decide +kernel, by decide +kernel⟩, le45 rfl⟩
def L_X3_passComparison : List (Nat × Instr × Nat) := [(0, .aload_n 0, 1), (1, .iload_n 1, 1), (2, .invokevirtual 62, 3), (5, .ifCond .ne 5, 3), (8, .iconst 0, 1), (9, .ireturn, 1), (10, .aload_n 0, 1), (11, .getfield 9, 3), (14, .bipush 60, 2), (16, .invokevirtual 99, 3), (19, .ifCond .eq 8, 3), (22, .bipush 6, 2), (24, .goto 38, 3), (27, .aload_n 0, 1), (28, .getfield 9, 3), (31, .bipush 61, 2), (33, .invokevirtual 99, 3), (36, .ifCond .eq 8, 3), (39, .bipush 7, 2), (41, .goto 21, 3), (44, .aload_n 0, 1), (45, .getfield 9, 3), (48, .bipush 62, 2), (50, .invokevirtual 99, 3), (53, .ifCond .eq 8, 3), (56, .bipush 8, 2), (58, .goto 4, 3), (61, .iconst (-1), 1), (62, .istore_n 2, 1), (63, .iload_n 2, 1), (64, .iconst (-1), 1), (65, .if_icmp .ne 5, 3), (68, .iconst 0, 1), (69, .ireturn, 1), (70, .aload_n 0, 1), (71, .getfield 9, 3), (74, .invokevirtual 55, 3), (77, .aload_n 0, 1), (78, .iload_n 1, 1), (79, .invokevirtual 62, 3), (82, .ifCond .ne 5, 3), (85, .iconst 0, 1), (86, .ireturn, 1), (87, .aload_n 0, 1), (88, .getfield 15, 3), (91, .iload_n 2, 1), (92, .iconst 0, 1), (93, .invokevirtual 84, 3), (96, .pop, 1), (97, .iconst 1, 1), (98, .ireturn, 1)]
theorem D_X3_passComparison : dOK cX3_passComparison L_X3_passComparison = true := by decide +kernel
theorem cf_X3_passComparison : CFV mX3_passComparison 1 := ⟨wI_X3_passComparison, wS_X3_passComparison, wN_WaveRight_JudgeReader, wC_X3_passComparison, rfl, ⟨by decide +kernel, by decide +kernel, by decide +kernel⟩, le45 rfl⟩
def L_X3_passSum : List (Nat × Instr × Nat) := [(0, .aload_n 0, 1), (1, .iload_n 1, 1), (2, .invokevirtual 108, 3), (5, .ifCond .ne 5, 3), (8, .iconst 0, 1), (9, .ireturn, 1), (10, .iconst 0, 1), (11, .istore_n 2, 1), (12, .iload_n 2, 1), (13, .sipush 400, 3), (16, .if_icmp .ge 78, 3), (19, .aload_n 0, 1), (20, .getfield 9, 3), (23, .bipush 43, 2), (25, .invokevirtual 99, 3), (28, .ifCond .ne 15, 3), (31, .aload_n 0, 1), (32, .getfield 9, 3), (35, .bipush 45, 2), (37, .invokevirtual 99, 3), (40, .ifCond .eq 54, 3), (43, .aload_n 0, 1), (44, .getfield 9, 3), (47, .bipush 43, 2), (49, .invokevirtual 99, 3), (52, .ifCond .eq 7, 3), (55, .iconst 2, 1), (56, .goto 4, 3), (59, .iconst 3, 1), (60, .istore_n 3, 1), (61, .aload_n 0, 1), (62, .getfield 9, 3), (65, .invokevirtual 55, 3), (68, .aload_n 0, 1), (69, .iload_n 1, 1), (70, .invokevirtual 108, 3), (73, .ifCond .ne 5, 3), (76, .iconst 0, 1), (77, .ireturn, 1), (78, .aload_n 0, 1), (79, .getfield 15, 3), (82, .iload_n 3, 1), (83, .iconst 0, 1), (84, .invokevirtual 84, 3), (87, .pop, 1), (88, .iinc 2 1, 3), (91, .goto (-79), 3), (94, .iconst 1, 1), (95, .ireturn, 1)]
theorem D_X3_passSum : dOK cX3_passSum L_X3_passSum = true := by decide +kernel
theorem cf_X3_passSum : CFV mX3_passSum 1 := ⟨wI_X3_passSum, wS_X3_passSum, wN_WaveRight_JudgeReader, wC_X3_passSum, rfl, ⟨by decide +kernel, by decide +kernel, by decide +kernel⟩, le45 rfl⟩
def L_X3_passProduct : List (Nat × Instr × Nat) := [(0, .aload_n 0, 1), (1, .iload_n 1, 1), (2, .invokevirtual 111, 3), (5, .ifCond .ne 5, 3), (8, .iconst 0, 1), (9, .ireturn, 1), (10, .iconst 0, 1), (11, .istore_n 2, 1), (12, .iload_n 2, 1), (13, .sipush 400, 3), (16, .if_icmp .ge 78, 3), (19, .aload_n 0, 1), (20, .getfield 9, 3), (23, .bipush 42, 2), (25, .invokevirtual 99, 3), (28, .ifCond .ne 15, 3), (31, .aload_n 0, 1), (32, .getfield 9, 3), (35, .bipush 47, 2), (37, .invokevirtual 99, 3), (40, .ifCond .eq 54, 3), (43, .aload_n 0, 1), (44, .getfield 9, 3), (47, .bipush 42, 2), (49, .invokevirtual 99, 3), (52, .ifCond .eq 7, 3), (55, .iconst 4, 1), (56, .goto 4, 3), (59, .iconst 5, 1), (60, .istore_n 3, 1), (61, .aload_n 0, 1), (62, .getfield 9, 3), (65, .invokevirtual 55, 3), (68, .aload_n 0, 1), (69, .iload_n 1, 1), (70, .invokevirtual 111, 3), (73, .ifCond .ne 5, 3), (76, .iconst 0, 1), (77, .ireturn, 1), (78, .aload_n 0, 1), (79, .getfield 15, 3), (82, .iload_n 3, 1), (83, .iconst 0, 1), (84, .invokevirtual 84, 3), (87, .pop, 1), (88, .iinc 2 1, 3), (91, .goto (-79), 3), (94, .iconst 1, 1), (95, .ireturn, 1)]
theorem D_X3_passProduct : dOK cX3_passProduct L_X3_passProduct = true := by decide +kernel
theorem cf_X3_passProduct : CFV mX3_passProduct 1 := ⟨wI_X3_passProduct, wS_X3_passProduct, wN_WaveRight_JudgeReader, wC_X3_passProduct, rfl, ⟨by decide +kernel, by decide +kernel, by decide +kernel⟩, le45 rfl⟩
def L_X3_passPart : List (Nat × Instr × Nat) := [(0, .aload_n 0, 1), (1, .getfield 9, 3), (4, .bipush 91, 2), (6, .invokevirtual 99, 3), (9, .ifCond .eq 46, 3), (12, .iload_n 1, 1), (13, .bipush 6, 2), (15, .if_icmp .lt 5, 3), (18, .iconst 0, 1), (19, .ireturn, 1), (20, .aload_n 0, 1), (21, .getfield 9, 3), (24, .invokevirtual 55, 3), (27, .aload_n 0, 1), (28, .iload_n 1, 1), (29, .iconst 1, 1), (30, .iadd, 1), (31, .invokevirtual 62, 3), (34, .ifCond .eq 19, 3), (37, .aload_n 0, 1), (38, .getfield 9, 3), (41, .bipush 93, 2), (43, .invokevirtual 40, 3), (46, .ifCond .eq 7, 3), (49, .iconst 1, 1), (50, .goto 4, 3), (53, .iconst 0, 1), (54, .ireturn, 1), (55, .aload_n 0, 1), (56, .invokevirtual 114, 3), (59, .istore_n 2, 1), (60, .iload_n 2, 1), (61, .iconst (-1), 1), (62, .if_icmp .eq 22, 3), (65, .aload_n 0, 1), (66, .getfield 9, 3), (69, .invokevirtual 55, 3), (72, .aload_n 0, 1), (73, .getfield 15, 3), (76, .iconst 1, 1), (77, .iload_n 2, 1), (78, .invokevirtual 84, 3), (81, .pop, 1), (82, .iconst 1, 1), (83, .ireturn, 1), (84, .aload_n 0, 1), (85, .getfield 9, 3), (88, .iconst 0, 1), (89, .sipush 9999, 3), (92, .iconst 4, 1), (93, .invokevirtual 118, 3), (96, .istore_n 3, 1), (97, .iload_n 3, 1), (98, .iconst (-1), 1), (99, .if_icmp .ne 5, 3), (102, .iconst 0, 1), (103, .ireturn, 1), (104, .aload_n 0, 1), (105, .getfield 15, 3), (108, .iconst 0, 1), (109, .iload_n 3, 1), (110, .invokevirtual 84, 3), (113, .pop, 1), (114, .iconst 1, 1), (115, .ireturn, 1)]
theorem D_X3_passPart : dOK cX3_passPart L_X3_passPart = true := by decide +kernel
theorem cf_X3_passPart : CFV mX3_passPart 1 := ⟨wI_X3_passPart, wS_X3_passPart, wN_WaveRight_JudgeReader, wC_X3_passPart, rfl, ⟨by decide +kernel, by decide +kernel, by decide +kernel⟩, le45 rfl⟩
def X3_passAny_e12 (rec : Nat → Int → SG → Option (Int × SG)) (n : Nat) (σ7 : SG) : Option (Int × SG) :=
  some ((1, σ7))
def X3_passAny_l12 (rec : Nat → Int → SG → Option (Int × SG)) (n : Nat) (a0 : Int) (z4 : Int) (σ5 : SG) : Option ((Int × SG) ⊕ ((SG) ⊕ (Int × SG))) :=
  if 400 ≤ w32 z4 then
    some (.inr (.inl σ5))
  else
    bnd2 (X10_passWord n 25 σ5) fun v9 σ10 =>
    if w32 v9 = 0 then
      some (.inr (.inl σ10))
    else
      ckR isJudge (σ10 18 1) fun k11 =>
      bnd2 (X2_write n k11 10 0 σ10) fun v13 σ14 =>
      bnd2 (rec 1 a0 σ14) fun v16 σ17 =>
      if w32 v16 = 0 then
        some (.inr (.inr (0, σ17)))
      else
        ckR isJudge (σ17 18 1) fun k18 =>
        (X2_landHere n k18 v13 σ17).bind fun σ20 =>
        lt (z4 + 1) fun x21 =>
        some (.inl (x21, σ20))
def X3_passAny_b (rec : Nat → Int → SG → Option (Int × SG)) (n : Nat) (a0 : Int) (σ : SG) : Option (Int × SG) :=
  bnd2 (rec 1 a0 σ) fun v2 σ3 =>
  if w32 v2 = 0 then
    some ((0, σ3))
  else
    ((iter n (fun s : Int × SG => X3_passAny_l12 rec n a0 s.1 s.2) (0, σ3)) : Option ((SG) ⊕ (Int × SG))).bind (orr (fun s => X3_passAny_e12 rec n s))
set_option maxHeartbeats 4000000 in
set_option maxRecDepth 100000 in
theorem A_X3_passAny_b {Γ : GA} (hΓ : (gl Γ).stackTraces = false) {D : Nat} {rec : Nat → Int → SG → Option (Int × SG)} (hrec_passAny : ∀ {σ9 : SG} {b0 : Int} {r9 : Int} {τ9 : SG}, (rec 0 b0 σ9) = some (r9, τ9) → AM Γ mX3_passAny (11 + D) 0 0 [vR 18, vI b0] (85, σ9) (0, r9) (85, τ9)) (hrec_passAll : ∀ {σ9 : SG} {b0 : Int} {r9 : Int} {τ9 : SG}, (rec 1 b0 σ9) = some (r9, τ9) → AM Γ mX3_passAll (11 + D) 0 0 [vR 18, vI b0] (85, σ9) (0, r9) (85, τ9)) (hrec_passAtom : ∀ {σ9 : SG} {b0 : Int} {r9 : Int} {τ9 : SG}, (rec 2 b0 σ9) = some (r9, τ9) → AM Γ mX3_passAtom (11 + D) 0 0 [vR 18, vI b0] (85, σ9) (0, r9) (85, τ9)) (hrec_passGroup : ∀ {σ9 : SG} {b0 : Int} {r9 : Int} {τ9 : SG}, (rec 3 b0 σ9) = some (r9, τ9) → AM Γ mX3_passGroup (11 + D) 0 0 [vR 18, vI b0] (85, σ9) (0, r9) (85, τ9)) (hrec_passComparison : ∀ {σ9 : SG} {b0 : Int} {r9 : Int} {τ9 : SG}, (rec 4 b0 σ9) = some (r9, τ9) → AM Γ mX3_passComparison (11 + D) 0 0 [vR 18, vI b0] (85, σ9) (0, r9) (85, τ9)) (hrec_passSum : ∀ {σ9 : SG} {b0 : Int} {r9 : Int} {τ9 : SG}, (rec 5 b0 σ9) = some (r9, τ9) → AM Γ mX3_passSum (11 + D) 0 0 [vR 18, vI b0] (85, σ9) (0, r9) (85, τ9)) (hrec_passProduct : ∀ {σ9 : SG} {b0 : Int} {r9 : Int} {τ9 : SG}, (rec 6 b0 σ9) = some (r9, τ9) → AM Γ mX3_passProduct (11 + D) 0 0 [vR 18, vI b0] (85, σ9) (0, r9) (85, τ9)) (hrec_passPart : ∀ {σ9 : SG} {b0 : Int} {r9 : Int} {τ9 : SG}, (rec 7 b0 σ9) = some (r9, τ9) → AM Γ mX3_passPart (11 + D) 0 0 [vR 18, vI b0] (85, σ9) (0, r9) (85, τ9)) {n : Nat} {a0 : Int} {σ : SG} {r : Int} {τ : SG}  (h : X3_passAny_b rec n a0 σ = some (r, τ)) : AM Γ mX3_passAny (11 + (D + 1)) 0 0 [vR 18, vI a0] (85, σ) (0, r) (85, τ) := by
  refine AM.of pl_X3 rfl wC_X3_passAny (le45 rfl) hΓ ?_
  refine AW.to (ls'' := [some (vR 18), some (vI a0), none, none]) ?_ (lle_s rfl (lle_s rfl (lle_e (lle_e (lle_z)))))
  unfold X3_passAny_b at h
  refine AW.aload_n (n := 1) (dat D_X3_passAny 0 rfl) rfl rfl ?_
  refine AW.iload_n (n := 2) (dat D_X3_passAny 1 rfl) rfl rfl ?_
  obtain ⟨v2, σ3, hc1, h⟩ := bnd2_some h
  refine AW.cV (n := 5) (as := [vI a0]) (st := []) (st' := [vI v2]) (uc' := 0) (us' := 0) (hrec_passAll hc1) cf_X3_passAll ly_18 (le45 rfl) vc_3 (le45 rfl) wM_X3_79 (by omega) (le45 rfl) (dat D_X3_passAny 2 rfl) rfl rfl (le45 rfl) (le45 rfl) rfl (fun _ => ?_) nlt0
  refine AW.if_neH (t := 10) (n := 8) h (dat D_X3_passAny 3 rfl) rfl rfl (fun h => ?_) (fun h => ?_)
  · refine AW.iconst (n := 9) (dat D_X3_passAny 4 rfl) rfl ?_
    cases h
    exact AW.zret rfl (by decide) rfl rfl (dat D_X3_passAny 5 rfl)
  · refine AW.iconst (n := 11) (dat D_X3_passAny 6 rfl) rfl ?_
    refine AW.istore_n (n := 12) (ls' := [some (vR 18), some (vI a0), some (vI 0), none]) (dat D_X3_passAny 7 rfl) rfl (le45 rfl) (le45 rfl) rfl rfl ?_
    obtain ⟨b6, hi6, hq6⟩ := ob_some h
    have hR6 : ∀ (σ7 : SG), b6 = .inl σ7 → AW Γ mX3_passAny (11 + (D + 1)) (0, r) (85, τ) 0 0 66 [none, none, none, none] [] (85, σ7) := by
      intro σ7 e
      subst e
      have h : X3_passAny_e12 rec n σ7 = some _ := hq6
      unfold X3_passAny_e12 at h
      refine AW.iconst (n := 67) (dat D_X3_passAny 34 rfl) rfl ?_
      cases h
      exact AW.zret rfl (by decide) rfl rfl (dat D_X3_passAny 35 rfl)
    refine AW.to (ls'' := [some (vR 18), some (vI a0), some (vI 0), none]) ?_ (lle_s rfl (lle_s rfl (lle_s rfl (lle_n (lle_z)))))
    refine aw_iter (fun s : Int × SG => AW Γ mX3_passAny (11 + (D + 1)) (0, r) (85, τ) 0 0 12 [some (vR 18), some (vI a0), some (vI (s.1)), none] [] (85, s.2)) (fun s y h hk6 hb6 => ?_) _ _ hi6
    obtain ⟨z4, σ5⟩ := s
    show AW Γ mX3_passAny (11 + (D + 1)) (0, r) (85, τ) 0 0 12 [some (vR 18), some (vI a0), some (vI z4), none] [] (85, σ5)
    have h : X3_passAny_l12 rec n a0 z4 σ5 = some y := h
    unfold X3_passAny_l12 at h
    refine AW.iload_n (n := 13) (dat D_X3_passAny 8 rfl) rfl rfl ?_
    refine AW.sipush (n := 16) (dat D_X3_passAny 9 rfl) rfl (by decide) ?_
    refine AW.icmp_geH (t := 66) (n := 19) h (dat D_X3_passAny 10 rfl) rfl rfl rfl (by decide) (fun h => ?_) (fun h => ?_)
    · cases h
      have hb := hb6 _ rfl
      exact AW.to (hR6 _ hb.symm) (lle_n (lle_n (lle_n (lle_n (lle_z)))))
    · refine AW.aload_n (n := 20) (dat D_X3_passAny 11 rfl) rfl rfl ?_
      refine AW.getR (n := 23) (t := 15) fX3_0 wF_X3_9 ly_18 (le45 rfl) rfl (dat D_X3_passAny 12 rfl) rfl ?_
      refine AW.ldcS (n := 25) (j := 25) rfl (dat D_X3_passAny 13 rfl) rfl ?_
      obtain ⟨v9, σ10, hc8, h⟩ := bnd2_some h
      refine AW.cV (n := 28) (as := [vO 25]) (st := []) (st' := [vI v9]) (uc' := 0) (us' := 0) (A_X10_passWord hΓ (by decide) hc8) cf_X10_passWord ly_15 (le45 rfl) vc_10 (le45 rfl) wM_X3_70 (by omega) (le45 rfl) (dat D_X3_passAny 14 rfl) rfl rfl (le45 rfl) (le45 rfl) rfl (fun _ => ?_) nlt0
      refine AW.if_eqH (t := 66) (n := 31) h (dat D_X3_passAny 15 rfl) rfl rfl (fun h => ?_) (fun h => ?_)
      · cases h
        have hb := hb6 _ rfl
        exact AW.to (hR6 _ hb.symm) (lle_n (lle_n (lle_n (lle_n (lle_z)))))
      · refine AW.aload_n (n := 32) (dat D_X3_passAny 16 rfl) rfl rfl ?_
        refine AW.getQH h (n := 35) fX3_1 wF_X3_15 ly_18 (le45 rfl) rfl rfl (dat D_X3_passAny 17 rfl) rfl (fun k11 hpk11 h => ?_)
        refine AW.bipush (n := 37) (dat D_X3_passAny 18 rfl) rfl (by decide) ?_
        refine AW.iconst (n := 38) (dat D_X3_passAny 19 rfl) rfl ?_
        obtain ⟨v13, σ14, hc12, h⟩ := bnd2_some h
        refine AW.cV (n := 41) (as := [vI 10, vI 0]) (st := []) (st' := [vI v13]) (uc' := 0) (us' := 0) (A_X2_write hΓ hpk11 hc12) cf_X2_write (isJudge_ly0 hpk11) (by have := isJudge_lt hpk11; omega) vc_2 (le45 rfl) wM_X3_84 (by omega) (le45 rfl) (dat D_X3_passAny 20 rfl) rfl rfl (le45 rfl) (le45 rfl) rfl (fun _ => ?_) nlt0
        refine AW.istore_n (n := 42) (ls' := [some (vR 18), some (vI a0), some (vI z4), some (vI v13)]) (dat D_X3_passAny 21 rfl) rfl (le45 rfl) (le45 rfl) rfl rfl ?_
        refine AW.aload_n (n := 43) (dat D_X3_passAny 22 rfl) rfl rfl ?_
        refine AW.iload_n (n := 44) (dat D_X3_passAny 23 rfl) rfl rfl ?_
        obtain ⟨v16, σ17, hc15, h⟩ := bnd2_some h
        refine AW.cV (n := 47) (as := [vI a0]) (st := []) (st' := [vI v16]) (uc' := 0) (us' := 0) (hrec_passAll hc15) cf_X3_passAll ly_18 (le45 rfl) vc_3 (le45 rfl) wM_X3_79 (by omega) (le45 rfl) (dat D_X3_passAny 24 rfl) rfl rfl (le45 rfl) (le45 rfl) rfl (fun _ => ?_) nlt0
        refine AW.if_neH (t := 52) (n := 50) h (dat D_X3_passAny 25 rfl) rfl rfl (fun h => ?_) (fun h => ?_)
        · refine AW.iconst (n := 51) (dat D_X3_passAny 26 rfl) rfl ?_
          cases h
          have hb := hb6 _ rfl
          subst hb
          have h := hq6
          have h : some _ = some _ := h
          cases h
          exact AW.zret rfl (by decide) rfl rfl (dat D_X3_passAny 27 rfl)
        · refine AW.aload_n (n := 53) (dat D_X3_passAny 28 rfl) rfl rfl ?_
          refine AW.getQH h (n := 56) fX3_1 wF_X3_15 ly_18 (le45 rfl) rfl rfl (dat D_X3_passAny 29 rfl) rfl (fun k18 hpk18 h => ?_)
          refine AW.iload_n (n := 57) (dat D_X3_passAny 30 rfl) rfl rfl ?_
          obtain ⟨σ20, hc19, h⟩ := ob_some h
          refine AW.cV (n := 60) (as := [vI v13]) (st := []) (st' := []) (uc' := 0) (us' := 0) (A_X2_landHere hΓ hpk18 hc19) cf_X2_landHere (isJudge_ly0 hpk18) (by have := isJudge_lt hpk18; omega) vc_2 (le45 rfl) wM_X3_88 (by omega) (le45 rfl) (dat D_X3_passAny 31 rfl) rfl rfl (le45 rfl) (le45 rfl) rfl (fun _ => ?_) nlt0
          refine AW.iincH h (n := 63) (dat D_X3_passAny 32 rfl) rfl rfl (le45 rfl) rfl (fun x21 h => ?_)
          refine AW.lq (ls' := [some (vR 18), some (vI a0), some (vI x21), some (vI v13)]) rfl ?_
          refine AW.goto (t := 12) (dat D_X3_passAny 33 rfl) rfl ?_
          cases h
          exact AW.to (hk6 _ rfl) (lle_s rfl (lle_s rfl (lle_s rfl (lle_n (lle_z)))))
def X3_passAll_e12 (rec : Nat → Int → SG → Option (Int × SG)) (n : Nat) (σ7 : SG) : Option (Int × SG) :=
  some ((1, σ7))
def X3_passAll_l12 (rec : Nat → Int → SG → Option (Int × SG)) (n : Nat) (a0 : Int) (z4 : Int) (σ5 : SG) : Option ((Int × SG) ⊕ ((SG) ⊕ (Int × SG))) :=
  if 400 ≤ w32 z4 then
    some (.inr (.inl σ5))
  else
    bnd2 (X10_passWord n 24 σ5) fun v9 σ10 =>
    if w32 v9 = 0 then
      some (.inr (.inl σ10))
    else
      ckR isJudge (σ10 18 1) fun k11 =>
      bnd2 (X2_write n k11 11 0 σ10) fun v13 σ14 =>
      bnd2 (rec 2 a0 σ14) fun v16 σ17 =>
      if w32 v16 = 0 then
        some (.inr (.inr (0, σ17)))
      else
        ckR isJudge (σ17 18 1) fun k18 =>
        (X2_landHere n k18 v13 σ17).bind fun σ20 =>
        lt (z4 + 1) fun x21 =>
        some (.inl (x21, σ20))
def X3_passAll_b (rec : Nat → Int → SG → Option (Int × SG)) (n : Nat) (a0 : Int) (σ : SG) : Option (Int × SG) :=
  bnd2 (rec 2 a0 σ) fun v2 σ3 =>
  if w32 v2 = 0 then
    some ((0, σ3))
  else
    ((iter n (fun s : Int × SG => X3_passAll_l12 rec n a0 s.1 s.2) (0, σ3)) : Option ((SG) ⊕ (Int × SG))).bind (orr (fun s => X3_passAll_e12 rec n s))
set_option maxHeartbeats 4000000 in
set_option maxRecDepth 100000 in
theorem A_X3_passAll_b {Γ : GA} (hΓ : (gl Γ).stackTraces = false) {D : Nat} {rec : Nat → Int → SG → Option (Int × SG)} (hrec_passAny : ∀ {σ9 : SG} {b0 : Int} {r9 : Int} {τ9 : SG}, (rec 0 b0 σ9) = some (r9, τ9) → AM Γ mX3_passAny (11 + D) 0 0 [vR 18, vI b0] (85, σ9) (0, r9) (85, τ9)) (hrec_passAll : ∀ {σ9 : SG} {b0 : Int} {r9 : Int} {τ9 : SG}, (rec 1 b0 σ9) = some (r9, τ9) → AM Γ mX3_passAll (11 + D) 0 0 [vR 18, vI b0] (85, σ9) (0, r9) (85, τ9)) (hrec_passAtom : ∀ {σ9 : SG} {b0 : Int} {r9 : Int} {τ9 : SG}, (rec 2 b0 σ9) = some (r9, τ9) → AM Γ mX3_passAtom (11 + D) 0 0 [vR 18, vI b0] (85, σ9) (0, r9) (85, τ9)) (hrec_passGroup : ∀ {σ9 : SG} {b0 : Int} {r9 : Int} {τ9 : SG}, (rec 3 b0 σ9) = some (r9, τ9) → AM Γ mX3_passGroup (11 + D) 0 0 [vR 18, vI b0] (85, σ9) (0, r9) (85, τ9)) (hrec_passComparison : ∀ {σ9 : SG} {b0 : Int} {r9 : Int} {τ9 : SG}, (rec 4 b0 σ9) = some (r9, τ9) → AM Γ mX3_passComparison (11 + D) 0 0 [vR 18, vI b0] (85, σ9) (0, r9) (85, τ9)) (hrec_passSum : ∀ {σ9 : SG} {b0 : Int} {r9 : Int} {τ9 : SG}, (rec 5 b0 σ9) = some (r9, τ9) → AM Γ mX3_passSum (11 + D) 0 0 [vR 18, vI b0] (85, σ9) (0, r9) (85, τ9)) (hrec_passProduct : ∀ {σ9 : SG} {b0 : Int} {r9 : Int} {τ9 : SG}, (rec 6 b0 σ9) = some (r9, τ9) → AM Γ mX3_passProduct (11 + D) 0 0 [vR 18, vI b0] (85, σ9) (0, r9) (85, τ9)) (hrec_passPart : ∀ {σ9 : SG} {b0 : Int} {r9 : Int} {τ9 : SG}, (rec 7 b0 σ9) = some (r9, τ9) → AM Γ mX3_passPart (11 + D) 0 0 [vR 18, vI b0] (85, σ9) (0, r9) (85, τ9)) {n : Nat} {a0 : Int} {σ : SG} {r : Int} {τ : SG}  (h : X3_passAll_b rec n a0 σ = some (r, τ)) : AM Γ mX3_passAll (11 + (D + 1)) 0 0 [vR 18, vI a0] (85, σ) (0, r) (85, τ) := by
  refine AM.of pl_X3 rfl wC_X3_passAll (le45 rfl) hΓ ?_
  refine AW.to (ls'' := [some (vR 18), some (vI a0), none, none]) ?_ (lle_s rfl (lle_s rfl (lle_e (lle_e (lle_z)))))
  unfold X3_passAll_b at h
  refine AW.aload_n (n := 1) (dat D_X3_passAll 0 rfl) rfl rfl ?_
  refine AW.iload_n (n := 2) (dat D_X3_passAll 1 rfl) rfl rfl ?_
  obtain ⟨v2, σ3, hc1, h⟩ := bnd2_some h
  refine AW.cV (n := 5) (as := [vI a0]) (st := []) (st' := [vI v2]) (uc' := 0) (us' := 0) (hrec_passAtom hc1) cf_X3_passAtom ly_18 (le45 rfl) vc_3 (le45 rfl) wM_X3_92 (by omega) (le45 rfl) (dat D_X3_passAll 2 rfl) rfl rfl (le45 rfl) (le45 rfl) rfl (fun _ => ?_) nlt0
  refine AW.if_neH (t := 10) (n := 8) h (dat D_X3_passAll 3 rfl) rfl rfl (fun h => ?_) (fun h => ?_)
  · refine AW.iconst (n := 9) (dat D_X3_passAll 4 rfl) rfl ?_
    cases h
    exact AW.zret rfl (by decide) rfl rfl (dat D_X3_passAll 5 rfl)
  · refine AW.iconst (n := 11) (dat D_X3_passAll 6 rfl) rfl ?_
    refine AW.istore_n (n := 12) (ls' := [some (vR 18), some (vI a0), some (vI 0), none]) (dat D_X3_passAll 7 rfl) rfl (le45 rfl) (le45 rfl) rfl rfl ?_
    obtain ⟨b6, hi6, hq6⟩ := ob_some h
    have hR6 : ∀ (σ7 : SG), b6 = .inl σ7 → AW Γ mX3_passAll (11 + (D + 1)) (0, r) (85, τ) 0 0 66 [none, none, none, none] [] (85, σ7) := by
      intro σ7 e
      subst e
      have h : X3_passAll_e12 rec n σ7 = some _ := hq6
      unfold X3_passAll_e12 at h
      refine AW.iconst (n := 67) (dat D_X3_passAll 34 rfl) rfl ?_
      cases h
      exact AW.zret rfl (by decide) rfl rfl (dat D_X3_passAll 35 rfl)
    refine AW.to (ls'' := [some (vR 18), some (vI a0), some (vI 0), none]) ?_ (lle_s rfl (lle_s rfl (lle_s rfl (lle_n (lle_z)))))
    refine aw_iter (fun s : Int × SG => AW Γ mX3_passAll (11 + (D + 1)) (0, r) (85, τ) 0 0 12 [some (vR 18), some (vI a0), some (vI (s.1)), none] [] (85, s.2)) (fun s y h hk6 hb6 => ?_) _ _ hi6
    obtain ⟨z4, σ5⟩ := s
    show AW Γ mX3_passAll (11 + (D + 1)) (0, r) (85, τ) 0 0 12 [some (vR 18), some (vI a0), some (vI z4), none] [] (85, σ5)
    have h : X3_passAll_l12 rec n a0 z4 σ5 = some y := h
    unfold X3_passAll_l12 at h
    refine AW.iload_n (n := 13) (dat D_X3_passAll 8 rfl) rfl rfl ?_
    refine AW.sipush (n := 16) (dat D_X3_passAll 9 rfl) rfl (by decide) ?_
    refine AW.icmp_geH (t := 66) (n := 19) h (dat D_X3_passAll 10 rfl) rfl rfl rfl (by decide) (fun h => ?_) (fun h => ?_)
    · cases h
      have hb := hb6 _ rfl
      exact AW.to (hR6 _ hb.symm) (lle_n (lle_n (lle_n (lle_n (lle_z)))))
    · refine AW.aload_n (n := 20) (dat D_X3_passAll 11 rfl) rfl rfl ?_
      refine AW.getR (n := 23) (t := 15) fX3_0 wF_X3_9 ly_18 (le45 rfl) rfl (dat D_X3_passAll 12 rfl) rfl ?_
      refine AW.ldcS (n := 25) (j := 24) rfl (dat D_X3_passAll 13 rfl) rfl ?_
      obtain ⟨v9, σ10, hc8, h⟩ := bnd2_some h
      refine AW.cV (n := 28) (as := [vO 24]) (st := []) (st' := [vI v9]) (uc' := 0) (us' := 0) (A_X10_passWord hΓ (by decide) hc8) cf_X10_passWord ly_15 (le45 rfl) vc_10 (le45 rfl) wM_X3_70 (by omega) (le45 rfl) (dat D_X3_passAll 14 rfl) rfl rfl (le45 rfl) (le45 rfl) rfl (fun _ => ?_) nlt0
      refine AW.if_eqH (t := 66) (n := 31) h (dat D_X3_passAll 15 rfl) rfl rfl (fun h => ?_) (fun h => ?_)
      · cases h
        have hb := hb6 _ rfl
        exact AW.to (hR6 _ hb.symm) (lle_n (lle_n (lle_n (lle_n (lle_z)))))
      · refine AW.aload_n (n := 32) (dat D_X3_passAll 16 rfl) rfl rfl ?_
        refine AW.getQH h (n := 35) fX3_1 wF_X3_15 ly_18 (le45 rfl) rfl rfl (dat D_X3_passAll 17 rfl) rfl (fun k11 hpk11 h => ?_)
        refine AW.bipush (n := 37) (dat D_X3_passAll 18 rfl) rfl (by decide) ?_
        refine AW.iconst (n := 38) (dat D_X3_passAll 19 rfl) rfl ?_
        obtain ⟨v13, σ14, hc12, h⟩ := bnd2_some h
        refine AW.cV (n := 41) (as := [vI 11, vI 0]) (st := []) (st' := [vI v13]) (uc' := 0) (us' := 0) (A_X2_write hΓ hpk11 hc12) cf_X2_write (isJudge_ly0 hpk11) (by have := isJudge_lt hpk11; omega) vc_2 (le45 rfl) wM_X3_84 (by omega) (le45 rfl) (dat D_X3_passAll 20 rfl) rfl rfl (le45 rfl) (le45 rfl) rfl (fun _ => ?_) nlt0
        refine AW.istore_n (n := 42) (ls' := [some (vR 18), some (vI a0), some (vI z4), some (vI v13)]) (dat D_X3_passAll 21 rfl) rfl (le45 rfl) (le45 rfl) rfl rfl ?_
        refine AW.aload_n (n := 43) (dat D_X3_passAll 22 rfl) rfl rfl ?_
        refine AW.iload_n (n := 44) (dat D_X3_passAll 23 rfl) rfl rfl ?_
        obtain ⟨v16, σ17, hc15, h⟩ := bnd2_some h
        refine AW.cV (n := 47) (as := [vI a0]) (st := []) (st' := [vI v16]) (uc' := 0) (us' := 0) (hrec_passAtom hc15) cf_X3_passAtom ly_18 (le45 rfl) vc_3 (le45 rfl) wM_X3_92 (by omega) (le45 rfl) (dat D_X3_passAll 24 rfl) rfl rfl (le45 rfl) (le45 rfl) rfl (fun _ => ?_) nlt0
        refine AW.if_neH (t := 52) (n := 50) h (dat D_X3_passAll 25 rfl) rfl rfl (fun h => ?_) (fun h => ?_)
        · refine AW.iconst (n := 51) (dat D_X3_passAll 26 rfl) rfl ?_
          cases h
          have hb := hb6 _ rfl
          subst hb
          have h := hq6
          have h : some _ = some _ := h
          cases h
          exact AW.zret rfl (by decide) rfl rfl (dat D_X3_passAll 27 rfl)
        · refine AW.aload_n (n := 53) (dat D_X3_passAll 28 rfl) rfl rfl ?_
          refine AW.getQH h (n := 56) fX3_1 wF_X3_15 ly_18 (le45 rfl) rfl rfl (dat D_X3_passAll 29 rfl) rfl (fun k18 hpk18 h => ?_)
          refine AW.iload_n (n := 57) (dat D_X3_passAll 30 rfl) rfl rfl ?_
          obtain ⟨σ20, hc19, h⟩ := ob_some h
          refine AW.cV (n := 60) (as := [vI v13]) (st := []) (st' := []) (uc' := 0) (us' := 0) (A_X2_landHere hΓ hpk18 hc19) cf_X2_landHere (isJudge_ly0 hpk18) (by have := isJudge_lt hpk18; omega) vc_2 (le45 rfl) wM_X3_88 (by omega) (le45 rfl) (dat D_X3_passAll 31 rfl) rfl rfl (le45 rfl) (le45 rfl) rfl (fun _ => ?_) nlt0
          refine AW.iincH h (n := 63) (dat D_X3_passAll 32 rfl) rfl rfl (le45 rfl) rfl (fun x21 h => ?_)
          refine AW.lq (ls' := [some (vR 18), some (vI a0), some (vI x21), some (vI v13)]) rfl ?_
          refine AW.goto (t := 12) (dat D_X3_passAll 33 rfl) rfl ?_
          cases h
          exact AW.to (hk6 _ rfl) (lle_s rfl (lle_s rfl (lle_s rfl (lle_n (lle_z)))))
def X3_passAtom_j64 (rec : Nat → Int → SG → Option (Int × SG)) (n : Nat) (e5 : Int) (y9 : Int) (σ10 : SG) : Option (Int × SG) :=
  if w32 y9 = 0 then
    some ((wZ y9, σ10))
  else
    if w32 e5 = 0 then
      some ((wZ y9, σ10))
    else
      ckR isJudge (σ10 18 1) fun k12 =>
      bnd2 (X2_write n k12 9 0 σ10) fun v14 σ15 =>
      some ((wZ y9, σ15))
def X3_passAtom_e4 (rec : Nat → Int → SG → Option (Int × SG)) (n : Nat) (a0 : Int) (e5 : Int) (σ6 : SG) : Option (Int × SG) :=
  (X10_isSign n 40 σ6).bind fun v8 =>
  ((if w32 v8 = 0 then
    bnd2 (rec 4 a0 σ6) fun v17 σ18 =>
    some ((v17, σ18))
  else
    bnd2 (rec 3 a0 σ6) fun v20 σ21 =>
    some ((v20, σ21))) : Option (Int × SG)).bind (fun s => X3_passAtom_j64 rec n e5 s.1 s.2)
def X3_passAtom_j32 (rec : Nat → Int → SG → Option (Int × SG)) (n : Nat) (z2 : Int) (σ24 : SG) (y25 : Int) : Option ((Int × Int × SG) ⊕ (Int × SG)) :=
  lt (z2 + 1) fun x27 =>
  some (.inl (y25, x27, σ24))
def X3_passAtom_l4 (rec : Nat → Int → SG → Option (Int × SG)) (n : Nat) (z1 : Int) (z2 : Int) (σ3 : SG) : Option ((Int × Int × SG) ⊕ (Int × SG)) :=
  if 400 ≤ w32 z2 then
    some (.inr (z1, σ3))
  else
    bnd2 (X10_passWord n 23 σ3) fun v23 σ24 =>
    if w32 v23 = 0 then
      some (.inr (z1, σ24))
    else
      ((if w32 z1 = 0 then
        some (1)
      else
        some (0)) : Option (Int)).bind (fun s => X3_passAtom_j32 rec n z2 σ24 s)
def X3_passAtom_b (rec : Nat → Int → SG → Option (Int × SG)) (n : Nat) (a0 : Int) (σ : SG) : Option (Int × SG) :=
  ((iter n (fun s : Int × Int × SG => X3_passAtom_l4 rec n s.1 s.2.1 s.2.2) (0, 0, σ)) : Option (Int × SG)).bind (fun s => X3_passAtom_e4 rec n a0 s.1 s.2)
set_option maxHeartbeats 4000000 in
set_option maxRecDepth 100000 in
theorem A_X3_passAtom_b {Γ : GA} (hΓ : (gl Γ).stackTraces = false) {D : Nat} {rec : Nat → Int → SG → Option (Int × SG)} (hrec_passAny : ∀ {σ9 : SG} {b0 : Int} {r9 : Int} {τ9 : SG}, (rec 0 b0 σ9) = some (r9, τ9) → AM Γ mX3_passAny (11 + D) 0 0 [vR 18, vI b0] (85, σ9) (0, r9) (85, τ9)) (hrec_passAll : ∀ {σ9 : SG} {b0 : Int} {r9 : Int} {τ9 : SG}, (rec 1 b0 σ9) = some (r9, τ9) → AM Γ mX3_passAll (11 + D) 0 0 [vR 18, vI b0] (85, σ9) (0, r9) (85, τ9)) (hrec_passAtom : ∀ {σ9 : SG} {b0 : Int} {r9 : Int} {τ9 : SG}, (rec 2 b0 σ9) = some (r9, τ9) → AM Γ mX3_passAtom (11 + D) 0 0 [vR 18, vI b0] (85, σ9) (0, r9) (85, τ9)) (hrec_passGroup : ∀ {σ9 : SG} {b0 : Int} {r9 : Int} {τ9 : SG}, (rec 3 b0 σ9) = some (r9, τ9) → AM Γ mX3_passGroup (11 + D) 0 0 [vR 18, vI b0] (85, σ9) (0, r9) (85, τ9)) (hrec_passComparison : ∀ {σ9 : SG} {b0 : Int} {r9 : Int} {τ9 : SG}, (rec 4 b0 σ9) = some (r9, τ9) → AM Γ mX3_passComparison (11 + D) 0 0 [vR 18, vI b0] (85, σ9) (0, r9) (85, τ9)) (hrec_passSum : ∀ {σ9 : SG} {b0 : Int} {r9 : Int} {τ9 : SG}, (rec 5 b0 σ9) = some (r9, τ9) → AM Γ mX3_passSum (11 + D) 0 0 [vR 18, vI b0] (85, σ9) (0, r9) (85, τ9)) (hrec_passProduct : ∀ {σ9 : SG} {b0 : Int} {r9 : Int} {τ9 : SG}, (rec 6 b0 σ9) = some (r9, τ9) → AM Γ mX3_passProduct (11 + D) 0 0 [vR 18, vI b0] (85, σ9) (0, r9) (85, τ9)) (hrec_passPart : ∀ {σ9 : SG} {b0 : Int} {r9 : Int} {τ9 : SG}, (rec 7 b0 σ9) = some (r9, τ9) → AM Γ mX3_passPart (11 + D) 0 0 [vR 18, vI b0] (85, σ9) (0, r9) (85, τ9)) {n : Nat} {a0 : Int} {σ : SG} {r : Int} {τ : SG}  (h : X3_passAtom_b rec n a0 σ = some (r, τ)) : AM Γ mX3_passAtom (11 + (D + 1)) 0 0 [vR 18, vI a0] (85, σ) (0, r) (85, τ) := by
  refine AM.of pl_X3 rfl wC_X3_passAtom (le45 rfl) hΓ ?_
  refine AW.to (ls'' := [some (vR 18), some (vI a0), none, none]) ?_ (lle_s rfl (lle_s rfl (lle_e (lle_e (lle_z)))))
  unfold X3_passAtom_b at h
  refine AW.iconst (n := 1) (dat D_X3_passAtom 0 rfl) rfl ?_
  refine AW.istore_n (n := 2) (ls' := [some (vR 18), some (vI a0), some (vI 0), none]) (dat D_X3_passAtom 1 rfl) rfl (le45 rfl) (le45 rfl) rfl rfl ?_
  refine AW.iconst (n := 3) (dat D_X3_passAtom 2 rfl) rfl ?_
  refine AW.istore_n (n := 4) (ls' := [some (vR 18), some (vI a0), some (vI 0), some (vI 0)]) (dat D_X3_passAtom 3 rfl) rfl (le45 rfl) (le45 rfl) rfl rfl ?_
  obtain ⟨b4, hi4, hq4⟩ := ob_some h
  obtain ⟨e5, σ6⟩ := b4
  have hR4 : AW Γ mX3_passAtom (11 + (D + 1)) (0, r) (85, τ) 0 0 39 [some (vR 18), some (vI a0), some (vI e5), none] [] (85, σ6) := by
    have h : X3_passAtom_e4 rec n a0 e5 σ6 = some _ := hq4
    unfold X3_passAtom_e4 at h
    refine AW.aload_n (n := 40) (dat D_X3_passAtom 20 rfl) rfl rfl ?_
    refine AW.getR (n := 43) (t := 15) fX3_0 wF_X3_9 ly_18 (le45 rfl) rfl (dat D_X3_passAtom 21 rfl) rfl ?_
    refine AW.bipush (n := 45) (dat D_X3_passAtom 22 rfl) rfl (by decide) ?_
    obtain ⟨v8, hc7, h⟩ := ob_some h
    refine AW.cV (n := 48) (as := [vI 40]) (st := []) (st' := [vI v8]) (uc' := 0) (us' := 0) (A_X10_isSign hΓ hc7) cf_X10_isSign ly_15 (le45 rfl) vc_10 (le45 rfl) wM_X3_99 (by omega) (le45 rfl) (dat D_X3_passAtom 23 rfl) rfl rfl (le45 rfl) (le45 rfl) rfl (fun _ => ?_) nlt0
    obtain ⟨s11, h, hq11⟩ := ob_some h
    obtain ⟨y9, σ10⟩ := s11
    have hJ11 : AW Γ mX3_passAtom (11 + (D + 1)) (0, r) (85, τ) 0 0 64 [some (vR 18), none, some (vI e5), none] [vI y9] (85, σ10) := by
      have h : X3_passAtom_j64 rec n e5 y9 σ10 = some _ := hq11
      unfold X3_passAtom_j64 at h
      refine AW.istore_n (n := 65) (ls' := [some (vR 18), none, some (vI e5), some (vI y9)]) (dat D_X3_passAtom 32 rfl) rfl (le45 rfl) (le45 rfl) rfl rfl ?_
      refine AW.iload_n (n := 66) (dat D_X3_passAtom 33 rfl) rfl rfl ?_
      refine AW.if_eqH (t := 84) (n := 69) h (dat D_X3_passAtom 34 rfl) rfl rfl (fun h => ?_) (fun h => ?_)
      · refine AW.iload_n (n := 85) (dat D_X3_passAtom 43 rfl) rfl rfl ?_
        cases h
        exact AW.zret rfl rfl rfl rfl (dat D_X3_passAtom 44 rfl)
      · refine AW.iload_n (n := 70) (dat D_X3_passAtom 35 rfl) rfl rfl ?_
        refine AW.if_eqH (t := 84) (n := 73) h (dat D_X3_passAtom 36 rfl) rfl rfl (fun h => ?_) (fun h => ?_)
        · refine AW.iload_n (n := 85) (dat D_X3_passAtom 43 rfl) rfl rfl ?_
          cases h
          exact AW.zret rfl rfl rfl rfl (dat D_X3_passAtom 44 rfl)
        · refine AW.aload_n (n := 74) (dat D_X3_passAtom 37 rfl) rfl rfl ?_
          refine AW.getQH h (n := 77) fX3_1 wF_X3_15 ly_18 (le45 rfl) rfl rfl (dat D_X3_passAtom 38 rfl) rfl (fun k12 hpk12 h => ?_)
          refine AW.bipush (n := 79) (dat D_X3_passAtom 39 rfl) rfl (by decide) ?_
          refine AW.iconst (n := 80) (dat D_X3_passAtom 40 rfl) rfl ?_
          obtain ⟨v14, σ15, hc13, h⟩ := bnd2_some h
          refine AW.cV (n := 83) (as := [vI 9, vI 0]) (st := []) (st' := [vI v14]) (uc' := 0) (us' := 0) (A_X2_write hΓ hpk12 hc13) cf_X2_write (isJudge_ly0 hpk12) (by have := isJudge_lt hpk12; omega) vc_2 (le45 rfl) wM_X3_84 (by omega) (le45 rfl) (dat D_X3_passAtom 41 rfl) rfl rfl (le45 rfl) (le45 rfl) rfl (fun _ => ?_) nlt0
          refine AW.pop (n := 84) (dat D_X3_passAtom 42 rfl) rfl (cI _) ?_
          refine AW.iload_n (n := 85) (dat D_X3_passAtom 43 rfl) rfl rfl ?_
          cases h
          exact AW.zret rfl rfl rfl rfl (dat D_X3_passAtom 44 rfl)
    refine AW.if_eqH (t := 59) (n := 51) h (dat D_X3_passAtom 24 rfl) rfl rfl (fun h => ?_) (fun h => ?_)
    · refine AW.aload_n (n := 60) (dat D_X3_passAtom 29 rfl) rfl rfl ?_
      refine AW.iload_n (n := 61) (dat D_X3_passAtom 30 rfl) rfl rfl ?_
      obtain ⟨v17, σ18, hc16, h⟩ := bnd2_some h
      refine AW.cV (n := 64) (as := [vI a0]) (st := []) (st' := [vI v17]) (uc' := 0) (us' := 0) (hrec_passComparison hc16) cf_X3_passComparison ly_18 (le45 rfl) vc_3 (le45 rfl) wM_X3_105 (by omega) (le45 rfl) (dat D_X3_passAtom 31 rfl) rfl rfl (le45 rfl) (le45 rfl) rfl (fun _ => ?_) nlt0
      cases h
      exact AW.to hJ11 (lle_s rfl (lle_n (lle_s rfl (lle_n (lle_z)))))
    · refine AW.aload_n (n := 52) (dat D_X3_passAtom 25 rfl) rfl rfl ?_
      refine AW.iload_n (n := 53) (dat D_X3_passAtom 26 rfl) rfl rfl ?_
      obtain ⟨v20, σ21, hc19, h⟩ := bnd2_some h
      refine AW.cV (n := 56) (as := [vI a0]) (st := []) (st' := [vI v20]) (uc' := 0) (us' := 0) (hrec_passGroup hc19) cf_X3_passGroup ly_18 (le45 rfl) vc_3 (le45 rfl) wM_X3_102 (by omega) (le45 rfl) (dat D_X3_passAtom 27 rfl) rfl rfl (le45 rfl) (le45 rfl) rfl (fun _ => ?_) nlt0
      refine AW.goto (t := 64) (dat D_X3_passAtom 28 rfl) rfl ?_
      cases h
      exact AW.to hJ11 (lle_s rfl (lle_n (lle_s rfl (lle_n (lle_z)))))
  refine AW.to (ls'' := [some (vR 18), some (vI a0), some (vI 0), some (vI 0)]) ?_ (lle_s rfl (lle_s rfl (lle_s rfl (lle_s rfl (lle_z)))))
  refine aw_iter (fun s : Int × Int × SG => AW Γ mX3_passAtom (11 + (D + 1)) (0, r) (85, τ) 0 0 4 [some (vR 18), some (vI a0), some (vI (s.1)), some (vI (s.2.1))] [] (85, s.2.2)) (fun s y h hk4 hb4 => ?_) _ _ hi4
  obtain ⟨z1, z2, σ3⟩ := s
  show AW Γ mX3_passAtom (11 + (D + 1)) (0, r) (85, τ) 0 0 4 [some (vR 18), some (vI a0), some (vI z1), some (vI z2)] [] (85, σ3)
  have h : X3_passAtom_l4 rec n z1 z2 σ3 = some y := h
  unfold X3_passAtom_l4 at h
  refine AW.iload_n (n := 5) (dat D_X3_passAtom 4 rfl) rfl rfl ?_
  refine AW.sipush (n := 8) (dat D_X3_passAtom 5 rfl) rfl (by decide) ?_
  refine AW.icmp_geH (t := 39) (n := 11) h (dat D_X3_passAtom 6 rfl) rfl rfl rfl (by decide) (fun h => ?_) (fun h => ?_)
  · cases h
    have hb := hb4 _ rfl
    cases hb
    exact AW.to hR4 (lle_s rfl (lle_s rfl (lle_s rfl (lle_n (lle_z)))))
  · refine AW.aload_n (n := 12) (dat D_X3_passAtom 7 rfl) rfl rfl ?_
    refine AW.getR (n := 15) (t := 15) fX3_0 wF_X3_9 ly_18 (le45 rfl) rfl (dat D_X3_passAtom 8 rfl) rfl ?_
    refine AW.ldcS (n := 17) (j := 23) rfl (dat D_X3_passAtom 9 rfl) rfl ?_
    obtain ⟨v23, σ24, hc22, h⟩ := bnd2_some h
    refine AW.cV (n := 20) (as := [vO 23]) (st := []) (st' := [vI v23]) (uc' := 0) (us' := 0) (A_X10_passWord hΓ (by decide) hc22) cf_X10_passWord ly_15 (le45 rfl) vc_10 (le45 rfl) wM_X3_70 (by omega) (le45 rfl) (dat D_X3_passAtom 10 rfl) rfl rfl (le45 rfl) (le45 rfl) rfl (fun _ => ?_) nlt0
    refine AW.if_eqH (t := 39) (n := 23) h (dat D_X3_passAtom 11 rfl) rfl rfl (fun h => ?_) (fun h => ?_)
    · cases h
      have hb := hb4 _ rfl
      cases hb
      exact AW.to hR4 (lle_s rfl (lle_s rfl (lle_s rfl (lle_n (lle_z)))))
    · refine AW.iload_n (n := 24) (dat D_X3_passAtom 12 rfl) rfl rfl ?_
      obtain ⟨s26, h, hq26⟩ := ob_some h
      obtain ⟨y25, e26⟩ : ∃ z, z = s26 := ⟨_, rfl⟩
      subst e26
      have hJ26 : AW Γ mX3_passAtom (11 + (D + 1)) (0, r) (85, τ) 0 0 32 [some (vR 18), some (vI a0), none, some (vI z2)] [vI y25] (85, σ24) := by
        have h : X3_passAtom_j32 rec n z2 σ24 y25 = some _ := hq26
        unfold X3_passAtom_j32 at h
        refine AW.istore_n (n := 33) (ls' := [some (vR 18), some (vI a0), some (vI y25), some (vI z2)]) (dat D_X3_passAtom 17 rfl) rfl (le45 rfl) (le45 rfl) rfl rfl ?_
        refine AW.iincH h (n := 36) (dat D_X3_passAtom 18 rfl) rfl rfl (le45 rfl) rfl (fun x27 h => ?_)
        refine AW.lq (ls' := [some (vR 18), some (vI a0), some (vI y25), some (vI x27)]) rfl ?_
        refine AW.goto (t := 4) (dat D_X3_passAtom 19 rfl) rfl ?_
        cases h
        exact AW.to (hk4 _ rfl) (lle_s rfl (lle_s rfl (lle_s rfl (lle_s rfl (lle_z)))))
      refine AW.if_neH (t := 31) (n := 27) h (dat D_X3_passAtom 13 rfl) rfl rfl (fun h => ?_) (fun h => ?_)
      · refine AW.iconst (n := 28) (dat D_X3_passAtom 14 rfl) rfl ?_
        refine AW.goto (t := 32) (dat D_X3_passAtom 15 rfl) rfl ?_
        cases h
        exact AW.to hJ26 (lle_s rfl (lle_s rfl (lle_n (lle_s rfl (lle_z)))))
      · refine AW.iconst (n := 32) (dat D_X3_passAtom 16 rfl) rfl ?_
        cases h
        exact AW.to hJ26 (lle_s rfl (lle_s rfl (lle_n (lle_s rfl (lle_z)))))
def X3_passGroup_b (rec : Nat → Int → SG → Option (Int × SG)) (n : Nat) (a0 : Int) (σ : SG) : Option (Int × SG) :=
  if w32 a0 < 6 then
    (X10_advance n σ).bind fun σ2 =>
    bnd2 (rec 0 (a0 + 1) σ2) fun v4 σ5 =>
    if w32 v4 = 0 then
      some ((0, σ5))
    else
      bnd2 (X10_passSign n 41 σ5) fun v7 σ8 =>
      if w32 v7 = 0 then
        some ((0, σ8))
      else
        some ((1, σ8))
  else
    some ((0, σ))
set_option maxHeartbeats 4000000 in
set_option maxRecDepth 100000 in
theorem A_X3_passGroup_b {Γ : GA} (hΓ : (gl Γ).stackTraces = false) {D : Nat} {rec : Nat → Int → SG → Option (Int × SG)} (hrec_passAny : ∀ {σ9 : SG} {b0 : Int} {r9 : Int} {τ9 : SG}, (rec 0 b0 σ9) = some (r9, τ9) → AM Γ mX3_passAny (11 + D) 0 0 [vR 18, vI b0] (85, σ9) (0, r9) (85, τ9)) (hrec_passAll : ∀ {σ9 : SG} {b0 : Int} {r9 : Int} {τ9 : SG}, (rec 1 b0 σ9) = some (r9, τ9) → AM Γ mX3_passAll (11 + D) 0 0 [vR 18, vI b0] (85, σ9) (0, r9) (85, τ9)) (hrec_passAtom : ∀ {σ9 : SG} {b0 : Int} {r9 : Int} {τ9 : SG}, (rec 2 b0 σ9) = some (r9, τ9) → AM Γ mX3_passAtom (11 + D) 0 0 [vR 18, vI b0] (85, σ9) (0, r9) (85, τ9)) (hrec_passGroup : ∀ {σ9 : SG} {b0 : Int} {r9 : Int} {τ9 : SG}, (rec 3 b0 σ9) = some (r9, τ9) → AM Γ mX3_passGroup (11 + D) 0 0 [vR 18, vI b0] (85, σ9) (0, r9) (85, τ9)) (hrec_passComparison : ∀ {σ9 : SG} {b0 : Int} {r9 : Int} {τ9 : SG}, (rec 4 b0 σ9) = some (r9, τ9) → AM Γ mX3_passComparison (11 + D) 0 0 [vR 18, vI b0] (85, σ9) (0, r9) (85, τ9)) (hrec_passSum : ∀ {σ9 : SG} {b0 : Int} {r9 : Int} {τ9 : SG}, (rec 5 b0 σ9) = some (r9, τ9) → AM Γ mX3_passSum (11 + D) 0 0 [vR 18, vI b0] (85, σ9) (0, r9) (85, τ9)) (hrec_passProduct : ∀ {σ9 : SG} {b0 : Int} {r9 : Int} {τ9 : SG}, (rec 6 b0 σ9) = some (r9, τ9) → AM Γ mX3_passProduct (11 + D) 0 0 [vR 18, vI b0] (85, σ9) (0, r9) (85, τ9)) (hrec_passPart : ∀ {σ9 : SG} {b0 : Int} {r9 : Int} {τ9 : SG}, (rec 7 b0 σ9) = some (r9, τ9) → AM Γ mX3_passPart (11 + D) 0 0 [vR 18, vI b0] (85, σ9) (0, r9) (85, τ9)) {n : Nat} {a0 : Int} {σ : SG} {r : Int} {τ : SG}  (h : X3_passGroup_b rec n a0 σ = some (r, τ)) : AM Γ mX3_passGroup (11 + (D + 1)) 0 0 [vR 18, vI a0] (85, σ) (0, r) (85, τ) := by
  refine AM.of pl_X3 rfl wC_X3_passGroup (le45 rfl) hΓ ?_
  refine AW.to (ls'' := [some (vR 18), some (vI a0)]) ?_ (lle_s rfl (lle_s rfl (lle_z)))
  unfold X3_passGroup_b at h
  refine AW.iload_n (n := 1) (dat D_X3_passGroup 0 rfl) rfl rfl ?_
  refine AW.bipush (n := 3) (dat D_X3_passGroup 1 rfl) rfl (by decide) ?_
  refine AW.icmp_ltH (t := 8) (n := 6) h (dat D_X3_passGroup 2 rfl) rfl rfl rfl (by decide) (fun h => ?_) (fun h => ?_)
  · refine AW.aload_n (n := 9) (dat D_X3_passGroup 5 rfl) rfl rfl ?_
    refine AW.getR (n := 12) (t := 15) fX3_0 wF_X3_9 ly_18 (le45 rfl) rfl (dat D_X3_passGroup 6 rfl) rfl ?_
    obtain ⟨σ2, hc1, h⟩ := ob_some h
    refine AW.cV (n := 15) (as := []) (st := []) (st' := []) (uc' := 0) (us' := 0) (A_X10_advance hΓ hc1) cf_X10_advance ly_15 (le45 rfl) vc_10 (le45 rfl) wM_X3_55 (by omega) (le45 rfl) (dat D_X3_passGroup 7 rfl) rfl rfl (le45 rfl) (le45 rfl) rfl (fun _ => ?_) nlt0
    refine AW.aload_n (n := 16) (dat D_X3_passGroup 8 rfl) rfl rfl ?_
    refine AW.iload_n (n := 17) (dat D_X3_passGroup 9 rfl) rfl rfl ?_
    refine AW.iconst (n := 18) (dat D_X3_passGroup 10 rfl) rfl ?_
    refine AW.iadd (n := 19) (dat D_X3_passGroup 11 rfl) rfl ?_
    obtain ⟨v4, σ5, hc3, h⟩ := bnd2_some h
    refine AW.cV (n := 22) (as := [vI (a0 + 1)]) (st := []) (st' := [vI v4]) (uc' := 0) (us' := 0) (hrec_passAny hc3) cf_X3_passAny ly_18 (le45 rfl) vc_3 (le45 rfl) wM_X3_73 (by omega) (le45 rfl) (dat D_X3_passGroup 12 rfl) rfl rfl (le45 rfl) (le45 rfl) rfl (fun _ => ?_) nlt0
    refine AW.if_eqH (t := 41) (n := 25) h (dat D_X3_passGroup 13 rfl) rfl rfl (fun h => ?_) (fun h => ?_)
    · refine AW.iconst (n := 42) (dat D_X3_passGroup 21 rfl) rfl ?_
      cases h
      exact AW.zret rfl (by decide) rfl rfl (dat D_X3_passGroup 22 rfl)
    · refine AW.aload_n (n := 26) (dat D_X3_passGroup 14 rfl) rfl rfl ?_
      refine AW.getR (n := 29) (t := 15) fX3_0 wF_X3_9 ly_18 (le45 rfl) rfl (dat D_X3_passGroup 15 rfl) rfl ?_
      refine AW.bipush (n := 31) (dat D_X3_passGroup 16 rfl) rfl (by decide) ?_
      obtain ⟨v7, σ8, hc6, h⟩ := bnd2_some h
      refine AW.cV (n := 34) (as := [vI 41]) (st := []) (st' := [vI v7]) (uc' := 0) (us' := 0) (A_X10_passSign hΓ hc6) cf_X10_passSign ly_15 (le45 rfl) vc_10 (le45 rfl) wM_X3_40 (by omega) (le45 rfl) (dat D_X3_passGroup 17 rfl) rfl rfl (le45 rfl) (le45 rfl) rfl (fun _ => ?_) nlt0
      refine AW.if_eqH (t := 41) (n := 37) h (dat D_X3_passGroup 18 rfl) rfl rfl (fun h => ?_) (fun h => ?_)
      · refine AW.iconst (n := 42) (dat D_X3_passGroup 21 rfl) rfl ?_
        cases h
        exact AW.zret rfl (by decide) rfl rfl (dat D_X3_passGroup 22 rfl)
      · refine AW.iconst (n := 38) (dat D_X3_passGroup 19 rfl) rfl ?_
        refine AW.goto (t := 42) (dat D_X3_passGroup 20 rfl) rfl ?_
        cases h
        exact AW.zret rfl (by decide) rfl rfl (dat D_X3_passGroup 22 rfl)
  · refine AW.iconst (n := 7) (dat D_X3_passGroup 3 rfl) rfl ?_
    cases h
    exact AW.zret rfl (by decide) rfl rfl (dat D_X3_passGroup 4 rfl)
def X3_passComparison_j62 (rec : Nat → Int → SG → Option (Int × SG)) (n : Nat) (σ3 : SG) (a0 : Int) (y6 : Int) : Option (Int × SG) :=
  if w32 y6 = (-1) then
    some ((0, σ3))
  else
    (X10_advance n σ3).bind fun σ9 =>
    bnd2 (rec 5 a0 σ9) fun v11 σ12 =>
    if w32 v11 = 0 then
      some ((0, σ12))
    else
      ckR isJudge (σ12 18 1) fun k13 =>
      bnd2 (X2_write n k13 y6 0 σ12) fun v15 σ16 =>
      some ((1, σ16))
def X3_passComparison_b (rec : Nat → Int → SG → Option (Int × SG)) (n : Nat) (a0 : Int) (σ : SG) : Option (Int × SG) :=
  bnd2 (rec 5 a0 σ) fun v2 σ3 =>
  if w32 v2 = 0 then
    some ((0, σ3))
  else
    (X10_isSign n 60 σ3).bind fun v5 =>
    ((if w32 v5 = 0 then
      (X10_isSign n 61 σ3).bind fun v18 =>
      if w32 v18 = 0 then
        (X10_isSign n 62 σ3).bind fun v20 =>
        if w32 v20 = 0 then
          some ((-1))
        else
          some (8)
      else
        some (7)
    else
      some (6)) : Option (Int)).bind (fun s => X3_passComparison_j62 rec n σ3 a0 s)
set_option maxHeartbeats 4000000 in
set_option maxRecDepth 100000 in
theorem A_X3_passComparison_b {Γ : GA} (hΓ : (gl Γ).stackTraces = false) {D : Nat} {rec : Nat → Int → SG → Option (Int × SG)} (hrec_passAny : ∀ {σ9 : SG} {b0 : Int} {r9 : Int} {τ9 : SG}, (rec 0 b0 σ9) = some (r9, τ9) → AM Γ mX3_passAny (11 + D) 0 0 [vR 18, vI b0] (85, σ9) (0, r9) (85, τ9)) (hrec_passAll : ∀ {σ9 : SG} {b0 : Int} {r9 : Int} {τ9 : SG}, (rec 1 b0 σ9) = some (r9, τ9) → AM Γ mX3_passAll (11 + D) 0 0 [vR 18, vI b0] (85, σ9) (0, r9) (85, τ9)) (hrec_passAtom : ∀ {σ9 : SG} {b0 : Int} {r9 : Int} {τ9 : SG}, (rec 2 b0 σ9) = some (r9, τ9) → AM Γ mX3_passAtom (11 + D) 0 0 [vR 18, vI b0] (85, σ9) (0, r9) (85, τ9)) (hrec_passGroup : ∀ {σ9 : SG} {b0 : Int} {r9 : Int} {τ9 : SG}, (rec 3 b0 σ9) = some (r9, τ9) → AM Γ mX3_passGroup (11 + D) 0 0 [vR 18, vI b0] (85, σ9) (0, r9) (85, τ9)) (hrec_passComparison : ∀ {σ9 : SG} {b0 : Int} {r9 : Int} {τ9 : SG}, (rec 4 b0 σ9) = some (r9, τ9) → AM Γ mX3_passComparison (11 + D) 0 0 [vR 18, vI b0] (85, σ9) (0, r9) (85, τ9)) (hrec_passSum : ∀ {σ9 : SG} {b0 : Int} {r9 : Int} {τ9 : SG}, (rec 5 b0 σ9) = some (r9, τ9) → AM Γ mX3_passSum (11 + D) 0 0 [vR 18, vI b0] (85, σ9) (0, r9) (85, τ9)) (hrec_passProduct : ∀ {σ9 : SG} {b0 : Int} {r9 : Int} {τ9 : SG}, (rec 6 b0 σ9) = some (r9, τ9) → AM Γ mX3_passProduct (11 + D) 0 0 [vR 18, vI b0] (85, σ9) (0, r9) (85, τ9)) (hrec_passPart : ∀ {σ9 : SG} {b0 : Int} {r9 : Int} {τ9 : SG}, (rec 7 b0 σ9) = some (r9, τ9) → AM Γ mX3_passPart (11 + D) 0 0 [vR 18, vI b0] (85, σ9) (0, r9) (85, τ9)) {n : Nat} {a0 : Int} {σ : SG} {r : Int} {τ : SG}  (h : X3_passComparison_b rec n a0 σ = some (r, τ)) : AM Γ mX3_passComparison (11 + (D + 1)) 0 0 [vR 18, vI a0] (85, σ) (0, r) (85, τ) := by
  refine AM.of pl_X3 rfl wC_X3_passComparison (le45 rfl) hΓ ?_
  refine AW.to (ls'' := [some (vR 18), some (vI a0), none]) ?_ (lle_s rfl (lle_s rfl (lle_e (lle_z))))
  unfold X3_passComparison_b at h
  refine AW.aload_n (n := 1) (dat D_X3_passComparison 0 rfl) rfl rfl ?_
  refine AW.iload_n (n := 2) (dat D_X3_passComparison 1 rfl) rfl rfl ?_
  obtain ⟨v2, σ3, hc1, h⟩ := bnd2_some h
  refine AW.cV (n := 5) (as := [vI a0]) (st := []) (st' := [vI v2]) (uc' := 0) (us' := 0) (hrec_passSum hc1) cf_X3_passSum ly_18 (le45 rfl) vc_3 (le45 rfl) wM_X3_62 (by omega) (le45 rfl) (dat D_X3_passComparison 2 rfl) rfl rfl (le45 rfl) (le45 rfl) rfl (fun _ => ?_) nlt0
  refine AW.if_neH (t := 10) (n := 8) h (dat D_X3_passComparison 3 rfl) rfl rfl (fun h => ?_) (fun h => ?_)
  · refine AW.iconst (n := 9) (dat D_X3_passComparison 4 rfl) rfl ?_
    cases h
    exact AW.zret rfl (by decide) rfl rfl (dat D_X3_passComparison 5 rfl)
  · refine AW.aload_n (n := 11) (dat D_X3_passComparison 6 rfl) rfl rfl ?_
    refine AW.getR (n := 14) (t := 15) fX3_0 wF_X3_9 ly_18 (le45 rfl) rfl (dat D_X3_passComparison 7 rfl) rfl ?_
    refine AW.bipush (n := 16) (dat D_X3_passComparison 8 rfl) rfl (by decide) ?_
    obtain ⟨v5, hc4, h⟩ := ob_some h
    refine AW.cV (n := 19) (as := [vI 60]) (st := []) (st' := [vI v5]) (uc' := 0) (us' := 0) (A_X10_isSign hΓ hc4) cf_X10_isSign ly_15 (le45 rfl) vc_10 (le45 rfl) wM_X3_99 (by omega) (le45 rfl) (dat D_X3_passComparison 9 rfl) rfl rfl (le45 rfl) (le45 rfl) rfl (fun _ => ?_) nlt0
    obtain ⟨s7, h, hq7⟩ := ob_some h
    obtain ⟨y6, e7⟩ : ∃ z, z = s7 := ⟨_, rfl⟩
    subst e7
    have hJ7 : AW Γ mX3_passComparison (11 + (D + 1)) (0, r) (85, τ) 0 0 62 [some (vR 18), some (vI a0), none] [vI y6] (85, σ3) := by
      have h : X3_passComparison_j62 rec n σ3 a0 y6 = some _ := hq7
      unfold X3_passComparison_j62 at h
      refine AW.istore_n (n := 63) (ls' := [some (vR 18), some (vI a0), some (vI y6)]) (dat D_X3_passComparison 28 rfl) rfl (le45 rfl) (le45 rfl) rfl rfl ?_
      refine AW.iload_n (n := 64) (dat D_X3_passComparison 29 rfl) rfl rfl ?_
      refine AW.iconst (n := 65) (dat D_X3_passComparison 30 rfl) rfl ?_
      refine AW.icmp_neH (t := 70) (n := 68) h (dat D_X3_passComparison 31 rfl) rfl rfl rfl (by decide) (fun h => ?_) (fun h => ?_)
      · refine AW.iconst (n := 69) (dat D_X3_passComparison 32 rfl) rfl ?_
        cases h
        exact AW.zret rfl (by decide) rfl rfl (dat D_X3_passComparison 33 rfl)
      · refine AW.aload_n (n := 71) (dat D_X3_passComparison 34 rfl) rfl rfl ?_
        refine AW.getR (n := 74) (t := 15) fX3_0 wF_X3_9 ly_18 (le45 rfl) rfl (dat D_X3_passComparison 35 rfl) rfl ?_
        obtain ⟨σ9, hc8, h⟩ := ob_some h
        refine AW.cV (n := 77) (as := []) (st := []) (st' := []) (uc' := 0) (us' := 0) (A_X10_advance hΓ hc8) cf_X10_advance ly_15 (le45 rfl) vc_10 (le45 rfl) wM_X3_55 (by omega) (le45 rfl) (dat D_X3_passComparison 36 rfl) rfl rfl (le45 rfl) (le45 rfl) rfl (fun _ => ?_) nlt0
        refine AW.aload_n (n := 78) (dat D_X3_passComparison 37 rfl) rfl rfl ?_
        refine AW.iload_n (n := 79) (dat D_X3_passComparison 38 rfl) rfl rfl ?_
        obtain ⟨v11, σ12, hc10, h⟩ := bnd2_some h
        refine AW.cV (n := 82) (as := [vI a0]) (st := []) (st' := [vI v11]) (uc' := 0) (us' := 0) (hrec_passSum hc10) cf_X3_passSum ly_18 (le45 rfl) vc_3 (le45 rfl) wM_X3_62 (by omega) (le45 rfl) (dat D_X3_passComparison 39 rfl) rfl rfl (le45 rfl) (le45 rfl) rfl (fun _ => ?_) nlt0
        refine AW.if_neH (t := 87) (n := 85) h (dat D_X3_passComparison 40 rfl) rfl rfl (fun h => ?_) (fun h => ?_)
        · refine AW.iconst (n := 86) (dat D_X3_passComparison 41 rfl) rfl ?_
          cases h
          exact AW.zret rfl (by decide) rfl rfl (dat D_X3_passComparison 42 rfl)
        · refine AW.aload_n (n := 88) (dat D_X3_passComparison 43 rfl) rfl rfl ?_
          refine AW.getQH h (n := 91) fX3_1 wF_X3_15 ly_18 (le45 rfl) rfl rfl (dat D_X3_passComparison 44 rfl) rfl (fun k13 hpk13 h => ?_)
          refine AW.iload_n (n := 92) (dat D_X3_passComparison 45 rfl) rfl rfl ?_
          refine AW.iconst (n := 93) (dat D_X3_passComparison 46 rfl) rfl ?_
          obtain ⟨v15, σ16, hc14, h⟩ := bnd2_some h
          refine AW.cV (n := 96) (as := [vI y6, vI 0]) (st := []) (st' := [vI v15]) (uc' := 0) (us' := 0) (A_X2_write hΓ hpk13 hc14) cf_X2_write (isJudge_ly0 hpk13) (by have := isJudge_lt hpk13; omega) vc_2 (le45 rfl) wM_X3_84 (by omega) (le45 rfl) (dat D_X3_passComparison 47 rfl) rfl rfl (le45 rfl) (le45 rfl) rfl (fun _ => ?_) nlt0
          refine AW.pop (n := 97) (dat D_X3_passComparison 48 rfl) rfl (cI _) ?_
          refine AW.iconst (n := 98) (dat D_X3_passComparison 49 rfl) rfl ?_
          cases h
          exact AW.zret rfl (by decide) rfl rfl (dat D_X3_passComparison 50 rfl)
    refine AW.if_eqH (t := 27) (n := 22) h (dat D_X3_passComparison 10 rfl) rfl rfl (fun h => ?_) (fun h => ?_)
    · refine AW.aload_n (n := 28) (dat D_X3_passComparison 13 rfl) rfl rfl ?_
      refine AW.getR (n := 31) (t := 15) fX3_0 wF_X3_9 ly_18 (le45 rfl) rfl (dat D_X3_passComparison 14 rfl) rfl ?_
      refine AW.bipush (n := 33) (dat D_X3_passComparison 15 rfl) rfl (by decide) ?_
      obtain ⟨v18, hc17, h⟩ := ob_some h
      refine AW.cV (n := 36) (as := [vI 61]) (st := []) (st' := [vI v18]) (uc' := 0) (us' := 0) (A_X10_isSign hΓ hc17) cf_X10_isSign ly_15 (le45 rfl) vc_10 (le45 rfl) wM_X3_99 (by omega) (le45 rfl) (dat D_X3_passComparison 16 rfl) rfl rfl (le45 rfl) (le45 rfl) rfl (fun _ => ?_) nlt0
      refine AW.if_eqH (t := 44) (n := 39) h (dat D_X3_passComparison 17 rfl) rfl rfl (fun h => ?_) (fun h => ?_)
      · refine AW.aload_n (n := 45) (dat D_X3_passComparison 20 rfl) rfl rfl ?_
        refine AW.getR (n := 48) (t := 15) fX3_0 wF_X3_9 ly_18 (le45 rfl) rfl (dat D_X3_passComparison 21 rfl) rfl ?_
        refine AW.bipush (n := 50) (dat D_X3_passComparison 22 rfl) rfl (by decide) ?_
        obtain ⟨v20, hc19, h⟩ := ob_some h
        refine AW.cV (n := 53) (as := [vI 62]) (st := []) (st' := [vI v20]) (uc' := 0) (us' := 0) (A_X10_isSign hΓ hc19) cf_X10_isSign ly_15 (le45 rfl) vc_10 (le45 rfl) wM_X3_99 (by omega) (le45 rfl) (dat D_X3_passComparison 23 rfl) rfl rfl (le45 rfl) (le45 rfl) rfl (fun _ => ?_) nlt0
        refine AW.if_eqH (t := 61) (n := 56) h (dat D_X3_passComparison 24 rfl) rfl rfl (fun h => ?_) (fun h => ?_)
        · refine AW.iconst (n := 62) (dat D_X3_passComparison 27 rfl) rfl ?_
          cases h
          exact AW.to hJ7 (lle_s rfl (lle_s rfl (lle_n (lle_z))))
        · refine AW.bipush (n := 58) (dat D_X3_passComparison 25 rfl) rfl (by decide) ?_
          refine AW.goto (t := 62) (dat D_X3_passComparison 26 rfl) rfl ?_
          cases h
          exact AW.to hJ7 (lle_s rfl (lle_s rfl (lle_n (lle_z))))
      · refine AW.bipush (n := 41) (dat D_X3_passComparison 18 rfl) rfl (by decide) ?_
        refine AW.goto (t := 62) (dat D_X3_passComparison 19 rfl) rfl ?_
        cases h
        exact AW.to hJ7 (lle_s rfl (lle_s rfl (lle_n (lle_z))))
    · refine AW.bipush (n := 24) (dat D_X3_passComparison 11 rfl) rfl (by decide) ?_
      refine AW.goto (t := 62) (dat D_X3_passComparison 12 rfl) rfl ?_
      cases h
      exact AW.to hJ7 (lle_s rfl (lle_s rfl (lle_n (lle_z))))
def X3_passSum_e12 (rec : Nat → Int → SG → Option (Int × SG)) (n : Nat) (σ7 : SG) : Option (Int × SG) :=
  some ((1, σ7))
def X3_passSum_j60 (rec : Nat → Int → SG → Option (Int × SG)) (n : Nat) (σ5 : SG) (a0 : Int) (z4 : Int) (y12 : Int) : Option ((Int × SG) ⊕ ((SG) ⊕ (Int × SG))) :=
  (X10_advance n σ5).bind fun σ15 =>
  bnd2 (rec 6 a0 σ15) fun v17 σ18 =>
  if w32 v17 = 0 then
    some (.inr (.inr (0, σ18)))
  else
    ckR isJudge (σ18 18 1) fun k19 =>
    bnd2 (X2_write n k19 y12 0 σ18) fun v21 σ22 =>
    lt (z4 + 1) fun x23 =>
    some (.inl (x23, σ22))
def X3_passSum_j60x (rec : Nat → Int → SG → Option (Int × SG)) (n : Nat) (σ5 : SG) (a0 : Int) (z4 : Int) (y28 : Int) : Option ((Int × SG) ⊕ ((SG) ⊕ (Int × SG))) :=
  (X10_advance n σ5).bind fun σ31 =>
  bnd2 (rec 6 a0 σ31) fun v33 σ34 =>
  if w32 v33 = 0 then
    some (.inr (.inr (0, σ34)))
  else
    ckR isJudge (σ34 18 1) fun k35 =>
    bnd2 (X2_write n k35 y28 0 σ34) fun v37 σ38 =>
    lt (z4 + 1) fun x39 =>
    some (.inl (x39, σ38))
def X3_passSum_l12 (rec : Nat → Int → SG → Option (Int × SG)) (n : Nat) (a0 : Int) (z4 : Int) (σ5 : SG) : Option ((Int × SG) ⊕ ((SG) ⊕ (Int × SG))) :=
  if 400 ≤ w32 z4 then
    some (.inr (.inl σ5))
  else
    (X10_isSign n 43 σ5).bind fun v9 =>
    if w32 v9 = 0 then
      (X10_isSign n 45 σ5).bind fun v25 =>
      if w32 v25 = 0 then
        some (.inr (.inl σ5))
      else
        (X10_isSign n 43 σ5).bind fun v27 =>
        ((if w32 v27 = 0 then
          some (3)
        else
          some (2)) : Option (Int)).bind (fun s => X3_passSum_j60x rec n σ5 a0 z4 s)
    else
      (X10_isSign n 43 σ5).bind fun v11 =>
      ((if w32 v11 = 0 then
        some (3)
      else
        some (2)) : Option (Int)).bind (fun s => X3_passSum_j60 rec n σ5 a0 z4 s)
def X3_passSum_b (rec : Nat → Int → SG → Option (Int × SG)) (n : Nat) (a0 : Int) (σ : SG) : Option (Int × SG) :=
  bnd2 (rec 6 a0 σ) fun v2 σ3 =>
  if w32 v2 = 0 then
    some ((0, σ3))
  else
    ((iter n (fun s : Int × SG => X3_passSum_l12 rec n a0 s.1 s.2) (0, σ3)) : Option ((SG) ⊕ (Int × SG))).bind (orr (fun s => X3_passSum_e12 rec n s))
set_option maxHeartbeats 4000000 in
set_option maxRecDepth 100000 in
theorem A_X3_passSum_b {Γ : GA} (hΓ : (gl Γ).stackTraces = false) {D : Nat} {rec : Nat → Int → SG → Option (Int × SG)} (hrec_passAny : ∀ {σ9 : SG} {b0 : Int} {r9 : Int} {τ9 : SG}, (rec 0 b0 σ9) = some (r9, τ9) → AM Γ mX3_passAny (11 + D) 0 0 [vR 18, vI b0] (85, σ9) (0, r9) (85, τ9)) (hrec_passAll : ∀ {σ9 : SG} {b0 : Int} {r9 : Int} {τ9 : SG}, (rec 1 b0 σ9) = some (r9, τ9) → AM Γ mX3_passAll (11 + D) 0 0 [vR 18, vI b0] (85, σ9) (0, r9) (85, τ9)) (hrec_passAtom : ∀ {σ9 : SG} {b0 : Int} {r9 : Int} {τ9 : SG}, (rec 2 b0 σ9) = some (r9, τ9) → AM Γ mX3_passAtom (11 + D) 0 0 [vR 18, vI b0] (85, σ9) (0, r9) (85, τ9)) (hrec_passGroup : ∀ {σ9 : SG} {b0 : Int} {r9 : Int} {τ9 : SG}, (rec 3 b0 σ9) = some (r9, τ9) → AM Γ mX3_passGroup (11 + D) 0 0 [vR 18, vI b0] (85, σ9) (0, r9) (85, τ9)) (hrec_passComparison : ∀ {σ9 : SG} {b0 : Int} {r9 : Int} {τ9 : SG}, (rec 4 b0 σ9) = some (r9, τ9) → AM Γ mX3_passComparison (11 + D) 0 0 [vR 18, vI b0] (85, σ9) (0, r9) (85, τ9)) (hrec_passSum : ∀ {σ9 : SG} {b0 : Int} {r9 : Int} {τ9 : SG}, (rec 5 b0 σ9) = some (r9, τ9) → AM Γ mX3_passSum (11 + D) 0 0 [vR 18, vI b0] (85, σ9) (0, r9) (85, τ9)) (hrec_passProduct : ∀ {σ9 : SG} {b0 : Int} {r9 : Int} {τ9 : SG}, (rec 6 b0 σ9) = some (r9, τ9) → AM Γ mX3_passProduct (11 + D) 0 0 [vR 18, vI b0] (85, σ9) (0, r9) (85, τ9)) (hrec_passPart : ∀ {σ9 : SG} {b0 : Int} {r9 : Int} {τ9 : SG}, (rec 7 b0 σ9) = some (r9, τ9) → AM Γ mX3_passPart (11 + D) 0 0 [vR 18, vI b0] (85, σ9) (0, r9) (85, τ9)) {n : Nat} {a0 : Int} {σ : SG} {r : Int} {τ : SG}  (h : X3_passSum_b rec n a0 σ = some (r, τ)) : AM Γ mX3_passSum (11 + (D + 1)) 0 0 [vR 18, vI a0] (85, σ) (0, r) (85, τ) := by
  refine AM.of pl_X3 rfl wC_X3_passSum (le45 rfl) hΓ ?_
  refine AW.to (ls'' := [some (vR 18), some (vI a0), none, none]) ?_ (lle_s rfl (lle_s rfl (lle_e (lle_e (lle_z)))))
  unfold X3_passSum_b at h
  refine AW.aload_n (n := 1) (dat D_X3_passSum 0 rfl) rfl rfl ?_
  refine AW.iload_n (n := 2) (dat D_X3_passSum 1 rfl) rfl rfl ?_
  obtain ⟨v2, σ3, hc1, h⟩ := bnd2_some h
  refine AW.cV (n := 5) (as := [vI a0]) (st := []) (st' := [vI v2]) (uc' := 0) (us' := 0) (hrec_passProduct hc1) cf_X3_passProduct ly_18 (le45 rfl) vc_3 (le45 rfl) wM_X3_108 (by omega) (le45 rfl) (dat D_X3_passSum 2 rfl) rfl rfl (le45 rfl) (le45 rfl) rfl (fun _ => ?_) nlt0
  refine AW.if_neH (t := 10) (n := 8) h (dat D_X3_passSum 3 rfl) rfl rfl (fun h => ?_) (fun h => ?_)
  · refine AW.iconst (n := 9) (dat D_X3_passSum 4 rfl) rfl ?_
    cases h
    exact AW.zret rfl (by decide) rfl rfl (dat D_X3_passSum 5 rfl)
  · refine AW.iconst (n := 11) (dat D_X3_passSum 6 rfl) rfl ?_
    refine AW.istore_n (n := 12) (ls' := [some (vR 18), some (vI a0), some (vI 0), none]) (dat D_X3_passSum 7 rfl) rfl (le45 rfl) (le45 rfl) rfl rfl ?_
    obtain ⟨b6, hi6, hq6⟩ := ob_some h
    have hR6 : ∀ (σ7 : SG), b6 = .inl σ7 → AW Γ mX3_passSum (11 + (D + 1)) (0, r) (85, τ) 0 0 94 [none, none, none, none] [] (85, σ7) := by
      intro σ7 e
      subst e
      have h : X3_passSum_e12 rec n σ7 = some _ := hq6
      unfold X3_passSum_e12 at h
      refine AW.iconst (n := 95) (dat D_X3_passSum 47 rfl) rfl ?_
      cases h
      exact AW.zret rfl (by decide) rfl rfl (dat D_X3_passSum 48 rfl)
    refine AW.to (ls'' := [some (vR 18), some (vI a0), some (vI 0), none]) ?_ (lle_s rfl (lle_s rfl (lle_s rfl (lle_n (lle_z)))))
    refine aw_iter (fun s : Int × SG => AW Γ mX3_passSum (11 + (D + 1)) (0, r) (85, τ) 0 0 12 [some (vR 18), some (vI a0), some (vI (s.1)), none] [] (85, s.2)) (fun s y h hk6 hb6 => ?_) _ _ hi6
    obtain ⟨z4, σ5⟩ := s
    show AW Γ mX3_passSum (11 + (D + 1)) (0, r) (85, τ) 0 0 12 [some (vR 18), some (vI a0), some (vI z4), none] [] (85, σ5)
    have h : X3_passSum_l12 rec n a0 z4 σ5 = some y := h
    unfold X3_passSum_l12 at h
    refine AW.iload_n (n := 13) (dat D_X3_passSum 8 rfl) rfl rfl ?_
    refine AW.sipush (n := 16) (dat D_X3_passSum 9 rfl) rfl (by decide) ?_
    refine AW.icmp_geH (t := 94) (n := 19) h (dat D_X3_passSum 10 rfl) rfl rfl rfl (by decide) (fun h => ?_) (fun h => ?_)
    · cases h
      have hb := hb6 _ rfl
      exact AW.to (hR6 _ hb.symm) (lle_n (lle_n (lle_n (lle_n (lle_z)))))
    · refine AW.aload_n (n := 20) (dat D_X3_passSum 11 rfl) rfl rfl ?_
      refine AW.getR (n := 23) (t := 15) fX3_0 wF_X3_9 ly_18 (le45 rfl) rfl (dat D_X3_passSum 12 rfl) rfl ?_
      refine AW.bipush (n := 25) (dat D_X3_passSum 13 rfl) rfl (by decide) ?_
      obtain ⟨v9, hc8, h⟩ := ob_some h
      refine AW.cV (n := 28) (as := [vI 43]) (st := []) (st' := [vI v9]) (uc' := 0) (us' := 0) (A_X10_isSign hΓ hc8) cf_X10_isSign ly_15 (le45 rfl) vc_10 (le45 rfl) wM_X3_99 (by omega) (le45 rfl) (dat D_X3_passSum 14 rfl) rfl rfl (le45 rfl) (le45 rfl) rfl (fun _ => ?_) nlt0
      refine AW.if_neH (t := 43) (n := 31) h (dat D_X3_passSum 15 rfl) rfl rfl (fun h => ?_) (fun h => ?_)
      · refine AW.aload_n (n := 32) (dat D_X3_passSum 16 rfl) rfl rfl ?_
        refine AW.getR (n := 35) (t := 15) fX3_0 wF_X3_9 ly_18 (le45 rfl) rfl (dat D_X3_passSum 17 rfl) rfl ?_
        refine AW.bipush (n := 37) (dat D_X3_passSum 18 rfl) rfl (by decide) ?_
        obtain ⟨v25, hc24, h⟩ := ob_some h
        refine AW.cV (n := 40) (as := [vI 45]) (st := []) (st' := [vI v25]) (uc' := 0) (us' := 0) (A_X10_isSign hΓ hc24) cf_X10_isSign ly_15 (le45 rfl) vc_10 (le45 rfl) wM_X3_99 (by omega) (le45 rfl) (dat D_X3_passSum 19 rfl) rfl rfl (le45 rfl) (le45 rfl) rfl (fun _ => ?_) nlt0
        refine AW.if_eqH (t := 94) (n := 43) h (dat D_X3_passSum 20 rfl) rfl rfl (fun h => ?_) (fun h => ?_)
        · cases h
          have hb := hb6 _ rfl
          exact AW.to (hR6 _ hb.symm) (lle_n (lle_n (lle_n (lle_n (lle_z)))))
        · refine AW.aload_n (n := 44) (dat D_X3_passSum 21 rfl) rfl rfl ?_
          refine AW.getR (n := 47) (t := 15) fX3_0 wF_X3_9 ly_18 (le45 rfl) rfl (dat D_X3_passSum 22 rfl) rfl ?_
          refine AW.bipush (n := 49) (dat D_X3_passSum 23 rfl) rfl (by decide) ?_
          obtain ⟨v27, hc26, h⟩ := ob_some h
          refine AW.cV (n := 52) (as := [vI 43]) (st := []) (st' := [vI v27]) (uc' := 0) (us' := 0) (A_X10_isSign hΓ hc26) cf_X10_isSign ly_15 (le45 rfl) vc_10 (le45 rfl) wM_X3_99 (by omega) (le45 rfl) (dat D_X3_passSum 24 rfl) rfl rfl (le45 rfl) (le45 rfl) rfl (fun _ => ?_) nlt0
          obtain ⟨s29, h, hq29⟩ := ob_some h
          obtain ⟨y28, e29⟩ : ∃ z, z = s29 := ⟨_, rfl⟩
          subst e29
          have hJ29 : AW Γ mX3_passSum (11 + (D + 1)) (0, r) (85, τ) 0 0 60 [some (vR 18), some (vI a0), some (vI z4), none] [vI y28] (85, σ5) := by
            have h : X3_passSum_j60x rec n σ5 a0 z4 y28 = some _ := hq29
            unfold X3_passSum_j60x at h
            refine AW.istore_n (n := 61) (ls' := [some (vR 18), some (vI a0), some (vI z4), some (vI y28)]) (dat D_X3_passSum 29 rfl) rfl (le45 rfl) (le45 rfl) rfl rfl ?_
            refine AW.aload_n (n := 62) (dat D_X3_passSum 30 rfl) rfl rfl ?_
            refine AW.getR (n := 65) (t := 15) fX3_0 wF_X3_9 ly_18 (le45 rfl) rfl (dat D_X3_passSum 31 rfl) rfl ?_
            obtain ⟨σ31, hc30, h⟩ := ob_some h
            refine AW.cV (n := 68) (as := []) (st := []) (st' := []) (uc' := 0) (us' := 0) (A_X10_advance hΓ hc30) cf_X10_advance ly_15 (le45 rfl) vc_10 (le45 rfl) wM_X3_55 (by omega) (le45 rfl) (dat D_X3_passSum 32 rfl) rfl rfl (le45 rfl) (le45 rfl) rfl (fun _ => ?_) nlt0
            refine AW.aload_n (n := 69) (dat D_X3_passSum 33 rfl) rfl rfl ?_
            refine AW.iload_n (n := 70) (dat D_X3_passSum 34 rfl) rfl rfl ?_
            obtain ⟨v33, σ34, hc32, h⟩ := bnd2_some h
            refine AW.cV (n := 73) (as := [vI a0]) (st := []) (st' := [vI v33]) (uc' := 0) (us' := 0) (hrec_passProduct hc32) cf_X3_passProduct ly_18 (le45 rfl) vc_3 (le45 rfl) wM_X3_108 (by omega) (le45 rfl) (dat D_X3_passSum 35 rfl) rfl rfl (le45 rfl) (le45 rfl) rfl (fun _ => ?_) nlt0
            refine AW.if_neH (t := 78) (n := 76) h (dat D_X3_passSum 36 rfl) rfl rfl (fun h => ?_) (fun h => ?_)
            · refine AW.iconst (n := 77) (dat D_X3_passSum 37 rfl) rfl ?_
              cases h
              have hb := hb6 _ rfl
              subst hb
              have h := hq6
              have h : some _ = some _ := h
              cases h
              exact AW.zret rfl (by decide) rfl rfl (dat D_X3_passSum 38 rfl)
            · refine AW.aload_n (n := 79) (dat D_X3_passSum 39 rfl) rfl rfl ?_
              refine AW.getQH h (n := 82) fX3_1 wF_X3_15 ly_18 (le45 rfl) rfl rfl (dat D_X3_passSum 40 rfl) rfl (fun k35 hpk35 h => ?_)
              refine AW.iload_n (n := 83) (dat D_X3_passSum 41 rfl) rfl rfl ?_
              refine AW.iconst (n := 84) (dat D_X3_passSum 42 rfl) rfl ?_
              obtain ⟨v37, σ38, hc36, h⟩ := bnd2_some h
              refine AW.cV (n := 87) (as := [vI y28, vI 0]) (st := []) (st' := [vI v37]) (uc' := 0) (us' := 0) (A_X2_write hΓ hpk35 hc36) cf_X2_write (isJudge_ly0 hpk35) (by have := isJudge_lt hpk35; omega) vc_2 (le45 rfl) wM_X3_84 (by omega) (le45 rfl) (dat D_X3_passSum 43 rfl) rfl rfl (le45 rfl) (le45 rfl) rfl (fun _ => ?_) nlt0
              refine AW.pop (n := 88) (dat D_X3_passSum 44 rfl) rfl (cI _) ?_
              refine AW.iincH h (n := 91) (dat D_X3_passSum 45 rfl) rfl rfl (le45 rfl) rfl (fun x39 h => ?_)
              refine AW.lq (ls' := [some (vR 18), some (vI a0), some (vI x39), some (vI y28)]) rfl ?_
              refine AW.goto (t := 12) (dat D_X3_passSum 46 rfl) rfl ?_
              cases h
              exact AW.to (hk6 _ rfl) (lle_s rfl (lle_s rfl (lle_s rfl (lle_n (lle_z)))))
          refine AW.if_eqH (t := 59) (n := 55) h (dat D_X3_passSum 25 rfl) rfl rfl (fun h => ?_) (fun h => ?_)
          · refine AW.iconst (n := 60) (dat D_X3_passSum 28 rfl) rfl ?_
            cases h
            exact AW.to hJ29 (lle_s rfl (lle_s rfl (lle_s rfl (lle_n (lle_z)))))
          · refine AW.iconst (n := 56) (dat D_X3_passSum 26 rfl) rfl ?_
            refine AW.goto (t := 60) (dat D_X3_passSum 27 rfl) rfl ?_
            cases h
            exact AW.to hJ29 (lle_s rfl (lle_s rfl (lle_s rfl (lle_n (lle_z)))))
      · refine AW.aload_n (n := 44) (dat D_X3_passSum 21 rfl) rfl rfl ?_
        refine AW.getR (n := 47) (t := 15) fX3_0 wF_X3_9 ly_18 (le45 rfl) rfl (dat D_X3_passSum 22 rfl) rfl ?_
        refine AW.bipush (n := 49) (dat D_X3_passSum 23 rfl) rfl (by decide) ?_
        obtain ⟨v11, hc10, h⟩ := ob_some h
        refine AW.cV (n := 52) (as := [vI 43]) (st := []) (st' := [vI v11]) (uc' := 0) (us' := 0) (A_X10_isSign hΓ hc10) cf_X10_isSign ly_15 (le45 rfl) vc_10 (le45 rfl) wM_X3_99 (by omega) (le45 rfl) (dat D_X3_passSum 24 rfl) rfl rfl (le45 rfl) (le45 rfl) rfl (fun _ => ?_) nlt0
        obtain ⟨s13, h, hq13⟩ := ob_some h
        obtain ⟨y12, e13⟩ : ∃ z, z = s13 := ⟨_, rfl⟩
        subst e13
        have hJ13 : AW Γ mX3_passSum (11 + (D + 1)) (0, r) (85, τ) 0 0 60 [some (vR 18), some (vI a0), some (vI z4), none] [vI y12] (85, σ5) := by
          have h : X3_passSum_j60 rec n σ5 a0 z4 y12 = some _ := hq13
          unfold X3_passSum_j60 at h
          refine AW.istore_n (n := 61) (ls' := [some (vR 18), some (vI a0), some (vI z4), some (vI y12)]) (dat D_X3_passSum 29 rfl) rfl (le45 rfl) (le45 rfl) rfl rfl ?_
          refine AW.aload_n (n := 62) (dat D_X3_passSum 30 rfl) rfl rfl ?_
          refine AW.getR (n := 65) (t := 15) fX3_0 wF_X3_9 ly_18 (le45 rfl) rfl (dat D_X3_passSum 31 rfl) rfl ?_
          obtain ⟨σ15, hc14, h⟩ := ob_some h
          refine AW.cV (n := 68) (as := []) (st := []) (st' := []) (uc' := 0) (us' := 0) (A_X10_advance hΓ hc14) cf_X10_advance ly_15 (le45 rfl) vc_10 (le45 rfl) wM_X3_55 (by omega) (le45 rfl) (dat D_X3_passSum 32 rfl) rfl rfl (le45 rfl) (le45 rfl) rfl (fun _ => ?_) nlt0
          refine AW.aload_n (n := 69) (dat D_X3_passSum 33 rfl) rfl rfl ?_
          refine AW.iload_n (n := 70) (dat D_X3_passSum 34 rfl) rfl rfl ?_
          obtain ⟨v17, σ18, hc16, h⟩ := bnd2_some h
          refine AW.cV (n := 73) (as := [vI a0]) (st := []) (st' := [vI v17]) (uc' := 0) (us' := 0) (hrec_passProduct hc16) cf_X3_passProduct ly_18 (le45 rfl) vc_3 (le45 rfl) wM_X3_108 (by omega) (le45 rfl) (dat D_X3_passSum 35 rfl) rfl rfl (le45 rfl) (le45 rfl) rfl (fun _ => ?_) nlt0
          refine AW.if_neH (t := 78) (n := 76) h (dat D_X3_passSum 36 rfl) rfl rfl (fun h => ?_) (fun h => ?_)
          · refine AW.iconst (n := 77) (dat D_X3_passSum 37 rfl) rfl ?_
            cases h
            have hb := hb6 _ rfl
            subst hb
            have h := hq6
            have h : some _ = some _ := h
            cases h
            exact AW.zret rfl (by decide) rfl rfl (dat D_X3_passSum 38 rfl)
          · refine AW.aload_n (n := 79) (dat D_X3_passSum 39 rfl) rfl rfl ?_
            refine AW.getQH h (n := 82) fX3_1 wF_X3_15 ly_18 (le45 rfl) rfl rfl (dat D_X3_passSum 40 rfl) rfl (fun k19 hpk19 h => ?_)
            refine AW.iload_n (n := 83) (dat D_X3_passSum 41 rfl) rfl rfl ?_
            refine AW.iconst (n := 84) (dat D_X3_passSum 42 rfl) rfl ?_
            obtain ⟨v21, σ22, hc20, h⟩ := bnd2_some h
            refine AW.cV (n := 87) (as := [vI y12, vI 0]) (st := []) (st' := [vI v21]) (uc' := 0) (us' := 0) (A_X2_write hΓ hpk19 hc20) cf_X2_write (isJudge_ly0 hpk19) (by have := isJudge_lt hpk19; omega) vc_2 (le45 rfl) wM_X3_84 (by omega) (le45 rfl) (dat D_X3_passSum 43 rfl) rfl rfl (le45 rfl) (le45 rfl) rfl (fun _ => ?_) nlt0
            refine AW.pop (n := 88) (dat D_X3_passSum 44 rfl) rfl (cI _) ?_
            refine AW.iincH h (n := 91) (dat D_X3_passSum 45 rfl) rfl rfl (le45 rfl) rfl (fun x23 h => ?_)
            refine AW.lq (ls' := [some (vR 18), some (vI a0), some (vI x23), some (vI y12)]) rfl ?_
            refine AW.goto (t := 12) (dat D_X3_passSum 46 rfl) rfl ?_
            cases h
            exact AW.to (hk6 _ rfl) (lle_s rfl (lle_s rfl (lle_s rfl (lle_n (lle_z)))))
        refine AW.if_eqH (t := 59) (n := 55) h (dat D_X3_passSum 25 rfl) rfl rfl (fun h => ?_) (fun h => ?_)
        · refine AW.iconst (n := 60) (dat D_X3_passSum 28 rfl) rfl ?_
          cases h
          exact AW.to hJ13 (lle_s rfl (lle_s rfl (lle_s rfl (lle_n (lle_z)))))
        · refine AW.iconst (n := 56) (dat D_X3_passSum 26 rfl) rfl ?_
          refine AW.goto (t := 60) (dat D_X3_passSum 27 rfl) rfl ?_
          cases h
          exact AW.to hJ13 (lle_s rfl (lle_s rfl (lle_s rfl (lle_n (lle_z)))))
def X3_passProduct_e12 (rec : Nat → Int → SG → Option (Int × SG)) (n : Nat) (σ7 : SG) : Option (Int × SG) :=
  some ((1, σ7))
def X3_passProduct_j60 (rec : Nat → Int → SG → Option (Int × SG)) (n : Nat) (σ5 : SG) (a0 : Int) (z4 : Int) (y12 : Int) : Option ((Int × SG) ⊕ ((SG) ⊕ (Int × SG))) :=
  (X10_advance n σ5).bind fun σ15 =>
  bnd2 (rec 7 a0 σ15) fun v17 σ18 =>
  if w32 v17 = 0 then
    some (.inr (.inr (0, σ18)))
  else
    ckR isJudge (σ18 18 1) fun k19 =>
    bnd2 (X2_write n k19 y12 0 σ18) fun v21 σ22 =>
    lt (z4 + 1) fun x23 =>
    some (.inl (x23, σ22))
def X3_passProduct_j60x (rec : Nat → Int → SG → Option (Int × SG)) (n : Nat) (σ5 : SG) (a0 : Int) (z4 : Int) (y28 : Int) : Option ((Int × SG) ⊕ ((SG) ⊕ (Int × SG))) :=
  (X10_advance n σ5).bind fun σ31 =>
  bnd2 (rec 7 a0 σ31) fun v33 σ34 =>
  if w32 v33 = 0 then
    some (.inr (.inr (0, σ34)))
  else
    ckR isJudge (σ34 18 1) fun k35 =>
    bnd2 (X2_write n k35 y28 0 σ34) fun v37 σ38 =>
    lt (z4 + 1) fun x39 =>
    some (.inl (x39, σ38))
def X3_passProduct_l12 (rec : Nat → Int → SG → Option (Int × SG)) (n : Nat) (a0 : Int) (z4 : Int) (σ5 : SG) : Option ((Int × SG) ⊕ ((SG) ⊕ (Int × SG))) :=
  if 400 ≤ w32 z4 then
    some (.inr (.inl σ5))
  else
    (X10_isSign n 42 σ5).bind fun v9 =>
    if w32 v9 = 0 then
      (X10_isSign n 47 σ5).bind fun v25 =>
      if w32 v25 = 0 then
        some (.inr (.inl σ5))
      else
        (X10_isSign n 42 σ5).bind fun v27 =>
        ((if w32 v27 = 0 then
          some (5)
        else
          some (4)) : Option (Int)).bind (fun s => X3_passProduct_j60x rec n σ5 a0 z4 s)
    else
      (X10_isSign n 42 σ5).bind fun v11 =>
      ((if w32 v11 = 0 then
        some (5)
      else
        some (4)) : Option (Int)).bind (fun s => X3_passProduct_j60 rec n σ5 a0 z4 s)
def X3_passProduct_b (rec : Nat → Int → SG → Option (Int × SG)) (n : Nat) (a0 : Int) (σ : SG) : Option (Int × SG) :=
  bnd2 (rec 7 a0 σ) fun v2 σ3 =>
  if w32 v2 = 0 then
    some ((0, σ3))
  else
    ((iter n (fun s : Int × SG => X3_passProduct_l12 rec n a0 s.1 s.2) (0, σ3)) : Option ((SG) ⊕ (Int × SG))).bind (orr (fun s => X3_passProduct_e12 rec n s))
set_option maxHeartbeats 4000000 in
set_option maxRecDepth 100000 in
theorem A_X3_passProduct_b {Γ : GA} (hΓ : (gl Γ).stackTraces = false) {D : Nat} {rec : Nat → Int → SG → Option (Int × SG)} (hrec_passAny : ∀ {σ9 : SG} {b0 : Int} {r9 : Int} {τ9 : SG}, (rec 0 b0 σ9) = some (r9, τ9) → AM Γ mX3_passAny (11 + D) 0 0 [vR 18, vI b0] (85, σ9) (0, r9) (85, τ9)) (hrec_passAll : ∀ {σ9 : SG} {b0 : Int} {r9 : Int} {τ9 : SG}, (rec 1 b0 σ9) = some (r9, τ9) → AM Γ mX3_passAll (11 + D) 0 0 [vR 18, vI b0] (85, σ9) (0, r9) (85, τ9)) (hrec_passAtom : ∀ {σ9 : SG} {b0 : Int} {r9 : Int} {τ9 : SG}, (rec 2 b0 σ9) = some (r9, τ9) → AM Γ mX3_passAtom (11 + D) 0 0 [vR 18, vI b0] (85, σ9) (0, r9) (85, τ9)) (hrec_passGroup : ∀ {σ9 : SG} {b0 : Int} {r9 : Int} {τ9 : SG}, (rec 3 b0 σ9) = some (r9, τ9) → AM Γ mX3_passGroup (11 + D) 0 0 [vR 18, vI b0] (85, σ9) (0, r9) (85, τ9)) (hrec_passComparison : ∀ {σ9 : SG} {b0 : Int} {r9 : Int} {τ9 : SG}, (rec 4 b0 σ9) = some (r9, τ9) → AM Γ mX3_passComparison (11 + D) 0 0 [vR 18, vI b0] (85, σ9) (0, r9) (85, τ9)) (hrec_passSum : ∀ {σ9 : SG} {b0 : Int} {r9 : Int} {τ9 : SG}, (rec 5 b0 σ9) = some (r9, τ9) → AM Γ mX3_passSum (11 + D) 0 0 [vR 18, vI b0] (85, σ9) (0, r9) (85, τ9)) (hrec_passProduct : ∀ {σ9 : SG} {b0 : Int} {r9 : Int} {τ9 : SG}, (rec 6 b0 σ9) = some (r9, τ9) → AM Γ mX3_passProduct (11 + D) 0 0 [vR 18, vI b0] (85, σ9) (0, r9) (85, τ9)) (hrec_passPart : ∀ {σ9 : SG} {b0 : Int} {r9 : Int} {τ9 : SG}, (rec 7 b0 σ9) = some (r9, τ9) → AM Γ mX3_passPart (11 + D) 0 0 [vR 18, vI b0] (85, σ9) (0, r9) (85, τ9)) {n : Nat} {a0 : Int} {σ : SG} {r : Int} {τ : SG}  (h : X3_passProduct_b rec n a0 σ = some (r, τ)) : AM Γ mX3_passProduct (11 + (D + 1)) 0 0 [vR 18, vI a0] (85, σ) (0, r) (85, τ) := by
  refine AM.of pl_X3 rfl wC_X3_passProduct (le45 rfl) hΓ ?_
  refine AW.to (ls'' := [some (vR 18), some (vI a0), none, none]) ?_ (lle_s rfl (lle_s rfl (lle_e (lle_e (lle_z)))))
  unfold X3_passProduct_b at h
  refine AW.aload_n (n := 1) (dat D_X3_passProduct 0 rfl) rfl rfl ?_
  refine AW.iload_n (n := 2) (dat D_X3_passProduct 1 rfl) rfl rfl ?_
  obtain ⟨v2, σ3, hc1, h⟩ := bnd2_some h
  refine AW.cV (n := 5) (as := [vI a0]) (st := []) (st' := [vI v2]) (uc' := 0) (us' := 0) (hrec_passPart hc1) cf_X3_passPart ly_18 (le45 rfl) vc_3 (le45 rfl) wM_X3_111 (by omega) (le45 rfl) (dat D_X3_passProduct 2 rfl) rfl rfl (le45 rfl) (le45 rfl) rfl (fun _ => ?_) nlt0
  refine AW.if_neH (t := 10) (n := 8) h (dat D_X3_passProduct 3 rfl) rfl rfl (fun h => ?_) (fun h => ?_)
  · refine AW.iconst (n := 9) (dat D_X3_passProduct 4 rfl) rfl ?_
    cases h
    exact AW.zret rfl (by decide) rfl rfl (dat D_X3_passProduct 5 rfl)
  · refine AW.iconst (n := 11) (dat D_X3_passProduct 6 rfl) rfl ?_
    refine AW.istore_n (n := 12) (ls' := [some (vR 18), some (vI a0), some (vI 0), none]) (dat D_X3_passProduct 7 rfl) rfl (le45 rfl) (le45 rfl) rfl rfl ?_
    obtain ⟨b6, hi6, hq6⟩ := ob_some h
    have hR6 : ∀ (σ7 : SG), b6 = .inl σ7 → AW Γ mX3_passProduct (11 + (D + 1)) (0, r) (85, τ) 0 0 94 [none, none, none, none] [] (85, σ7) := by
      intro σ7 e
      subst e
      have h : X3_passProduct_e12 rec n σ7 = some _ := hq6
      unfold X3_passProduct_e12 at h
      refine AW.iconst (n := 95) (dat D_X3_passProduct 47 rfl) rfl ?_
      cases h
      exact AW.zret rfl (by decide) rfl rfl (dat D_X3_passProduct 48 rfl)
    refine AW.to (ls'' := [some (vR 18), some (vI a0), some (vI 0), none]) ?_ (lle_s rfl (lle_s rfl (lle_s rfl (lle_n (lle_z)))))
    refine aw_iter (fun s : Int × SG => AW Γ mX3_passProduct (11 + (D + 1)) (0, r) (85, τ) 0 0 12 [some (vR 18), some (vI a0), some (vI (s.1)), none] [] (85, s.2)) (fun s y h hk6 hb6 => ?_) _ _ hi6
    obtain ⟨z4, σ5⟩ := s
    show AW Γ mX3_passProduct (11 + (D + 1)) (0, r) (85, τ) 0 0 12 [some (vR 18), some (vI a0), some (vI z4), none] [] (85, σ5)
    have h : X3_passProduct_l12 rec n a0 z4 σ5 = some y := h
    unfold X3_passProduct_l12 at h
    refine AW.iload_n (n := 13) (dat D_X3_passProduct 8 rfl) rfl rfl ?_
    refine AW.sipush (n := 16) (dat D_X3_passProduct 9 rfl) rfl (by decide) ?_
    refine AW.icmp_geH (t := 94) (n := 19) h (dat D_X3_passProduct 10 rfl) rfl rfl rfl (by decide) (fun h => ?_) (fun h => ?_)
    · cases h
      have hb := hb6 _ rfl
      exact AW.to (hR6 _ hb.symm) (lle_n (lle_n (lle_n (lle_n (lle_z)))))
    · refine AW.aload_n (n := 20) (dat D_X3_passProduct 11 rfl) rfl rfl ?_
      refine AW.getR (n := 23) (t := 15) fX3_0 wF_X3_9 ly_18 (le45 rfl) rfl (dat D_X3_passProduct 12 rfl) rfl ?_
      refine AW.bipush (n := 25) (dat D_X3_passProduct 13 rfl) rfl (by decide) ?_
      obtain ⟨v9, hc8, h⟩ := ob_some h
      refine AW.cV (n := 28) (as := [vI 42]) (st := []) (st' := [vI v9]) (uc' := 0) (us' := 0) (A_X10_isSign hΓ hc8) cf_X10_isSign ly_15 (le45 rfl) vc_10 (le45 rfl) wM_X3_99 (by omega) (le45 rfl) (dat D_X3_passProduct 14 rfl) rfl rfl (le45 rfl) (le45 rfl) rfl (fun _ => ?_) nlt0
      refine AW.if_neH (t := 43) (n := 31) h (dat D_X3_passProduct 15 rfl) rfl rfl (fun h => ?_) (fun h => ?_)
      · refine AW.aload_n (n := 32) (dat D_X3_passProduct 16 rfl) rfl rfl ?_
        refine AW.getR (n := 35) (t := 15) fX3_0 wF_X3_9 ly_18 (le45 rfl) rfl (dat D_X3_passProduct 17 rfl) rfl ?_
        refine AW.bipush (n := 37) (dat D_X3_passProduct 18 rfl) rfl (by decide) ?_
        obtain ⟨v25, hc24, h⟩ := ob_some h
        refine AW.cV (n := 40) (as := [vI 47]) (st := []) (st' := [vI v25]) (uc' := 0) (us' := 0) (A_X10_isSign hΓ hc24) cf_X10_isSign ly_15 (le45 rfl) vc_10 (le45 rfl) wM_X3_99 (by omega) (le45 rfl) (dat D_X3_passProduct 19 rfl) rfl rfl (le45 rfl) (le45 rfl) rfl (fun _ => ?_) nlt0
        refine AW.if_eqH (t := 94) (n := 43) h (dat D_X3_passProduct 20 rfl) rfl rfl (fun h => ?_) (fun h => ?_)
        · cases h
          have hb := hb6 _ rfl
          exact AW.to (hR6 _ hb.symm) (lle_n (lle_n (lle_n (lle_n (lle_z)))))
        · refine AW.aload_n (n := 44) (dat D_X3_passProduct 21 rfl) rfl rfl ?_
          refine AW.getR (n := 47) (t := 15) fX3_0 wF_X3_9 ly_18 (le45 rfl) rfl (dat D_X3_passProduct 22 rfl) rfl ?_
          refine AW.bipush (n := 49) (dat D_X3_passProduct 23 rfl) rfl (by decide) ?_
          obtain ⟨v27, hc26, h⟩ := ob_some h
          refine AW.cV (n := 52) (as := [vI 42]) (st := []) (st' := [vI v27]) (uc' := 0) (us' := 0) (A_X10_isSign hΓ hc26) cf_X10_isSign ly_15 (le45 rfl) vc_10 (le45 rfl) wM_X3_99 (by omega) (le45 rfl) (dat D_X3_passProduct 24 rfl) rfl rfl (le45 rfl) (le45 rfl) rfl (fun _ => ?_) nlt0
          obtain ⟨s29, h, hq29⟩ := ob_some h
          obtain ⟨y28, e29⟩ : ∃ z, z = s29 := ⟨_, rfl⟩
          subst e29
          have hJ29 : AW Γ mX3_passProduct (11 + (D + 1)) (0, r) (85, τ) 0 0 60 [some (vR 18), some (vI a0), some (vI z4), none] [vI y28] (85, σ5) := by
            have h : X3_passProduct_j60x rec n σ5 a0 z4 y28 = some _ := hq29
            unfold X3_passProduct_j60x at h
            refine AW.istore_n (n := 61) (ls' := [some (vR 18), some (vI a0), some (vI z4), some (vI y28)]) (dat D_X3_passProduct 29 rfl) rfl (le45 rfl) (le45 rfl) rfl rfl ?_
            refine AW.aload_n (n := 62) (dat D_X3_passProduct 30 rfl) rfl rfl ?_
            refine AW.getR (n := 65) (t := 15) fX3_0 wF_X3_9 ly_18 (le45 rfl) rfl (dat D_X3_passProduct 31 rfl) rfl ?_
            obtain ⟨σ31, hc30, h⟩ := ob_some h
            refine AW.cV (n := 68) (as := []) (st := []) (st' := []) (uc' := 0) (us' := 0) (A_X10_advance hΓ hc30) cf_X10_advance ly_15 (le45 rfl) vc_10 (le45 rfl) wM_X3_55 (by omega) (le45 rfl) (dat D_X3_passProduct 32 rfl) rfl rfl (le45 rfl) (le45 rfl) rfl (fun _ => ?_) nlt0
            refine AW.aload_n (n := 69) (dat D_X3_passProduct 33 rfl) rfl rfl ?_
            refine AW.iload_n (n := 70) (dat D_X3_passProduct 34 rfl) rfl rfl ?_
            obtain ⟨v33, σ34, hc32, h⟩ := bnd2_some h
            refine AW.cV (n := 73) (as := [vI a0]) (st := []) (st' := [vI v33]) (uc' := 0) (us' := 0) (hrec_passPart hc32) cf_X3_passPart ly_18 (le45 rfl) vc_3 (le45 rfl) wM_X3_111 (by omega) (le45 rfl) (dat D_X3_passProduct 35 rfl) rfl rfl (le45 rfl) (le45 rfl) rfl (fun _ => ?_) nlt0
            refine AW.if_neH (t := 78) (n := 76) h (dat D_X3_passProduct 36 rfl) rfl rfl (fun h => ?_) (fun h => ?_)
            · refine AW.iconst (n := 77) (dat D_X3_passProduct 37 rfl) rfl ?_
              cases h
              have hb := hb6 _ rfl
              subst hb
              have h := hq6
              have h : some _ = some _ := h
              cases h
              exact AW.zret rfl (by decide) rfl rfl (dat D_X3_passProduct 38 rfl)
            · refine AW.aload_n (n := 79) (dat D_X3_passProduct 39 rfl) rfl rfl ?_
              refine AW.getQH h (n := 82) fX3_1 wF_X3_15 ly_18 (le45 rfl) rfl rfl (dat D_X3_passProduct 40 rfl) rfl (fun k35 hpk35 h => ?_)
              refine AW.iload_n (n := 83) (dat D_X3_passProduct 41 rfl) rfl rfl ?_
              refine AW.iconst (n := 84) (dat D_X3_passProduct 42 rfl) rfl ?_
              obtain ⟨v37, σ38, hc36, h⟩ := bnd2_some h
              refine AW.cV (n := 87) (as := [vI y28, vI 0]) (st := []) (st' := [vI v37]) (uc' := 0) (us' := 0) (A_X2_write hΓ hpk35 hc36) cf_X2_write (isJudge_ly0 hpk35) (by have := isJudge_lt hpk35; omega) vc_2 (le45 rfl) wM_X3_84 (by omega) (le45 rfl) (dat D_X3_passProduct 43 rfl) rfl rfl (le45 rfl) (le45 rfl) rfl (fun _ => ?_) nlt0
              refine AW.pop (n := 88) (dat D_X3_passProduct 44 rfl) rfl (cI _) ?_
              refine AW.iincH h (n := 91) (dat D_X3_passProduct 45 rfl) rfl rfl (le45 rfl) rfl (fun x39 h => ?_)
              refine AW.lq (ls' := [some (vR 18), some (vI a0), some (vI x39), some (vI y28)]) rfl ?_
              refine AW.goto (t := 12) (dat D_X3_passProduct 46 rfl) rfl ?_
              cases h
              exact AW.to (hk6 _ rfl) (lle_s rfl (lle_s rfl (lle_s rfl (lle_n (lle_z)))))
          refine AW.if_eqH (t := 59) (n := 55) h (dat D_X3_passProduct 25 rfl) rfl rfl (fun h => ?_) (fun h => ?_)
          · refine AW.iconst (n := 60) (dat D_X3_passProduct 28 rfl) rfl ?_
            cases h
            exact AW.to hJ29 (lle_s rfl (lle_s rfl (lle_s rfl (lle_n (lle_z)))))
          · refine AW.iconst (n := 56) (dat D_X3_passProduct 26 rfl) rfl ?_
            refine AW.goto (t := 60) (dat D_X3_passProduct 27 rfl) rfl ?_
            cases h
            exact AW.to hJ29 (lle_s rfl (lle_s rfl (lle_s rfl (lle_n (lle_z)))))
      · refine AW.aload_n (n := 44) (dat D_X3_passProduct 21 rfl) rfl rfl ?_
        refine AW.getR (n := 47) (t := 15) fX3_0 wF_X3_9 ly_18 (le45 rfl) rfl (dat D_X3_passProduct 22 rfl) rfl ?_
        refine AW.bipush (n := 49) (dat D_X3_passProduct 23 rfl) rfl (by decide) ?_
        obtain ⟨v11, hc10, h⟩ := ob_some h
        refine AW.cV (n := 52) (as := [vI 42]) (st := []) (st' := [vI v11]) (uc' := 0) (us' := 0) (A_X10_isSign hΓ hc10) cf_X10_isSign ly_15 (le45 rfl) vc_10 (le45 rfl) wM_X3_99 (by omega) (le45 rfl) (dat D_X3_passProduct 24 rfl) rfl rfl (le45 rfl) (le45 rfl) rfl (fun _ => ?_) nlt0
        obtain ⟨s13, h, hq13⟩ := ob_some h
        obtain ⟨y12, e13⟩ : ∃ z, z = s13 := ⟨_, rfl⟩
        subst e13
        have hJ13 : AW Γ mX3_passProduct (11 + (D + 1)) (0, r) (85, τ) 0 0 60 [some (vR 18), some (vI a0), some (vI z4), none] [vI y12] (85, σ5) := by
          have h : X3_passProduct_j60 rec n σ5 a0 z4 y12 = some _ := hq13
          unfold X3_passProduct_j60 at h
          refine AW.istore_n (n := 61) (ls' := [some (vR 18), some (vI a0), some (vI z4), some (vI y12)]) (dat D_X3_passProduct 29 rfl) rfl (le45 rfl) (le45 rfl) rfl rfl ?_
          refine AW.aload_n (n := 62) (dat D_X3_passProduct 30 rfl) rfl rfl ?_
          refine AW.getR (n := 65) (t := 15) fX3_0 wF_X3_9 ly_18 (le45 rfl) rfl (dat D_X3_passProduct 31 rfl) rfl ?_
          obtain ⟨σ15, hc14, h⟩ := ob_some h
          refine AW.cV (n := 68) (as := []) (st := []) (st' := []) (uc' := 0) (us' := 0) (A_X10_advance hΓ hc14) cf_X10_advance ly_15 (le45 rfl) vc_10 (le45 rfl) wM_X3_55 (by omega) (le45 rfl) (dat D_X3_passProduct 32 rfl) rfl rfl (le45 rfl) (le45 rfl) rfl (fun _ => ?_) nlt0
          refine AW.aload_n (n := 69) (dat D_X3_passProduct 33 rfl) rfl rfl ?_
          refine AW.iload_n (n := 70) (dat D_X3_passProduct 34 rfl) rfl rfl ?_
          obtain ⟨v17, σ18, hc16, h⟩ := bnd2_some h
          refine AW.cV (n := 73) (as := [vI a0]) (st := []) (st' := [vI v17]) (uc' := 0) (us' := 0) (hrec_passPart hc16) cf_X3_passPart ly_18 (le45 rfl) vc_3 (le45 rfl) wM_X3_111 (by omega) (le45 rfl) (dat D_X3_passProduct 35 rfl) rfl rfl (le45 rfl) (le45 rfl) rfl (fun _ => ?_) nlt0
          refine AW.if_neH (t := 78) (n := 76) h (dat D_X3_passProduct 36 rfl) rfl rfl (fun h => ?_) (fun h => ?_)
          · refine AW.iconst (n := 77) (dat D_X3_passProduct 37 rfl) rfl ?_
            cases h
            have hb := hb6 _ rfl
            subst hb
            have h := hq6
            have h : some _ = some _ := h
            cases h
            exact AW.zret rfl (by decide) rfl rfl (dat D_X3_passProduct 38 rfl)
          · refine AW.aload_n (n := 79) (dat D_X3_passProduct 39 rfl) rfl rfl ?_
            refine AW.getQH h (n := 82) fX3_1 wF_X3_15 ly_18 (le45 rfl) rfl rfl (dat D_X3_passProduct 40 rfl) rfl (fun k19 hpk19 h => ?_)
            refine AW.iload_n (n := 83) (dat D_X3_passProduct 41 rfl) rfl rfl ?_
            refine AW.iconst (n := 84) (dat D_X3_passProduct 42 rfl) rfl ?_
            obtain ⟨v21, σ22, hc20, h⟩ := bnd2_some h
            refine AW.cV (n := 87) (as := [vI y12, vI 0]) (st := []) (st' := [vI v21]) (uc' := 0) (us' := 0) (A_X2_write hΓ hpk19 hc20) cf_X2_write (isJudge_ly0 hpk19) (by have := isJudge_lt hpk19; omega) vc_2 (le45 rfl) wM_X3_84 (by omega) (le45 rfl) (dat D_X3_passProduct 43 rfl) rfl rfl (le45 rfl) (le45 rfl) rfl (fun _ => ?_) nlt0
            refine AW.pop (n := 88) (dat D_X3_passProduct 44 rfl) rfl (cI _) ?_
            refine AW.iincH h (n := 91) (dat D_X3_passProduct 45 rfl) rfl rfl (le45 rfl) rfl (fun x23 h => ?_)
            refine AW.lq (ls' := [some (vR 18), some (vI a0), some (vI x23), some (vI y12)]) rfl ?_
            refine AW.goto (t := 12) (dat D_X3_passProduct 46 rfl) rfl ?_
            cases h
            exact AW.to (hk6 _ rfl) (lle_s rfl (lle_s rfl (lle_s rfl (lle_n (lle_z)))))
        refine AW.if_eqH (t := 59) (n := 55) h (dat D_X3_passProduct 25 rfl) rfl rfl (fun h => ?_) (fun h => ?_)
        · refine AW.iconst (n := 60) (dat D_X3_passProduct 28 rfl) rfl ?_
          cases h
          exact AW.to hJ13 (lle_s rfl (lle_s rfl (lle_s rfl (lle_n (lle_z)))))
        · refine AW.iconst (n := 56) (dat D_X3_passProduct 26 rfl) rfl ?_
          refine AW.goto (t := 60) (dat D_X3_passProduct 27 rfl) rfl ?_
          cases h
          exact AW.to hJ13 (lle_s rfl (lle_s rfl (lle_s rfl (lle_n (lle_z)))))
def X3_passPart_b (rec : Nat → Int → SG → Option (Int × SG)) (n : Nat) (a0 : Int) (σ : SG) : Option (Int × SG) :=
  (X10_isSign n 91 σ).bind fun v2 =>
  if w32 v2 = 0 then
    (X3_factTold n σ).bind fun v4 =>
    if w32 v4 = (-1) then
      bnd2 (X10_passNumber n 0 9999 4 σ) fun v6 σ7 =>
      if w32 v6 = (-1) then
        some ((0, σ7))
      else
        ckR isJudge (σ7 18 1) fun k8 =>
        bnd2 (X2_write n k8 0 v6 σ7) fun v10 σ11 =>
        some ((1, σ11))
    else
      (X10_advance n σ).bind fun σ13 =>
      ckR isJudge (σ13 18 1) fun k14 =>
      bnd2 (X2_write n k14 1 v4 σ13) fun v16 σ17 =>
      some ((1, σ17))
  else
    if w32 a0 < 6 then
      (X10_advance n σ).bind fun σ19 =>
      bnd2 (rec 5 (a0 + 1) σ19) fun v21 σ22 =>
      if w32 v21 = 0 then
        some ((0, σ22))
      else
        bnd2 (X10_passSign n 93 σ22) fun v24 σ25 =>
        if w32 v24 = 0 then
          some ((0, σ25))
        else
          some ((1, σ25))
    else
      some ((0, σ))
set_option maxHeartbeats 4000000 in
set_option maxRecDepth 100000 in
theorem A_X3_passPart_b {Γ : GA} (hΓ : (gl Γ).stackTraces = false) {D : Nat} {rec : Nat → Int → SG → Option (Int × SG)} (hrec_passAny : ∀ {σ9 : SG} {b0 : Int} {r9 : Int} {τ9 : SG}, (rec 0 b0 σ9) = some (r9, τ9) → AM Γ mX3_passAny (11 + D) 0 0 [vR 18, vI b0] (85, σ9) (0, r9) (85, τ9)) (hrec_passAll : ∀ {σ9 : SG} {b0 : Int} {r9 : Int} {τ9 : SG}, (rec 1 b0 σ9) = some (r9, τ9) → AM Γ mX3_passAll (11 + D) 0 0 [vR 18, vI b0] (85, σ9) (0, r9) (85, τ9)) (hrec_passAtom : ∀ {σ9 : SG} {b0 : Int} {r9 : Int} {τ9 : SG}, (rec 2 b0 σ9) = some (r9, τ9) → AM Γ mX3_passAtom (11 + D) 0 0 [vR 18, vI b0] (85, σ9) (0, r9) (85, τ9)) (hrec_passGroup : ∀ {σ9 : SG} {b0 : Int} {r9 : Int} {τ9 : SG}, (rec 3 b0 σ9) = some (r9, τ9) → AM Γ mX3_passGroup (11 + D) 0 0 [vR 18, vI b0] (85, σ9) (0, r9) (85, τ9)) (hrec_passComparison : ∀ {σ9 : SG} {b0 : Int} {r9 : Int} {τ9 : SG}, (rec 4 b0 σ9) = some (r9, τ9) → AM Γ mX3_passComparison (11 + D) 0 0 [vR 18, vI b0] (85, σ9) (0, r9) (85, τ9)) (hrec_passSum : ∀ {σ9 : SG} {b0 : Int} {r9 : Int} {τ9 : SG}, (rec 5 b0 σ9) = some (r9, τ9) → AM Γ mX3_passSum (11 + D) 0 0 [vR 18, vI b0] (85, σ9) (0, r9) (85, τ9)) (hrec_passProduct : ∀ {σ9 : SG} {b0 : Int} {r9 : Int} {τ9 : SG}, (rec 6 b0 σ9) = some (r9, τ9) → AM Γ mX3_passProduct (11 + D) 0 0 [vR 18, vI b0] (85, σ9) (0, r9) (85, τ9)) (hrec_passPart : ∀ {σ9 : SG} {b0 : Int} {r9 : Int} {τ9 : SG}, (rec 7 b0 σ9) = some (r9, τ9) → AM Γ mX3_passPart (11 + D) 0 0 [vR 18, vI b0] (85, σ9) (0, r9) (85, τ9)) {n : Nat} {a0 : Int} {σ : SG} {r : Int} {τ : SG}  (h : X3_passPart_b rec n a0 σ = some (r, τ)) : AM Γ mX3_passPart (11 + (D + 1)) 0 0 [vR 18, vI a0] (85, σ) (0, r) (85, τ) := by
  refine AM.of pl_X3 rfl wC_X3_passPart (le45 rfl) hΓ ?_
  refine AW.to (ls'' := [some (vR 18), some (vI a0), none, none]) ?_ (lle_s rfl (lle_s rfl (lle_e (lle_e (lle_z)))))
  unfold X3_passPart_b at h
  refine AW.aload_n (n := 1) (dat D_X3_passPart 0 rfl) rfl rfl ?_
  refine AW.getR (n := 4) (t := 15) fX3_0 wF_X3_9 ly_18 (le45 rfl) rfl (dat D_X3_passPart 1 rfl) rfl ?_
  refine AW.bipush (n := 6) (dat D_X3_passPart 2 rfl) rfl (by decide) ?_
  obtain ⟨v2, hc1, h⟩ := ob_some h
  refine AW.cV (n := 9) (as := [vI 91]) (st := []) (st' := [vI v2]) (uc' := 0) (us' := 0) (A_X10_isSign hΓ hc1) cf_X10_isSign ly_15 (le45 rfl) vc_10 (le45 rfl) wM_X3_99 (by omega) (le45 rfl) (dat D_X3_passPart 3 rfl) rfl rfl (le45 rfl) (le45 rfl) rfl (fun _ => ?_) nlt0
  refine AW.if_eqH (t := 55) (n := 12) h (dat D_X3_passPart 4 rfl) rfl rfl (fun h => ?_) (fun h => ?_)
  · refine AW.aload_n (n := 56) (dat D_X3_passPart 28 rfl) rfl rfl ?_
    obtain ⟨v4, hc3, h⟩ := ob_some h
    refine AW.cV (n := 59) (as := []) (st := []) (st' := [vI v4]) (uc' := 0) (us' := 0) (A_X3_factTold hΓ hc3) cf_X3_factTold ly_18 (le45 rfl) vc_3 (le45 rfl) wM_X3_114 (by omega) (le45 rfl) (dat D_X3_passPart 29 rfl) rfl rfl (le45 rfl) (le45 rfl) rfl (fun _ => ?_) nlt0
    refine AW.istore_n (n := 60) (ls' := [some (vR 18), some (vI a0), some (vI v4), none]) (dat D_X3_passPart 30 rfl) rfl (le45 rfl) (le45 rfl) rfl rfl ?_
    refine AW.iload_n (n := 61) (dat D_X3_passPart 31 rfl) rfl rfl ?_
    refine AW.iconst (n := 62) (dat D_X3_passPart 32 rfl) rfl ?_
    refine AW.icmp_eqH (t := 84) (n := 65) h (dat D_X3_passPart 33 rfl) rfl rfl rfl (by decide) (fun h => ?_) (fun h => ?_)
    · refine AW.aload_n (n := 85) (dat D_X3_passPart 45 rfl) rfl rfl ?_
      refine AW.getR (n := 88) (t := 15) fX3_0 wF_X3_9 ly_18 (le45 rfl) rfl (dat D_X3_passPart 46 rfl) rfl ?_
      refine AW.iconst (n := 89) (dat D_X3_passPart 47 rfl) rfl ?_
      refine AW.sipush (n := 92) (dat D_X3_passPart 48 rfl) rfl (by decide) ?_
      refine AW.iconst (n := 93) (dat D_X3_passPart 49 rfl) rfl ?_
      obtain ⟨v6, σ7, hc5, h⟩ := bnd2_some h
      refine AW.cV (n := 96) (as := [vI 0, vI 9999, vI 4]) (st := []) (st' := [vI v6]) (uc' := 0) (us' := 0) (A_X10_passNumber hΓ hc5) cf_X10_passNumber ly_15 (le45 rfl) vc_10 (le45 rfl) wM_X3_118 (by omega) (le45 rfl) (dat D_X3_passPart 50 rfl) rfl rfl (le45 rfl) (le45 rfl) rfl (fun _ => ?_) nlt0
      refine AW.istore_n (n := 97) (ls' := [some (vR 18), some (vI a0), some (vI v4), some (vI v6)]) (dat D_X3_passPart 51 rfl) rfl (le45 rfl) (le45 rfl) rfl rfl ?_
      refine AW.iload_n (n := 98) (dat D_X3_passPart 52 rfl) rfl rfl ?_
      refine AW.iconst (n := 99) (dat D_X3_passPart 53 rfl) rfl ?_
      refine AW.icmp_neH (t := 104) (n := 102) h (dat D_X3_passPart 54 rfl) rfl rfl rfl (by decide) (fun h => ?_) (fun h => ?_)
      · refine AW.iconst (n := 103) (dat D_X3_passPart 55 rfl) rfl ?_
        cases h
        exact AW.zret rfl (by decide) rfl rfl (dat D_X3_passPart 56 rfl)
      · refine AW.aload_n (n := 105) (dat D_X3_passPart 57 rfl) rfl rfl ?_
        refine AW.getQH h (n := 108) fX3_1 wF_X3_15 ly_18 (le45 rfl) rfl rfl (dat D_X3_passPart 58 rfl) rfl (fun k8 hpk8 h => ?_)
        refine AW.iconst (n := 109) (dat D_X3_passPart 59 rfl) rfl ?_
        refine AW.iload_n (n := 110) (dat D_X3_passPart 60 rfl) rfl rfl ?_
        obtain ⟨v10, σ11, hc9, h⟩ := bnd2_some h
        refine AW.cV (n := 113) (as := [vI 0, vI v6]) (st := []) (st' := [vI v10]) (uc' := 0) (us' := 0) (A_X2_write hΓ hpk8 hc9) cf_X2_write (isJudge_ly0 hpk8) (by have := isJudge_lt hpk8; omega) vc_2 (le45 rfl) wM_X3_84 (by omega) (le45 rfl) (dat D_X3_passPart 61 rfl) rfl rfl (le45 rfl) (le45 rfl) rfl (fun _ => ?_) nlt0
        refine AW.pop (n := 114) (dat D_X3_passPart 62 rfl) rfl (cI _) ?_
        refine AW.iconst (n := 115) (dat D_X3_passPart 63 rfl) rfl ?_
        cases h
        exact AW.zret rfl (by decide) rfl rfl (dat D_X3_passPart 64 rfl)
    · refine AW.aload_n (n := 66) (dat D_X3_passPart 34 rfl) rfl rfl ?_
      refine AW.getR (n := 69) (t := 15) fX3_0 wF_X3_9 ly_18 (le45 rfl) rfl (dat D_X3_passPart 35 rfl) rfl ?_
      obtain ⟨σ13, hc12, h⟩ := ob_some h
      refine AW.cV (n := 72) (as := []) (st := []) (st' := []) (uc' := 0) (us' := 0) (A_X10_advance hΓ hc12) cf_X10_advance ly_15 (le45 rfl) vc_10 (le45 rfl) wM_X3_55 (by omega) (le45 rfl) (dat D_X3_passPart 36 rfl) rfl rfl (le45 rfl) (le45 rfl) rfl (fun _ => ?_) nlt0
      refine AW.aload_n (n := 73) (dat D_X3_passPart 37 rfl) rfl rfl ?_
      refine AW.getQH h (n := 76) fX3_1 wF_X3_15 ly_18 (le45 rfl) rfl rfl (dat D_X3_passPart 38 rfl) rfl (fun k14 hpk14 h => ?_)
      refine AW.iconst (n := 77) (dat D_X3_passPart 39 rfl) rfl ?_
      refine AW.iload_n (n := 78) (dat D_X3_passPart 40 rfl) rfl rfl ?_
      obtain ⟨v16, σ17, hc15, h⟩ := bnd2_some h
      refine AW.cV (n := 81) (as := [vI 1, vI v4]) (st := []) (st' := [vI v16]) (uc' := 0) (us' := 0) (A_X2_write hΓ hpk14 hc15) cf_X2_write (isJudge_ly0 hpk14) (by have := isJudge_lt hpk14; omega) vc_2 (le45 rfl) wM_X3_84 (by omega) (le45 rfl) (dat D_X3_passPart 41 rfl) rfl rfl (le45 rfl) (le45 rfl) rfl (fun _ => ?_) nlt0
      refine AW.pop (n := 82) (dat D_X3_passPart 42 rfl) rfl (cI _) ?_
      refine AW.iconst (n := 83) (dat D_X3_passPart 43 rfl) rfl ?_
      cases h
      exact AW.zret rfl (by decide) rfl rfl (dat D_X3_passPart 44 rfl)
  · refine AW.iload_n (n := 13) (dat D_X3_passPart 5 rfl) rfl rfl ?_
    refine AW.bipush (n := 15) (dat D_X3_passPart 6 rfl) rfl (by decide) ?_
    refine AW.icmp_ltH (t := 20) (n := 18) h (dat D_X3_passPart 7 rfl) rfl rfl rfl (by decide) (fun h => ?_) (fun h => ?_)
    · refine AW.aload_n (n := 21) (dat D_X3_passPart 10 rfl) rfl rfl ?_
      refine AW.getR (n := 24) (t := 15) fX3_0 wF_X3_9 ly_18 (le45 rfl) rfl (dat D_X3_passPart 11 rfl) rfl ?_
      obtain ⟨σ19, hc18, h⟩ := ob_some h
      refine AW.cV (n := 27) (as := []) (st := []) (st' := []) (uc' := 0) (us' := 0) (A_X10_advance hΓ hc18) cf_X10_advance ly_15 (le45 rfl) vc_10 (le45 rfl) wM_X3_55 (by omega) (le45 rfl) (dat D_X3_passPart 12 rfl) rfl rfl (le45 rfl) (le45 rfl) rfl (fun _ => ?_) nlt0
      refine AW.aload_n (n := 28) (dat D_X3_passPart 13 rfl) rfl rfl ?_
      refine AW.iload_n (n := 29) (dat D_X3_passPart 14 rfl) rfl rfl ?_
      refine AW.iconst (n := 30) (dat D_X3_passPart 15 rfl) rfl ?_
      refine AW.iadd (n := 31) (dat D_X3_passPart 16 rfl) rfl ?_
      obtain ⟨v21, σ22, hc20, h⟩ := bnd2_some h
      refine AW.cV (n := 34) (as := [vI (a0 + 1)]) (st := []) (st' := [vI v21]) (uc' := 0) (us' := 0) (hrec_passSum hc20) cf_X3_passSum ly_18 (le45 rfl) vc_3 (le45 rfl) wM_X3_62 (by omega) (le45 rfl) (dat D_X3_passPart 17 rfl) rfl rfl (le45 rfl) (le45 rfl) rfl (fun _ => ?_) nlt0
      refine AW.if_eqH (t := 53) (n := 37) h (dat D_X3_passPart 18 rfl) rfl rfl (fun h => ?_) (fun h => ?_)
      · refine AW.iconst (n := 54) (dat D_X3_passPart 26 rfl) rfl ?_
        cases h
        exact AW.zret rfl (by decide) rfl rfl (dat D_X3_passPart 27 rfl)
      · refine AW.aload_n (n := 38) (dat D_X3_passPart 19 rfl) rfl rfl ?_
        refine AW.getR (n := 41) (t := 15) fX3_0 wF_X3_9 ly_18 (le45 rfl) rfl (dat D_X3_passPart 20 rfl) rfl ?_
        refine AW.bipush (n := 43) (dat D_X3_passPart 21 rfl) rfl (by decide) ?_
        obtain ⟨v24, σ25, hc23, h⟩ := bnd2_some h
        refine AW.cV (n := 46) (as := [vI 93]) (st := []) (st' := [vI v24]) (uc' := 0) (us' := 0) (A_X10_passSign hΓ hc23) cf_X10_passSign ly_15 (le45 rfl) vc_10 (le45 rfl) wM_X3_40 (by omega) (le45 rfl) (dat D_X3_passPart 22 rfl) rfl rfl (le45 rfl) (le45 rfl) rfl (fun _ => ?_) nlt0
        refine AW.if_eqH (t := 53) (n := 49) h (dat D_X3_passPart 23 rfl) rfl rfl (fun h => ?_) (fun h => ?_)
        · refine AW.iconst (n := 54) (dat D_X3_passPart 26 rfl) rfl ?_
          cases h
          exact AW.zret rfl (by decide) rfl rfl (dat D_X3_passPart 27 rfl)
        · refine AW.iconst (n := 50) (dat D_X3_passPart 24 rfl) rfl ?_
          refine AW.goto (t := 54) (dat D_X3_passPart 25 rfl) rfl ?_
          cases h
          exact AW.zret rfl (by decide) rfl rfl (dat D_X3_passPart 27 rfl)
    · refine AW.iconst (n := 19) (dat D_X3_passPart 8 rfl) rfl ?_
      cases h
      exact AW.zret rfl (by decide) rfl rfl (dat D_X3_passPart 9 rfl)
def JR (n : Nat) : Nat → Nat → Int → SG → Option (Int × SG)
  | 0, _, _, _ => none
  | D + 1, i, a, σ => match i with
    | 0 => X3_passAny_b (JR n D) n a σ
    | 1 => X3_passAll_b (JR n D) n a σ
    | 2 => X3_passAtom_b (JR n D) n a σ
    | 3 => X3_passGroup_b (JR n D) n a σ
    | 4 => X3_passComparison_b (JR n D) n a σ
    | 5 => X3_passSum_b (JR n D) n a σ
    | 6 => X3_passProduct_b (JR n D) n a σ
    | _ => X3_passPart_b (JR n D) n a σ
theorem A_JR {Γ : GA} (hΓ : (gl Γ).stackTraces = false) {n : Nat} : ∀ D : Nat, (∀ {a : Int} {r : Int} {σ τ : SG}, JR n D 0 a σ = some (r, τ) → AM Γ mX3_passAny (11 + D) 0 0 [vR 18, vI a] (85, σ) (0, r) (85, τ)) ∧ (∀ {a : Int} {r : Int} {σ τ : SG}, JR n D 1 a σ = some (r, τ) → AM Γ mX3_passAll (11 + D) 0 0 [vR 18, vI a] (85, σ) (0, r) (85, τ)) ∧ (∀ {a : Int} {r : Int} {σ τ : SG}, JR n D 2 a σ = some (r, τ) → AM Γ mX3_passAtom (11 + D) 0 0 [vR 18, vI a] (85, σ) (0, r) (85, τ)) ∧ (∀ {a : Int} {r : Int} {σ τ : SG}, JR n D 3 a σ = some (r, τ) → AM Γ mX3_passGroup (11 + D) 0 0 [vR 18, vI a] (85, σ) (0, r) (85, τ)) ∧ (∀ {a : Int} {r : Int} {σ τ : SG}, JR n D 4 a σ = some (r, τ) → AM Γ mX3_passComparison (11 + D) 0 0 [vR 18, vI a] (85, σ) (0, r) (85, τ)) ∧ (∀ {a : Int} {r : Int} {σ τ : SG}, JR n D 5 a σ = some (r, τ) → AM Γ mX3_passSum (11 + D) 0 0 [vR 18, vI a] (85, σ) (0, r) (85, τ)) ∧ (∀ {a : Int} {r : Int} {σ τ : SG}, JR n D 6 a σ = some (r, τ) → AM Γ mX3_passProduct (11 + D) 0 0 [vR 18, vI a] (85, σ) (0, r) (85, τ)) ∧ (∀ {a : Int} {r : Int} {σ τ : SG}, JR n D 7 a σ = some (r, τ) → AM Γ mX3_passPart (11 + D) 0 0 [vR 18, vI a] (85, σ) (0, r) (85, τ))
  | 0 => by
    refine ⟨?_, ?_, ?_, ?_, ?_, ?_, ?_, ?_⟩ <;> (intros; rename_i h; cases h)
  | D + 1 => by
    obtain ⟨g0, g1, g2, g3, g4, g5, g6, g7⟩ := A_JR hΓ (n := n) D
    refine ⟨?_, ?_, ?_, ?_, ?_, ?_, ?_, ?_⟩
    · intros; rename_i h; exact A_X3_passAny_b hΓ g0 g1 g2 g3 g4 g5 g6 g7 h
    · intros; rename_i h; exact A_X3_passAll_b hΓ g0 g1 g2 g3 g4 g5 g6 g7 h
    · intros; rename_i h; exact A_X3_passAtom_b hΓ g0 g1 g2 g3 g4 g5 g6 g7 h
    · intros; rename_i h; exact A_X3_passGroup_b hΓ g0 g1 g2 g3 g4 g5 g6 g7 h
    · intros; rename_i h; exact A_X3_passComparison_b hΓ g0 g1 g2 g3 g4 g5 g6 g7 h
    · intros; rename_i h; exact A_X3_passSum_b hΓ g0 g1 g2 g3 g4 g5 g6 g7 h
    · intros; rename_i h; exact A_X3_passProduct_b hΓ g0 g1 g2 g3 g4 g5 g6 g7 h
    · intros; rename_i h; exact A_X3_passPart_b hΓ g0 g1 g2 g3 g4 g5 g6 g7 h
theorem A_X3_passAny {Γ : GA} (hΓ : (gl Γ).stackTraces = false) (D : Nat) {n : Nat} {a : Int} {r : Int} {σ τ : SG} (h : JR n D 0 a σ = some (r, τ)) : AM Γ mX3_passAny (11 + D) 0 0 [vR 18, vI a] (85, σ) (0, r) (85, τ) := (A_JR hΓ D).1 h
theorem A_X3_passAll {Γ : GA} (hΓ : (gl Γ).stackTraces = false) (D : Nat) {n : Nat} {a : Int} {r : Int} {σ τ : SG} (h : JR n D 1 a σ = some (r, τ)) : AM Γ mX3_passAll (11 + D) 0 0 [vR 18, vI a] (85, σ) (0, r) (85, τ) := (A_JR hΓ D).2.1 h
theorem A_X3_passAtom {Γ : GA} (hΓ : (gl Γ).stackTraces = false) (D : Nat) {n : Nat} {a : Int} {r : Int} {σ τ : SG} (h : JR n D 2 a σ = some (r, τ)) : AM Γ mX3_passAtom (11 + D) 0 0 [vR 18, vI a] (85, σ) (0, r) (85, τ) := (A_JR hΓ D).2.2.1 h
theorem A_X3_passGroup {Γ : GA} (hΓ : (gl Γ).stackTraces = false) (D : Nat) {n : Nat} {a : Int} {r : Int} {σ τ : SG} (h : JR n D 3 a σ = some (r, τ)) : AM Γ mX3_passGroup (11 + D) 0 0 [vR 18, vI a] (85, σ) (0, r) (85, τ) := (A_JR hΓ D).2.2.2.1 h
theorem A_X3_passComparison {Γ : GA} (hΓ : (gl Γ).stackTraces = false) (D : Nat) {n : Nat} {a : Int} {r : Int} {σ τ : SG} (h : JR n D 4 a σ = some (r, τ)) : AM Γ mX3_passComparison (11 + D) 0 0 [vR 18, vI a] (85, σ) (0, r) (85, τ) := (A_JR hΓ D).2.2.2.2.1 h
theorem A_X3_passSum {Γ : GA} (hΓ : (gl Γ).stackTraces = false) (D : Nat) {n : Nat} {a : Int} {r : Int} {σ τ : SG} (h : JR n D 5 a σ = some (r, τ)) : AM Γ mX3_passSum (11 + D) 0 0 [vR 18, vI a] (85, σ) (0, r) (85, τ) := (A_JR hΓ D).2.2.2.2.2.1 h
theorem A_X3_passProduct {Γ : GA} (hΓ : (gl Γ).stackTraces = false) (D : Nat) {n : Nat} {a : Int} {r : Int} {σ τ : SG} (h : JR n D 6 a σ = some (r, τ)) : AM Γ mX3_passProduct (11 + D) 0 0 [vR 18, vI a] (85, σ) (0, r) (85, τ) := (A_JR hΓ D).2.2.2.2.2.2.1 h
theorem A_X3_passPart {Γ : GA} (hΓ : (gl Γ).stackTraces = false) (D : Nat) {n : Nat} {a : Int} {r : Int} {σ τ : SG} (h : JR n D 7 a σ = some (r, τ)) : AM Γ mX3_passPart (11 + D) 0 0 [vR 18, vI a] (85, σ) (0, r) (85, τ) := (A_JR hΓ D).2.2.2.2.2.2.2 h
def L_X3_passLine : List (Nat × Instr × Nat) := [(0, .aload_n 0, 1), (1, .getfield 9, 3), (4, .ldc 44, 2), (6, .invokevirtual 46, 3), (9, .istore_n 1, 1), (10, .iload_n 1, 1), (11, .ifCond .ne 15, 3), (14, .aload_n 0, 1), (15, .getfield 9, 3), (18, .ldc 50, 2), (20, .invokevirtual 46, 3), (23, .ifCond .eq 15, 3), (26, .aload_n 0, 1), (27, .getfield 15, 3), (30, .getfield 52, 3), (33, .bipush 10, 2), (35, .if_icmp .lt 5, 3), (38, .iconst 0, 1), (39, .ireturn, 1), (40, .aload_n 0, 1), (41, .getfield 9, 3), (44, .invokevirtual 55, 3), (47, .aload_n 0, 1), (48, .getfield 15, 3), (51, .iload_n 1, 1), (52, .invokevirtual 58, 3), (55, .aload_n 0, 1), (56, .iconst 0, 1), (57, .invokevirtual 62, 3), (60, .ifCond .ne 5, 3), (63, .iconst 0, 1), (64, .ireturn, 1), (65, .aload_n 0, 1), (66, .getfield 15, 3), (69, .invokevirtual 65, 3), (72, .aload_n 0, 1), (73, .getfield 9, 3), (76, .ldc 68, 2), (78, .invokevirtual 70, 3), (81, .ifCond .eq 13, 3), (84, .aload_n 0, 1), (85, .iconst 0, 1), (86, .invokevirtual 73, 3), (89, .ifCond .ne 5, 3), (92, .iconst 0, 1), (93, .ireturn, 1), (94, .aload_n 0, 1), (95, .getfield 15, 3), (98, .invokevirtual 76, 3), (101, .iconst 1, 1), (102, .ireturn, 1)]
theorem D_X3_passLine : dOK cX3_passLine L_X3_passLine = true := by decide +kernel
theorem cf_X3_passLine : CFV mX3_passLine 0 := ⟨wI_X3_passLine, wS_X3_passLine, wN_WaveRight_JudgeReader, wC_X3_passLine, rfl, ⟨by decide +kernel, by decide +kernel, by decide +kernel⟩, le45 rfl⟩
def X3_passLine (n : Nat) (σ : SG) : Option (Int × SG) :=
  (X10_isWord n 12 σ).bind fun v2 =>
  if w32 v2 = 0 then
    (X10_isWord n 13 σ).bind fun v28 =>
    if w32 v28 = 0 then
      some ((0, σ))
    else
      ckR isJudge (σ 18 1) fun k29 =>
      if w32 (σ k29 6) < 10 then
        (X10_advance n σ).bind fun σ31 =>
        ckR isJudge (σ31 18 1) fun k32 =>
        (X2_beginLine n k32 v2 σ31).bind fun σ34 =>
        bnd2 (JR n 200 5 0 σ34) fun v36 σ37 =>
        if w32 v36 = 0 then
          some ((0, σ37))
        else
          ckR isJudge (σ37 18 1) fun k38 =>
          (X2_endSum n k38 σ37).bind fun σ40 =>
          bnd2 (X10_passWord n 22 σ40) fun v42 σ43 =>
          if w32 v42 = 0 then
            ckR isJudge (σ43 18 1) fun k44 =>
            (X2_endLine n k44 σ43).bind fun σ46 =>
            some ((1, σ46))
          else
            bnd2 (JR n 200 0 0 σ43) fun v48 σ49 =>
            if w32 v48 = 0 then
              some ((0, σ49))
            else
              ckR isJudge (σ49 18 1) fun k50 =>
              (X2_endLine n k50 σ49).bind fun σ52 =>
              some ((1, σ52))
      else
        some ((0, σ))
  else
    ckR isJudge (σ 18 1) fun k3 =>
    if w32 (σ k3 6) < 10 then
      (X10_advance n σ).bind fun σ5 =>
      ckR isJudge (σ5 18 1) fun k6 =>
      (X2_beginLine n k6 v2 σ5).bind fun σ8 =>
      bnd2 (JR n 200 5 0 σ8) fun v10 σ11 =>
      if w32 v10 = 0 then
        some ((0, σ11))
      else
        ckR isJudge (σ11 18 1) fun k12 =>
        (X2_endSum n k12 σ11).bind fun σ14 =>
        bnd2 (X10_passWord n 22 σ14) fun v16 σ17 =>
        if w32 v16 = 0 then
          ckR isJudge (σ17 18 1) fun k18 =>
          (X2_endLine n k18 σ17).bind fun σ20 =>
          some ((1, σ20))
        else
          bnd2 (JR n 200 0 0 σ17) fun v22 σ23 =>
          if w32 v22 = 0 then
            some ((0, σ23))
          else
            ckR isJudge (σ23 18 1) fun k24 =>
            (X2_endLine n k24 σ23).bind fun σ26 =>
            some ((1, σ26))
    else
      some ((0, σ))
set_option maxHeartbeats 4000000 in
set_option maxRecDepth 100000 in
theorem A_X3_passLine {Γ : GA} (hΓ : (gl Γ).stackTraces = false) {n : Nat} {σ : SG} {r : Int} {τ : SG}  (h : X3_passLine n σ = some (r, τ)) : AM Γ mX3_passLine 212 0 0 [vR 18] (85, σ) (0, r) (85, τ) := by
  refine AM.of pl_X3 rfl wC_X3_passLine (le45 rfl) hΓ ?_
  refine AW.to (ls'' := [some (vR 18), none]) ?_ (lle_s rfl (lle_e (lle_z)))
  unfold X3_passLine at h
  refine AW.aload_n (n := 1) (dat D_X3_passLine 0 rfl) rfl rfl ?_
  refine AW.getR (n := 4) (t := 15) fX3_0 wF_X3_9 ly_18 (le45 rfl) rfl (dat D_X3_passLine 1 rfl) rfl ?_
  refine AW.ldcS (n := 6) (j := 12) rfl (dat D_X3_passLine 2 rfl) rfl ?_
  obtain ⟨v2, hc1, h⟩ := ob_some h
  refine AW.cV (n := 9) (as := [vO 12]) (st := []) (st' := [vI v2]) (uc' := 0) (us' := 0) (A_X10_isWord hΓ (by decide) hc1) cf_X10_isWord ly_15 (le45 rfl) vc_10 (le45 rfl) wM_X3_46 (le45 rfl) (le45 rfl) (dat D_X3_passLine 3 rfl) rfl rfl (le45 rfl) (le45 rfl) rfl (fun _ => ?_) nlt0
  refine AW.istore_n (n := 10) (ls' := [some (vR 18), some (vI v2)]) (dat D_X3_passLine 4 rfl) rfl (le45 rfl) (le45 rfl) rfl rfl ?_
  refine AW.iload_n (n := 11) (dat D_X3_passLine 5 rfl) rfl rfl ?_
  refine AW.if_neH (t := 26) (n := 14) h (dat D_X3_passLine 6 rfl) rfl rfl (fun h => ?_) (fun h => ?_)
  · refine AW.aload_n (n := 15) (dat D_X3_passLine 7 rfl) rfl rfl ?_
    refine AW.getR (n := 18) (t := 15) fX3_0 wF_X3_9 ly_18 (le45 rfl) rfl (dat D_X3_passLine 8 rfl) rfl ?_
    refine AW.ldcS (n := 20) (j := 13) rfl (dat D_X3_passLine 9 rfl) rfl ?_
    obtain ⟨v28, hc27, h⟩ := ob_some h
    refine AW.cV (n := 23) (as := [vO 13]) (st := []) (st' := [vI v28]) (uc' := 0) (us' := 0) (A_X10_isWord hΓ (by decide) hc27) cf_X10_isWord ly_15 (le45 rfl) vc_10 (le45 rfl) wM_X3_46 (le45 rfl) (le45 rfl) (dat D_X3_passLine 10 rfl) rfl rfl (le45 rfl) (le45 rfl) rfl (fun _ => ?_) nlt0
    refine AW.if_eqH (t := 38) (n := 26) h (dat D_X3_passLine 11 rfl) rfl rfl (fun h => ?_) (fun h => ?_)
    · refine AW.iconst (n := 39) (dat D_X3_passLine 17 rfl) rfl ?_
      cases h
      exact AW.zret rfl (by decide) rfl rfl (dat D_X3_passLine 18 rfl)
    · refine AW.aload_n (n := 27) (dat D_X3_passLine 12 rfl) rfl rfl ?_
      refine AW.getQH h (n := 30) fX3_1 wF_X3_15 ly_18 (le45 rfl) rfl rfl (dat D_X3_passLine 13 rfl) rfl (fun k29 hpk29 h => ?_)
      refine AW.getI (n := 33) fX2_6 wF_X3_52 (isJudge_ly0 hpk29) (by have := isJudge_lt hpk29; omega) rfl rfl (dat D_X3_passLine 14 rfl) rfl ?_
      refine AW.bipush (n := 35) (dat D_X3_passLine 15 rfl) rfl (by decide) ?_
      refine AW.icmp_ltH (t := 40) (n := 38) h (dat D_X3_passLine 16 rfl) rfl rfl rfl (by decide) (fun h => ?_) (fun h => ?_)
      · refine AW.aload_n (n := 41) (dat D_X3_passLine 19 rfl) rfl rfl ?_
        refine AW.getR (n := 44) (t := 15) fX3_0 wF_X3_9 ly_18 (le45 rfl) rfl (dat D_X3_passLine 20 rfl) rfl ?_
        obtain ⟨σ31, hc30, h⟩ := ob_some h
        refine AW.cV (n := 47) (as := []) (st := []) (st' := []) (uc' := 0) (us' := 0) (A_X10_advance hΓ hc30) cf_X10_advance ly_15 (le45 rfl) vc_10 (le45 rfl) wM_X3_55 (le45 rfl) (le45 rfl) (dat D_X3_passLine 21 rfl) rfl rfl (le45 rfl) (le45 rfl) rfl (fun _ => ?_) nlt0
        refine AW.aload_n (n := 48) (dat D_X3_passLine 22 rfl) rfl rfl ?_
        refine AW.getQH h (n := 51) fX3_1 wF_X3_15 ly_18 (le45 rfl) rfl rfl (dat D_X3_passLine 23 rfl) rfl (fun k32 hpk32 h => ?_)
        refine AW.iload_n (n := 52) (dat D_X3_passLine 24 rfl) rfl rfl ?_
        obtain ⟨σ34, hc33, h⟩ := ob_some h
        refine AW.cV (n := 55) (as := [vI v2]) (st := []) (st' := []) (uc' := 0) (us' := 0) (A_X2_beginLine hΓ hpk32 hc33) cf_X2_beginLine (isJudge_ly0 hpk32) (by have := isJudge_lt hpk32; omega) vc_2 (le45 rfl) wM_X3_58 (le45 rfl) (le45 rfl) (dat D_X3_passLine 25 rfl) rfl rfl (le45 rfl) (le45 rfl) rfl (fun _ => ?_) nlt0
        refine AW.aload_n (n := 56) (dat D_X3_passLine 26 rfl) rfl rfl ?_
        refine AW.iconst (n := 57) (dat D_X3_passLine 27 rfl) rfl ?_
        obtain ⟨v36, σ37, hc35, h⟩ := bnd2_some h
        refine AW.cV (n := 60) (as := [vI 0]) (st := []) (st' := [vI v36]) (uc' := 0) (us' := 0) (A_X3_passSum hΓ 200 hc35) cf_X3_passSum ly_18 (le45 rfl) vc_3 (le45 rfl) wM_X3_62 (le45 rfl) (le45 rfl) (dat D_X3_passLine 28 rfl) rfl rfl (le45 rfl) (le45 rfl) rfl (fun _ => ?_) nlt0
        refine AW.if_neH (t := 65) (n := 63) h (dat D_X3_passLine 29 rfl) rfl rfl (fun h => ?_) (fun h => ?_)
        · refine AW.iconst (n := 64) (dat D_X3_passLine 30 rfl) rfl ?_
          cases h
          exact AW.zret rfl (by decide) rfl rfl (dat D_X3_passLine 31 rfl)
        · refine AW.aload_n (n := 66) (dat D_X3_passLine 32 rfl) rfl rfl ?_
          refine AW.getQH h (n := 69) fX3_1 wF_X3_15 ly_18 (le45 rfl) rfl rfl (dat D_X3_passLine 33 rfl) rfl (fun k38 hpk38 h => ?_)
          obtain ⟨σ40, hc39, h⟩ := ob_some h
          refine AW.cV (n := 72) (as := []) (st := []) (st' := []) (uc' := 0) (us' := 0) (A_X2_endSum hΓ hpk38 hc39) cf_X2_endSum (isJudge_ly0 hpk38) (by have := isJudge_lt hpk38; omega) vc_2 (le45 rfl) wM_X3_65 (le45 rfl) (le45 rfl) (dat D_X3_passLine 34 rfl) rfl rfl (le45 rfl) (le45 rfl) rfl (fun _ => ?_) nlt0
          refine AW.aload_n (n := 73) (dat D_X3_passLine 35 rfl) rfl rfl ?_
          refine AW.getR (n := 76) (t := 15) fX3_0 wF_X3_9 ly_18 (le45 rfl) rfl (dat D_X3_passLine 36 rfl) rfl ?_
          refine AW.ldcS (n := 78) (j := 22) rfl (dat D_X3_passLine 37 rfl) rfl ?_
          obtain ⟨v42, σ43, hc41, h⟩ := bnd2_some h
          refine AW.cV (n := 81) (as := [vO 22]) (st := []) (st' := [vI v42]) (uc' := 0) (us' := 0) (A_X10_passWord hΓ (by decide) hc41) cf_X10_passWord ly_15 (le45 rfl) vc_10 (le45 rfl) wM_X3_70 (le45 rfl) (le45 rfl) (dat D_X3_passLine 38 rfl) rfl rfl (le45 rfl) (le45 rfl) rfl (fun _ => ?_) nlt0
          refine AW.if_eqH (t := 94) (n := 84) h (dat D_X3_passLine 39 rfl) rfl rfl (fun h => ?_) (fun h => ?_)
          · refine AW.aload_n (n := 95) (dat D_X3_passLine 46 rfl) rfl rfl ?_
            refine AW.getQH h (n := 98) fX3_1 wF_X3_15 ly_18 (le45 rfl) rfl rfl (dat D_X3_passLine 47 rfl) rfl (fun k44 hpk44 h => ?_)
            obtain ⟨σ46, hc45, h⟩ := ob_some h
            refine AW.cV (n := 101) (as := []) (st := []) (st' := []) (uc' := 0) (us' := 0) (A_X2_endLine hΓ hpk44 hc45) cf_X2_endLine (isJudge_ly0 hpk44) (by have := isJudge_lt hpk44; omega) vc_2 (le45 rfl) wM_X3_76 (le45 rfl) (le45 rfl) (dat D_X3_passLine 48 rfl) rfl rfl (le45 rfl) (le45 rfl) rfl (fun _ => ?_) nlt0
            refine AW.iconst (n := 102) (dat D_X3_passLine 49 rfl) rfl ?_
            cases h
            exact AW.zret rfl (by decide) rfl rfl (dat D_X3_passLine 50 rfl)
          · refine AW.aload_n (n := 85) (dat D_X3_passLine 40 rfl) rfl rfl ?_
            refine AW.iconst (n := 86) (dat D_X3_passLine 41 rfl) rfl ?_
            obtain ⟨v48, σ49, hc47, h⟩ := bnd2_some h
            refine AW.cV (n := 89) (as := [vI 0]) (st := []) (st' := [vI v48]) (uc' := 0) (us' := 0) (A_X3_passAny hΓ 200 hc47) cf_X3_passAny ly_18 (le45 rfl) vc_3 (le45 rfl) wM_X3_73 (le45 rfl) (le45 rfl) (dat D_X3_passLine 42 rfl) rfl rfl (le45 rfl) (le45 rfl) rfl (fun _ => ?_) nlt0
            refine AW.if_neH (t := 94) (n := 92) h (dat D_X3_passLine 43 rfl) rfl rfl (fun h => ?_) (fun h => ?_)
            · refine AW.iconst (n := 93) (dat D_X3_passLine 44 rfl) rfl ?_
              cases h
              exact AW.zret rfl (by decide) rfl rfl (dat D_X3_passLine 45 rfl)
            · refine AW.aload_n (n := 95) (dat D_X3_passLine 46 rfl) rfl rfl ?_
              refine AW.getQH h (n := 98) fX3_1 wF_X3_15 ly_18 (le45 rfl) rfl rfl (dat D_X3_passLine 47 rfl) rfl (fun k50 hpk50 h => ?_)
              obtain ⟨σ52, hc51, h⟩ := ob_some h
              refine AW.cV (n := 101) (as := []) (st := []) (st' := []) (uc' := 0) (us' := 0) (A_X2_endLine hΓ hpk50 hc51) cf_X2_endLine (isJudge_ly0 hpk50) (by have := isJudge_lt hpk50; omega) vc_2 (le45 rfl) wM_X3_76 (le45 rfl) (le45 rfl) (dat D_X3_passLine 48 rfl) rfl rfl (le45 rfl) (le45 rfl) rfl (fun _ => ?_) nlt0
              refine AW.iconst (n := 102) (dat D_X3_passLine 49 rfl) rfl ?_
              cases h
              exact AW.zret rfl (by decide) rfl rfl (dat D_X3_passLine 50 rfl)
      · refine AW.iconst (n := 39) (dat D_X3_passLine 17 rfl) rfl ?_
        cases h
        exact AW.zret rfl (by decide) rfl rfl (dat D_X3_passLine 18 rfl)
  · refine AW.aload_n (n := 27) (dat D_X3_passLine 12 rfl) rfl rfl ?_
    refine AW.getQH h (n := 30) fX3_1 wF_X3_15 ly_18 (le45 rfl) rfl rfl (dat D_X3_passLine 13 rfl) rfl (fun k3 hpk3 h => ?_)
    refine AW.getI (n := 33) fX2_6 wF_X3_52 (isJudge_ly0 hpk3) (by have := isJudge_lt hpk3; omega) rfl rfl (dat D_X3_passLine 14 rfl) rfl ?_
    refine AW.bipush (n := 35) (dat D_X3_passLine 15 rfl) rfl (by decide) ?_
    refine AW.icmp_ltH (t := 40) (n := 38) h (dat D_X3_passLine 16 rfl) rfl rfl rfl (by decide) (fun h => ?_) (fun h => ?_)
    · refine AW.aload_n (n := 41) (dat D_X3_passLine 19 rfl) rfl rfl ?_
      refine AW.getR (n := 44) (t := 15) fX3_0 wF_X3_9 ly_18 (le45 rfl) rfl (dat D_X3_passLine 20 rfl) rfl ?_
      obtain ⟨σ5, hc4, h⟩ := ob_some h
      refine AW.cV (n := 47) (as := []) (st := []) (st' := []) (uc' := 0) (us' := 0) (A_X10_advance hΓ hc4) cf_X10_advance ly_15 (le45 rfl) vc_10 (le45 rfl) wM_X3_55 (le45 rfl) (le45 rfl) (dat D_X3_passLine 21 rfl) rfl rfl (le45 rfl) (le45 rfl) rfl (fun _ => ?_) nlt0
      refine AW.aload_n (n := 48) (dat D_X3_passLine 22 rfl) rfl rfl ?_
      refine AW.getQH h (n := 51) fX3_1 wF_X3_15 ly_18 (le45 rfl) rfl rfl (dat D_X3_passLine 23 rfl) rfl (fun k6 hpk6 h => ?_)
      refine AW.iload_n (n := 52) (dat D_X3_passLine 24 rfl) rfl rfl ?_
      obtain ⟨σ8, hc7, h⟩ := ob_some h
      refine AW.cV (n := 55) (as := [vI v2]) (st := []) (st' := []) (uc' := 0) (us' := 0) (A_X2_beginLine hΓ hpk6 hc7) cf_X2_beginLine (isJudge_ly0 hpk6) (by have := isJudge_lt hpk6; omega) vc_2 (le45 rfl) wM_X3_58 (le45 rfl) (le45 rfl) (dat D_X3_passLine 25 rfl) rfl rfl (le45 rfl) (le45 rfl) rfl (fun _ => ?_) nlt0
      refine AW.aload_n (n := 56) (dat D_X3_passLine 26 rfl) rfl rfl ?_
      refine AW.iconst (n := 57) (dat D_X3_passLine 27 rfl) rfl ?_
      obtain ⟨v10, σ11, hc9, h⟩ := bnd2_some h
      refine AW.cV (n := 60) (as := [vI 0]) (st := []) (st' := [vI v10]) (uc' := 0) (us' := 0) (A_X3_passSum hΓ 200 hc9) cf_X3_passSum ly_18 (le45 rfl) vc_3 (le45 rfl) wM_X3_62 (le45 rfl) (le45 rfl) (dat D_X3_passLine 28 rfl) rfl rfl (le45 rfl) (le45 rfl) rfl (fun _ => ?_) nlt0
      refine AW.if_neH (t := 65) (n := 63) h (dat D_X3_passLine 29 rfl) rfl rfl (fun h => ?_) (fun h => ?_)
      · refine AW.iconst (n := 64) (dat D_X3_passLine 30 rfl) rfl ?_
        cases h
        exact AW.zret rfl (by decide) rfl rfl (dat D_X3_passLine 31 rfl)
      · refine AW.aload_n (n := 66) (dat D_X3_passLine 32 rfl) rfl rfl ?_
        refine AW.getQH h (n := 69) fX3_1 wF_X3_15 ly_18 (le45 rfl) rfl rfl (dat D_X3_passLine 33 rfl) rfl (fun k12 hpk12 h => ?_)
        obtain ⟨σ14, hc13, h⟩ := ob_some h
        refine AW.cV (n := 72) (as := []) (st := []) (st' := []) (uc' := 0) (us' := 0) (A_X2_endSum hΓ hpk12 hc13) cf_X2_endSum (isJudge_ly0 hpk12) (by have := isJudge_lt hpk12; omega) vc_2 (le45 rfl) wM_X3_65 (le45 rfl) (le45 rfl) (dat D_X3_passLine 34 rfl) rfl rfl (le45 rfl) (le45 rfl) rfl (fun _ => ?_) nlt0
        refine AW.aload_n (n := 73) (dat D_X3_passLine 35 rfl) rfl rfl ?_
        refine AW.getR (n := 76) (t := 15) fX3_0 wF_X3_9 ly_18 (le45 rfl) rfl (dat D_X3_passLine 36 rfl) rfl ?_
        refine AW.ldcS (n := 78) (j := 22) rfl (dat D_X3_passLine 37 rfl) rfl ?_
        obtain ⟨v16, σ17, hc15, h⟩ := bnd2_some h
        refine AW.cV (n := 81) (as := [vO 22]) (st := []) (st' := [vI v16]) (uc' := 0) (us' := 0) (A_X10_passWord hΓ (by decide) hc15) cf_X10_passWord ly_15 (le45 rfl) vc_10 (le45 rfl) wM_X3_70 (le45 rfl) (le45 rfl) (dat D_X3_passLine 38 rfl) rfl rfl (le45 rfl) (le45 rfl) rfl (fun _ => ?_) nlt0
        refine AW.if_eqH (t := 94) (n := 84) h (dat D_X3_passLine 39 rfl) rfl rfl (fun h => ?_) (fun h => ?_)
        · refine AW.aload_n (n := 95) (dat D_X3_passLine 46 rfl) rfl rfl ?_
          refine AW.getQH h (n := 98) fX3_1 wF_X3_15 ly_18 (le45 rfl) rfl rfl (dat D_X3_passLine 47 rfl) rfl (fun k18 hpk18 h => ?_)
          obtain ⟨σ20, hc19, h⟩ := ob_some h
          refine AW.cV (n := 101) (as := []) (st := []) (st' := []) (uc' := 0) (us' := 0) (A_X2_endLine hΓ hpk18 hc19) cf_X2_endLine (isJudge_ly0 hpk18) (by have := isJudge_lt hpk18; omega) vc_2 (le45 rfl) wM_X3_76 (le45 rfl) (le45 rfl) (dat D_X3_passLine 48 rfl) rfl rfl (le45 rfl) (le45 rfl) rfl (fun _ => ?_) nlt0
          refine AW.iconst (n := 102) (dat D_X3_passLine 49 rfl) rfl ?_
          cases h
          exact AW.zret rfl (by decide) rfl rfl (dat D_X3_passLine 50 rfl)
        · refine AW.aload_n (n := 85) (dat D_X3_passLine 40 rfl) rfl rfl ?_
          refine AW.iconst (n := 86) (dat D_X3_passLine 41 rfl) rfl ?_
          obtain ⟨v22, σ23, hc21, h⟩ := bnd2_some h
          refine AW.cV (n := 89) (as := [vI 0]) (st := []) (st' := [vI v22]) (uc' := 0) (us' := 0) (A_X3_passAny hΓ 200 hc21) cf_X3_passAny ly_18 (le45 rfl) vc_3 (le45 rfl) wM_X3_73 (le45 rfl) (le45 rfl) (dat D_X3_passLine 42 rfl) rfl rfl (le45 rfl) (le45 rfl) rfl (fun _ => ?_) nlt0
          refine AW.if_neH (t := 94) (n := 92) h (dat D_X3_passLine 43 rfl) rfl rfl (fun h => ?_) (fun h => ?_)
          · refine AW.iconst (n := 93) (dat D_X3_passLine 44 rfl) rfl ?_
            cases h
            exact AW.zret rfl (by decide) rfl rfl (dat D_X3_passLine 45 rfl)
          · refine AW.aload_n (n := 95) (dat D_X3_passLine 46 rfl) rfl rfl ?_
            refine AW.getQH h (n := 98) fX3_1 wF_X3_15 ly_18 (le45 rfl) rfl rfl (dat D_X3_passLine 47 rfl) rfl (fun k24 hpk24 h => ?_)
            obtain ⟨σ26, hc25, h⟩ := ob_some h
            refine AW.cV (n := 101) (as := []) (st := []) (st' := []) (uc' := 0) (us' := 0) (A_X2_endLine hΓ hpk24 hc25) cf_X2_endLine (isJudge_ly0 hpk24) (by have := isJudge_lt hpk24; omega) vc_2 (le45 rfl) wM_X3_76 (le45 rfl) (le45 rfl) (dat D_X3_passLine 48 rfl) rfl rfl (le45 rfl) (le45 rfl) rfl (fun _ => ?_) nlt0
            refine AW.iconst (n := 102) (dat D_X3_passLine 49 rfl) rfl ?_
            cases h
            exact AW.zret rfl (by decide) rfl rfl (dat D_X3_passLine 50 rfl)
    · refine AW.iconst (n := 39) (dat D_X3_passLine 17 rfl) rfl ?_
      cases h
      exact AW.zret rfl (by decide) rfl rfl (dat D_X3_passLine 18 rfl)
def L_X3_readInto : List (Nat × Instr × Nat) := [(0, .aload_n 0, 1), (1, .aload_n 1, 1), (2, .putfield 15, 3), (5, .aload_n 0, 1), (6, .getfield 15, 3), (9, .invokevirtual 19, 3), (12, .aload_n 0, 1), (13, .getfield 9, 3), (16, .invokevirtual 24, 3), (19, .iconst 0, 1), (20, .istore_n 2, 1), (21, .iload_n 2, 1), (22, .sipush 400, 3), (25, .if_icmp .ge 56, 3), (28, .aload_n 0, 1), (29, .invokevirtual 29, 3), (32, .ifCond .ne 11, 3), (35, .aload_n 0, 1), (36, .getfield 9, 3), (39, .getfield 33, 3), (42, .ireturn, 1), (43, .aload_n 0, 1), (44, .getfield 9, 3), (47, .getfield 37, 3), (50, .ifCond .ne 5, 3), (53, .iconst (-1), 1), (54, .ireturn, 1), (55, .aload_n 0, 1), (56, .getfield 9, 3), (59, .bipush 59, 2), (61, .invokevirtual 40, 3), (64, .ifCond .ne 11, 3), (67, .aload_n 0, 1), (68, .getfield 9, 3), (71, .getfield 33, 3), (74, .ireturn, 1), (75, .iinc 2 1, 3), (78, .goto (-57), 3), (81, .aload_n 0, 1), (82, .getfield 9, 3), (85, .getfield 33, 3), (88, .ireturn, 1)]
theorem D_X3_readInto : dOK cX3_readInto L_X3_readInto = true := by decide +kernel
theorem cf_X3_readInto : CFV mX3_readInto 1 := ⟨wI_X3_readInto, wS_X3_readInto, wN_WaveRight_JudgeReader, wC_X3_readInto, rfl, ⟨by decide +kernel, by decide +kernel, by decide +kernel⟩, le45 rfl⟩
def X3_readInto_e21 (n : Nat) (σ10 : SG) : Option (Int × SG) :=
  some (((σ10 15 3), σ10))
def X3_readInto_l21 (n : Nat) (z7 : Int) (σ8 : SG) : Option ((Int × SG) ⊕ ((SG) ⊕ (Int × SG))) :=
  if 400 ≤ w32 z7 then
    some (.inr (.inl σ8))
  else
    bnd2 (X3_passLine n σ8) fun v12 σ13 =>
    if w32 v12 = 0 then
      some (.inr (.inr ((σ13 15 3), σ13)))
    else
      if w32 (σ13 15 2) = 0 then
        some (.inr (.inr ((-1), σ13)))
      else
        bnd2 (X10_passSign n 59 σ13) fun v15 σ16 =>
        if w32 v15 = 0 then
          some (.inr (.inr ((σ16 15 3), σ16)))
        else
          lt (z7 + 1) fun x17 =>
          some (.inl (x17, σ16))
def X3_readInto (n : Nat) (a0 : Nat) (σ : SG) : Option (Int × SG) :=
  lt (up σ 18 1 ((a0 : Nat) : Int)) fun σ1 =>
  ckR isJudge (σ1 18 1) fun k2 =>
  (X2_clear n k2 σ1).bind fun σ4 =>
  (X10_open n σ4).bind fun σ6 =>
  ((iter n (fun s : Int × SG => X3_readInto_l21 n s.1 s.2) (0, σ6)) : Option ((SG) ⊕ (Int × SG))).bind (orr (fun s => X3_readInto_e21 n s))
set_option maxHeartbeats 4000000 in
set_option maxRecDepth 100000 in
theorem A_X3_readInto {Γ : GA} (hΓ : (gl Γ).stackTraces = false) {n : Nat} {a0 : Nat} {σ : SG} {r : Int} {τ : SG} (hpa0 : isJudge a0 = true) (h : X3_readInto n a0 σ = some (r, τ)) : AM Γ mX3_readInto 213 0 0 [vR 18, vR a0] (85, σ) (0, r) (85, τ) := by
  refine AM.of pl_X3 rfl wC_X3_readInto (le45 rfl) hΓ ?_
  refine AW.to (ls'' := [some (vR 18), some (vR a0), none]) ?_ (lle_s rfl (lle_s rfl (lle_e (lle_z))))
  unfold X3_readInto at h
  refine AW.aload_n (n := 1) (dat D_X3_readInto 0 rfl) rfl rfl ?_
  refine AW.aload_n (n := 2) (dat D_X3_readInto 1 rfl) rfl rfl ?_
  refine AW.putR (n := 5) fX3_1 wF_X3_15 ly_18 (le45 rfl) rfl rfl rfl (dat D_X3_readInto 2 rfl) rfl ?_
  refine AW.ltS h (fun σ1 h => ?_)
  refine AW.aload_n (n := 6) (dat D_X3_readInto 3 rfl) rfl rfl ?_
  refine AW.getQH h (n := 9) fX3_1 wF_X3_15 ly_18 (le45 rfl) rfl rfl (dat D_X3_readInto 4 rfl) rfl (fun k2 hpk2 h => ?_)
  obtain ⟨σ4, hc3, h⟩ := ob_some h
  refine AW.cV (n := 12) (as := []) (st := []) (st' := []) (uc' := 0) (us' := 0) (A_X2_clear hΓ hpk2 hc3) cf_X2_clear (isJudge_ly0 hpk2) (by have := isJudge_lt hpk2; omega) vc_2 (le45 rfl) wM_X3_19 (le45 rfl) (le45 rfl) (dat D_X3_readInto 5 rfl) rfl rfl (le45 rfl) (le45 rfl) rfl (fun _ => ?_) nlt0
  refine AW.aload_n (n := 13) (dat D_X3_readInto 6 rfl) rfl rfl ?_
  refine AW.getR (n := 16) (t := 15) fX3_0 wF_X3_9 ly_18 (le45 rfl) rfl (dat D_X3_readInto 7 rfl) rfl ?_
  obtain ⟨σ6, hc5, h⟩ := ob_some h
  refine AW.cV (n := 19) (as := []) (st := []) (st' := []) (uc' := 0) (us' := 0) (A_X10_open hΓ hc5) cf_X10_open ly_15 (le45 rfl) vc_10 (le45 rfl) wM_X3_24 (le45 rfl) (le45 rfl) (dat D_X3_readInto 8 rfl) rfl rfl (le45 rfl) (le45 rfl) rfl (fun _ => ?_) nlt0
  refine AW.iconst (n := 20) (dat D_X3_readInto 9 rfl) rfl ?_
  refine AW.istore_n (n := 21) (ls' := [some (vR 18), some (vR a0), some (vI 0)]) (dat D_X3_readInto 10 rfl) rfl (le45 rfl) (le45 rfl) rfl rfl ?_
  obtain ⟨b9, hi9, hq9⟩ := ob_some h
  have hR9 : ∀ (σ10 : SG), b9 = .inl σ10 → AW Γ mX3_readInto 213 (0, r) (85, τ) 0 0 81 [some (vR 18), none, none] [] (85, σ10) := by
    intro σ10 e
    subst e
    have h : X3_readInto_e21 n σ10 = some _ := hq9
    unfold X3_readInto_e21 at h
    refine AW.aload_n (n := 82) (dat D_X3_readInto 38 rfl) rfl rfl ?_
    refine AW.getR (n := 85) (t := 15) fX3_0 wF_X3_9 ly_18 (le45 rfl) rfl (dat D_X3_readInto 39 rfl) rfl ?_
    refine AW.getI (n := 88) fX10_3 wF_X3_33 ly_15 (le45 rfl) rfl rfl (dat D_X3_readInto 40 rfl) rfl ?_
    cases h
    exact AW.iret rfl rfl rfl (dat D_X3_readInto 41 rfl)
  refine AW.to (ls'' := [some (vR 18), none, some (vI 0)]) ?_ (lle_s rfl (lle_n (lle_s rfl (lle_z))))
  refine aw_iter (fun s : Int × SG => AW Γ mX3_readInto 213 (0, r) (85, τ) 0 0 21 [some (vR 18), none, some (vI (s.1))] [] (85, s.2)) (fun s y h hk9 hb9 => ?_) _ _ hi9
  obtain ⟨z7, σ8⟩ := s
  show AW Γ mX3_readInto 213 (0, r) (85, τ) 0 0 21 [some (vR 18), none, some (vI z7)] [] (85, σ8)
  have h : X3_readInto_l21 n z7 σ8 = some y := h
  unfold X3_readInto_l21 at h
  refine AW.iload_n (n := 22) (dat D_X3_readInto 11 rfl) rfl rfl ?_
  refine AW.sipush (n := 25) (dat D_X3_readInto 12 rfl) rfl (by decide) ?_
  refine AW.icmp_geH (t := 81) (n := 28) h (dat D_X3_readInto 13 rfl) rfl rfl rfl (by decide) (fun h => ?_) (fun h => ?_)
  · cases h
    have hb := hb9 _ rfl
    exact AW.to (hR9 _ hb.symm) (lle_s rfl (lle_n (lle_n (lle_z))))
  · refine AW.aload_n (n := 29) (dat D_X3_readInto 14 rfl) rfl rfl ?_
    obtain ⟨v12, σ13, hc11, h⟩ := bnd2_some h
    refine AW.cV (n := 32) (as := []) (st := []) (st' := [vI v12]) (uc' := 0) (us' := 0) (A_X3_passLine hΓ hc11) cf_X3_passLine ly_18 (le45 rfl) vc_3 (le45 rfl) wM_X3_29 (le45 rfl) (le45 rfl) (dat D_X3_readInto 15 rfl) rfl rfl (le45 rfl) (le45 rfl) rfl (fun _ => ?_) nlt0
    refine AW.if_neH (t := 43) (n := 35) h (dat D_X3_readInto 16 rfl) rfl rfl (fun h => ?_) (fun h => ?_)
    · refine AW.aload_n (n := 36) (dat D_X3_readInto 17 rfl) rfl rfl ?_
      refine AW.getR (n := 39) (t := 15) fX3_0 wF_X3_9 ly_18 (le45 rfl) rfl (dat D_X3_readInto 18 rfl) rfl ?_
      refine AW.getI (n := 42) fX10_3 wF_X3_33 ly_15 (le45 rfl) rfl rfl (dat D_X3_readInto 19 rfl) rfl ?_
      cases h
      have hb := hb9 _ rfl
      subst hb
      have h := hq9
      have h : some _ = some _ := h
      cases h
      exact AW.iret rfl rfl rfl (dat D_X3_readInto 20 rfl)
    · refine AW.aload_n (n := 44) (dat D_X3_readInto 21 rfl) rfl rfl ?_
      refine AW.getR (n := 47) (t := 15) fX3_0 wF_X3_9 ly_18 (le45 rfl) rfl (dat D_X3_readInto 22 rfl) rfl ?_
      refine AW.getI (n := 50) fX10_2 wF_X3_37 ly_15 (le45 rfl) rfl rfl (dat D_X3_readInto 23 rfl) rfl ?_
      refine AW.if_neH (t := 55) (n := 53) h (dat D_X3_readInto 24 rfl) rfl rfl (fun h => ?_) (fun h => ?_)
      · refine AW.iconst (n := 54) (dat D_X3_readInto 25 rfl) rfl ?_
        cases h
        have hb := hb9 _ rfl
        subst hb
        have h := hq9
        have h : some _ = some _ := h
        cases h
        exact AW.iret rfl rfl rfl (dat D_X3_readInto 26 rfl)
      · refine AW.aload_n (n := 56) (dat D_X3_readInto 27 rfl) rfl rfl ?_
        refine AW.getR (n := 59) (t := 15) fX3_0 wF_X3_9 ly_18 (le45 rfl) rfl (dat D_X3_readInto 28 rfl) rfl ?_
        refine AW.bipush (n := 61) (dat D_X3_readInto 29 rfl) rfl (by decide) ?_
        obtain ⟨v15, σ16, hc14, h⟩ := bnd2_some h
        refine AW.cV (n := 64) (as := [vI 59]) (st := []) (st' := [vI v15]) (uc' := 0) (us' := 0) (A_X10_passSign hΓ hc14) cf_X10_passSign ly_15 (le45 rfl) vc_10 (le45 rfl) wM_X3_40 (le45 rfl) (le45 rfl) (dat D_X3_readInto 30 rfl) rfl rfl (le45 rfl) (le45 rfl) rfl (fun _ => ?_) nlt0
        refine AW.if_neH (t := 75) (n := 67) h (dat D_X3_readInto 31 rfl) rfl rfl (fun h => ?_) (fun h => ?_)
        · refine AW.aload_n (n := 68) (dat D_X3_readInto 32 rfl) rfl rfl ?_
          refine AW.getR (n := 71) (t := 15) fX3_0 wF_X3_9 ly_18 (le45 rfl) rfl (dat D_X3_readInto 33 rfl) rfl ?_
          refine AW.getI (n := 74) fX10_3 wF_X3_33 ly_15 (le45 rfl) rfl rfl (dat D_X3_readInto 34 rfl) rfl ?_
          cases h
          have hb := hb9 _ rfl
          subst hb
          have h := hq9
          have h : some _ = some _ := h
          cases h
          exact AW.iret rfl rfl rfl (dat D_X3_readInto 35 rfl)
        · refine AW.iincH h (n := 78) (dat D_X3_readInto 36 rfl) rfl rfl (le45 rfl) rfl (fun x17 h => ?_)
          refine AW.lq (ls' := [some (vR 18), none, some (vI x17)]) rfl ?_
          refine AW.goto (t := 21) (dat D_X3_readInto 37 rfl) rfl ?_
          cases h
          exact AW.to (hk9 _ rfl) (lle_s rfl (lle_n (lle_s rfl (lle_z))))
def L_X11_judge : List (Nat × Instr × Nat) := [(0, .aload_n 0, 1), (1, .aload_n 0, 1), (2, .getfield 44, 3), (5, .aload_n 0, 1), (6, .getfield 19, 3), (9, .invokevirtual 111, 3), (12, .putfield 48, 3), (15, .aload_n 0, 1), (16, .getfield 26, 3), (19, .iconst 0, 1), (20, .putfield 84, 3), (23, .aload_n 0, 1), (24, .getfield 48, 3), (27, .iconst (-1), 1), (28, .if_icmp .eq 13, 3), (31, .new 95, 3), (34, .dup, 1), (35, .ldc 114, 2), (37, .invokespecial 99, 3), (40, .athrow, 1), (41, .aload_n 0, 1), (42, .getfield 55, 3), (45, .getfield 116, 3), (48, .astore_n 1, 1), (49, .aload_n 0, 1), (50, .getfield 55, 3), (53, .aload_n 0, 1), (54, .getfield 19, 3), (57, .putfield 116, 3), (60, .aload_n 0, 1), (61, .aload_n 1, 1), (62, .putfield 19, 3), (65, .aload_n 0, 1), (66, .getfield 55, 3), (69, .getfield 116, 3), (72, .getfield 119, 3), (75, .ireturn, 1)]
theorem D_X11_judge : dOK cX11_judge L_X11_judge = true := by decide +kernel
theorem cf_X11_judge : CFV mX11_judge 0 := ⟨wI_X11_judge, wS_X11_judge, wN_WaveRight, wC_X11_judge, rfl, ⟨by decide +kernel, by decide +kernel, by decide +kernel⟩, le45 rfl⟩
def X11_judge (n : Nat) (σ : SG) : Option ((Nat × Int) × SG) :=
  ckR isJudge (σ 0 1) fun k1 =>
  bnd2 (X3_readInto n k1 σ) fun v3 σ4 =>
  lt (up σ4 0 5 v3) fun σ5 =>
  lt (up σ5 15 1 0) fun σ6 =>
  if w32 (σ6 0 5) = (-1) then
    ckR isJudge (σ6 19 1) fun k7 =>
    ckR isJudge (σ6 0 1) fun k8 =>
    lt (up σ6 19 1 ((k8 : Nat) : Int)) fun σ9 =>
    lt (up σ9 0 1 ((k7 : Nat) : Int)) fun σ10 =>
    ckR isJudge (σ10 19 1) fun k11 =>
    some (((0, (σ10 k11 6)), σ10))
  else
    some (((2, 0), σ6))
set_option maxHeartbeats 4000000 in
set_option maxRecDepth 100000 in
theorem A_X11_judge {Γ : GA} (hΓ : (gl Γ).stackTraces = false) {n : Nat} {σ : SG} {o : Nat × Int} {τ : SG}  (h : X11_judge n σ = some (o, τ)) : AM Γ mX11_judge 214 8 48 [vR 0] (85, σ) o (85, τ) := by
  refine AM.of pl_X11 rfl wC_X11_judge (le45 rfl) hΓ ?_
  refine AW.to (ls'' := [some (vR 0), none]) ?_ (lle_s rfl (lle_e (lle_z)))
  unfold X11_judge at h
  refine AW.aload_n (n := 1) (dat D_X11_judge 0 rfl) rfl rfl ?_
  refine AW.aload_n (n := 2) (dat D_X11_judge 1 rfl) rfl rfl ?_
  refine AW.getR (n := 5) (t := 18) fX11_4 wF_X11_44 ly_0 (le45 rfl) rfl (dat D_X11_judge 2 rfl) rfl ?_
  refine AW.aload_n (n := 6) (dat D_X11_judge 3 rfl) rfl rfl ?_
  refine AW.getQH h (n := 9) fX11_1 wF_X11_19 ly_0 (le45 rfl) rfl rfl (dat D_X11_judge 4 rfl) rfl (fun k1 hpk1 h => ?_)
  obtain ⟨v3, σ4, hc2, h⟩ := bnd2_some h
  refine AW.cV (n := 12) (as := [vR k1]) (st := [vR 0]) (st' := [vI v3, vR 0]) (uc' := 8) (us' := 48) (A_X3_readInto hΓ hpk1 hc2) cf_X3_readInto ly_18 (le45 rfl) vc_3 (le45 rfl) wM_X11_111 (le45 rfl) (le45 rfl) (dat D_X11_judge 5 rfl) rfl rfl (le45 rfl) (le45 rfl) rfl (fun _ => ?_) nlt0
  refine AW.putI (n := 15) fX11_5 wF_X11_48 ly_0 (le45 rfl) rfl rfl rfl (dat D_X11_judge 6 rfl) rfl ?_
  refine AW.ltS h (fun σ5 h => ?_)
  refine AW.aload_n (n := 16) (dat D_X11_judge 7 rfl) rfl rfl ?_
  refine AW.getR (n := 19) (t := 15) fX11_2 wF_X11_26 ly_0 (le45 rfl) rfl (dat D_X11_judge 8 rfl) rfl ?_
  refine AW.iconst (n := 20) (dat D_X11_judge 9 rfl) rfl ?_
  refine AW.putI (n := 23) fX10_1 wF_X11_84 ly_15 (le45 rfl) rfl rfl rfl (dat D_X11_judge 10 rfl) rfl ?_
  refine AW.ltS h (fun σ6 h => ?_)
  refine AW.aload_n (n := 24) (dat D_X11_judge 11 rfl) rfl rfl ?_
  refine AW.getI (n := 27) fX11_5 wF_X11_48 ly_0 (le45 rfl) rfl rfl (dat D_X11_judge 12 rfl) rfl ?_
  refine AW.iconst (n := 28) (dat D_X11_judge 13 rfl) rfl ?_
  refine AW.icmp_eqH (t := 41) (n := 31) h (dat D_X11_judge 14 rfl) rfl rfl rfl (by decide) (fun h => ?_) (fun h => ?_)
  · refine AW.aload_n (n := 42) (dat D_X11_judge 20 rfl) rfl rfl ?_
    refine AW.getR (n := 45) (t := 19) fX11_6 wF_X11_55 ly_0 (le45 rfl) rfl (dat D_X11_judge 21 rfl) rfl ?_
    refine AW.getQH h (n := 48) fX1_1 wF_X11_116 ly_19 (le45 rfl) rfl rfl (dat D_X11_judge 22 rfl) rfl (fun k7 hpk7 h => ?_)
    refine AW.astore_n (n := 49) (ls' := [some (vR 0), some (vR k7)]) (dat D_X11_judge 23 rfl) rfl (le45 rfl) (le45 rfl) rfl rfl ?_
    refine AW.aload_n (n := 50) (dat D_X11_judge 24 rfl) rfl rfl ?_
    refine AW.getR (n := 53) (t := 19) fX11_6 wF_X11_55 ly_0 (le45 rfl) rfl (dat D_X11_judge 25 rfl) rfl ?_
    refine AW.aload_n (n := 54) (dat D_X11_judge 26 rfl) rfl rfl ?_
    refine AW.getQH h (n := 57) fX11_1 wF_X11_19 ly_0 (le45 rfl) rfl rfl (dat D_X11_judge 27 rfl) rfl (fun k8 hpk8 h => ?_)
    refine AW.putR (n := 60) fX1_1 wF_X11_116 ly_19 (le45 rfl) rfl rfl rfl (dat D_X11_judge 28 rfl) rfl ?_
    refine AW.ltS h (fun σ9 h => ?_)
    refine AW.aload_n (n := 61) (dat D_X11_judge 29 rfl) rfl rfl ?_
    refine AW.aload_n (n := 62) (dat D_X11_judge 30 rfl) rfl rfl ?_
    refine AW.putR (n := 65) fX11_1 wF_X11_19 ly_0 (le45 rfl) rfl rfl rfl (dat D_X11_judge 31 rfl) rfl ?_
    refine AW.ltS h (fun σ10 h => ?_)
    refine AW.aload_n (n := 66) (dat D_X11_judge 32 rfl) rfl rfl ?_
    refine AW.getR (n := 69) (t := 19) fX11_6 wF_X11_55 ly_0 (le45 rfl) rfl (dat D_X11_judge 33 rfl) rfl ?_
    refine AW.getQH h (n := 72) fX1_1 wF_X11_116 ly_19 (le45 rfl) rfl rfl (dat D_X11_judge 34 rfl) rfl (fun k11 hpk11 h => ?_)
    refine AW.getI (n := 75) fX2_6 wF_X11_119 (isJudge_ly0 hpk11) (by have := isJudge_lt hpk11; omega) rfl rfl (dat D_X11_judge 35 rfl) rfl ?_
    cases h
    exact AW.iret rfl rfl rfl (dat D_X11_judge 36 rfl)
  · cases h
    exact AW.throw (k := 2) (j := 26) (by decide) thrW_2 wL_X11_95 wN_java_lang_IllegalArgumentException rfl wM_X11_99 (dat D_X11_judge 15 rfl) (dat D_X11_judge 16 rfl) (dat D_X11_judge 17 rfl) (dat D_X11_judge 18 rfl) (dat D_X11_judge 19 rfl) rfl (le45 rfl) (le45 rfl) rfl rfl (le45 rfl) (le45 rfl)
def L_X11_fault : List (Nat × Instr × Nat) := [(0, .aload_n 0, 1), (1, .getfield 48, 3), (4, .ireturn, 1)]
theorem D_X11_fault : dOK cX11_fault L_X11_fault = true := by decide +kernel
theorem cf_X11_fault : CFV mX11_fault 0 := ⟨wI_X11_fault, wS_X11_fault, wN_WaveRight, wC_X11_fault, rfl, ⟨by decide +kernel, by decide +kernel, by decide +kernel⟩, le45 rfl⟩
def X11_fault (n : Nat) (σ : SG) : Option (Int) :=
  some ((σ 0 5))
set_option maxHeartbeats 4000000 in
set_option maxRecDepth 100000 in
theorem A_X11_fault {Γ : GA} (hΓ : (gl Γ).stackTraces = false) {n : Nat} {σ : SG} {r : Int}  (h : X11_fault n σ = some r) : AM Γ mX11_fault 1 0 0 [vR 0] (85, σ) (0, r) (85, σ) := by
  refine AM.of pl_X11 rfl wC_X11_fault (le45 rfl) hΓ ?_
  refine AW.to (ls'' := [some (vR 0)]) ?_ (lle_s rfl (lle_z))
  unfold X11_fault at h
  refine AW.aload_n (n := 1) (dat D_X11_fault 0 rfl) rfl rfl ?_
  refine AW.getI (n := 4) fX11_5 wF_X11_48 ly_0 (le45 rfl) rfl rfl (dat D_X11_fault 1 rfl) rfl ?_
  cases h
  exact AW.iret rfl rfl rfl (dat D_X11_fault 2 rfl)
def L_X11_anew : List (Nat × Instr × Nat) := [(0, .aload_n 0, 1), (1, .getfield 55, 3), (4, .getfield 102, 3), (7, .getfield 122, 3), (10, .ifCond .ne 13, 3), (13, .new 125, 3), (16, .dup, 1), (17, .ldc 127, 2), (19, .invokespecial 129, 3), (22, .athrow, 1), (23, .aload_n 0, 1), (24, .getfield 55, 3), (27, .invokevirtual 105, 3), (30, .aload_n 0, 1), (31, .getfield 55, 3), (34, .getfield 102, 3), (37, .getfield 122, 3), (40, .ireturn, 1)]
theorem D_X11_anew : dOK cX11_anew L_X11_anew = true := by decide +kernel
theorem cf_X11_anew : CFV mX11_anew 0 := ⟨wI_X11_anew, wS_X11_anew, wN_WaveRight, wC_X11_anew, rfl, ⟨by decide +kernel, by decide +kernel, by decide +kernel⟩, le45 rfl⟩
def X11_anew (n : Nat) (σ : SG) : Option ((Nat × Int) × SG) :=
  ckR isSea (σ 19 0) fun k1 =>
  if w32 (σ k1 5) = 0 then
    some (((4, 0), σ))
  else
    (X1_begin n σ).bind fun σ3 =>
    ckR isSea (σ3 19 0) fun k4 =>
    some (((0, (σ3 k4 5)), σ3))
set_option maxHeartbeats 4000000 in
set_option maxRecDepth 100000 in
theorem A_X11_anew {Γ : GA} (hΓ : (gl Γ).stackTraces = false) {n : Nat} {σ : SG} {o : Nat × Int} {τ : SG}  (h : X11_anew n σ = some (o, τ)) : AM Γ mX11_anew 8 8 48 [vR 0] (85, σ) o (85, τ) := by
  refine AM.of pl_X11 rfl wC_X11_anew (le45 rfl) hΓ ?_
  refine AW.to (ls'' := [some (vR 0)]) ?_ (lle_s rfl (lle_z))
  unfold X11_anew at h
  refine AW.aload_n (n := 1) (dat D_X11_anew 0 rfl) rfl rfl ?_
  refine AW.getR (n := 4) (t := 19) fX11_6 wF_X11_55 ly_0 (le45 rfl) rfl (dat D_X11_anew 1 rfl) rfl ?_
  refine AW.getQH h (n := 7) fX1_0 wF_X11_102 ly_19 (le45 rfl) rfl rfl (dat D_X11_anew 2 rfl) rfl (fun k1 hpk1 h => ?_)
  refine AW.getI (n := 10) fX6_5 wF_X11_122 (isSea_ly0 hpk1) (by have := isSea_lt hpk1; omega) rfl rfl (dat D_X11_anew 3 rfl) rfl ?_
  refine AW.if_neH (t := 23) (n := 13) h (dat D_X11_anew 4 rfl) rfl rfl (fun h => ?_) (fun h => ?_)
  · cases h
    exact AW.throw (k := 4) (j := 27) (by decide) thrW_4 wL_X11_125 wN_java_lang_IllegalStateException rfl wM_X11_129 (dat D_X11_anew 5 rfl) (dat D_X11_anew 6 rfl) (dat D_X11_anew 7 rfl) (dat D_X11_anew 8 rfl) (dat D_X11_anew 9 rfl) rfl (le45 rfl) (le45 rfl) rfl rfl (le45 rfl) (le45 rfl)
  · refine AW.aload_n (n := 24) (dat D_X11_anew 10 rfl) rfl rfl ?_
    refine AW.getR (n := 27) (t := 19) fX11_6 wF_X11_55 ly_0 (le45 rfl) rfl (dat D_X11_anew 11 rfl) rfl ?_
    obtain ⟨σ3, hc2, h⟩ := ob_some h
    refine AW.cV (n := 30) (as := []) (st := []) (st' := []) (uc' := 8) (us' := 48) (A_X1_begin hΓ hc2) cf_X1_begin ly_19 (le45 rfl) vc_1 (le45 rfl) wM_X11_105 (le45 rfl) (le45 rfl) (dat D_X11_anew 12 rfl) rfl rfl (le45 rfl) (le45 rfl) rfl (fun _ => ?_) nlt0
    refine AW.aload_n (n := 31) (dat D_X11_anew 13 rfl) rfl rfl ?_
    refine AW.getR (n := 34) (t := 19) fX11_6 wF_X11_55 ly_0 (le45 rfl) rfl (dat D_X11_anew 14 rfl) rfl ?_
    refine AW.getQH h (n := 37) fX1_0 wF_X11_102 ly_19 (le45 rfl) rfl rfl (dat D_X11_anew 15 rfl) rfl (fun k4 hpk4 h => ?_)
    refine AW.getI (n := 40) fX6_5 wF_X11_122 (isSea_ly0 hpk4) (by have := isSea_lt hpk4; omega) rfl rfl (dat D_X11_anew 16 rfl) rfl ?_
    cases h
    exact AW.iret rfl rfl rfl (dat D_X11_anew 17 rfl)
def L_X1_beginAgain : List (Nat × Instr × Nat) := [(0, .aload_n 0, 1), (1, .getfield 12, 3), (4, .getfield 115, 3), (7, .ifCond .le 10, 3), (10, .aload_n 0, 1), (11, .getfield 93, 3), (14, .ifCond .eq 4, 3), (17, .return_, 1), (18, .iload_n 1, 1), (19, .aload_n 0, 1), (20, .getfield 84, 3), (23, .aload_n 0, 1), (24, .getfield 12, 3), (27, .getfield 115, 3), (30, .iadd, 1), (31, .if_icmp .le 32, 3), (34, .aload_n 0, 1), (35, .dup, 1), (36, .getfield 87, 3), (39, .iconst 1, 1), (40, .iadd, 1), (41, .putfield 87, 3), (44, .aload_n 0, 1), (45, .dup, 1), (46, .getfield 84, 3), (49, .aload_n 0, 1), (50, .getfield 12, 3), (53, .getfield 115, 3), (56, .iadd, 1), (57, .putfield 84, 3), (60, .goto (-42), 3), (63, .return_, 1)]
theorem D_X1_beginAgain : dOK cX1_beginAgain L_X1_beginAgain = true := by decide +kernel
theorem cf_X1_beginAgain : CFV mX1_beginAgain 1 := ⟨wI_X1_beginAgain, wS_X1_beginAgain, wN_WaveRight_Heat, wC_X1_beginAgain, rfl, ⟨by decide +kernel, by decide +kernel, by decide +kernel⟩, le45 rfl⟩
def X1_beginAgain_e18 (n : Nat) (σ4 : SG) : Option (SG) :=
  some (σ4)
def X1_beginAgain_l18 (n : Nat) (a0 : Int) (σ2 : SG) : Option ((SG) ⊕ (SG)) :=
  ckR isSea (σ2 19 0) fun k5 =>
  if w32 a0 ≤ w32 ((σ2 19 10) + (σ2 k5 8)) then
    some (.inr σ2)
  else
    lt (up σ2 19 11 ((σ2 19 11) + 1)) fun σ6 =>
    ckR isSea (σ6 19 0) fun k7 =>
    lt (up σ6 19 10 ((σ6 19 10) + (σ6 k7 8))) fun σ8 =>
    some (.inl σ8)
def X1_beginAgain (n : Nat) (a0 : Int) (σ : SG) : Option (SG) :=
  ckR isSea (σ 19 0) fun k1 =>
  if w32 (σ k1 8) ≤ 0 then
    some (σ)
  else
    if w32 (σ 19 15) = 0 then
      ((iter n (fun s : SG => X1_beginAgain_l18 n a0 s) σ) : Option (SG)).bind (fun s => X1_beginAgain_e18 n s)
    else
      some (σ)
set_option maxHeartbeats 4000000 in
set_option maxRecDepth 100000 in
theorem A_X1_beginAgain {Γ : GA} (hΓ : (gl Γ).stackTraces = false) {n : Nat} {a0 : Int} {σ : SG} {τ : SG}  (h : X1_beginAgain n a0 σ = some τ) : AM Γ mX1_beginAgain 1 0 0 [vR 19, vI a0] (85, σ) (0, 0) (85, τ) := by
  refine AM.of pl_X1 rfl wC_X1_beginAgain (le45 rfl) hΓ ?_
  refine AW.to (ls'' := [some (vR 19), some (vI a0)]) ?_ (lle_s rfl (lle_s rfl (lle_z)))
  unfold X1_beginAgain at h
  refine AW.aload_n (n := 1) (dat D_X1_beginAgain 0 rfl) rfl rfl ?_
  refine AW.getQH h (n := 4) fX1_0 wF_X1_12 ly_19 (le45 rfl) rfl rfl (dat D_X1_beginAgain 1 rfl) rfl (fun k1 hpk1 h => ?_)
  refine AW.getI (n := 7) fX6_8 wF_X1_115 (isSea_ly0 hpk1) (by have := isSea_lt hpk1; omega) rfl rfl (dat D_X1_beginAgain 2 rfl) rfl ?_
  refine AW.if_leH (t := 17) (n := 10) h (dat D_X1_beginAgain 3 rfl) rfl rfl (fun h => ?_) (fun h => ?_)
  · cases h
    exact AW.vret rfl rfl rfl (dat D_X1_beginAgain 7 rfl)
  · refine AW.aload_n (n := 11) (dat D_X1_beginAgain 4 rfl) rfl rfl ?_
    refine AW.getI (n := 14) fX1_15 wF_X1_93 ly_19 (le45 rfl) rfl rfl (dat D_X1_beginAgain 5 rfl) rfl ?_
    refine AW.if_eqH (t := 18) (n := 17) h (dat D_X1_beginAgain 6 rfl) rfl rfl (fun h => ?_) (fun h => ?_)
    · obtain ⟨b3, hi3, hq3⟩ := ob_some h
      obtain ⟨σ4, e3⟩ : ∃ z, z = b3 := ⟨_, rfl⟩
      subst e3
      have hR3 : AW Γ mX1_beginAgain 1 (0, 0) (85, τ) 0 0 63 [none, none] [] (85, σ4) := by
        have h : X1_beginAgain_e18 n σ4 = some _ := hq3
        unfold X1_beginAgain_e18 at h
        cases h
        exact AW.vret rfl rfl rfl (dat D_X1_beginAgain 31 rfl)
      refine AW.to (ls'' := [some (vR 19), some (vI a0)]) ?_ (lle_s rfl (lle_s rfl (lle_z)))
      refine aw_iter (fun s : SG => AW Γ mX1_beginAgain 1 (0, 0) (85, τ) 0 0 18 [some (vR 19), some (vI a0)] [] (85, s)) (fun s y h hk3 hb3 => ?_) _ _ hi3
      obtain ⟨σ2, e3⟩ : ∃ z, z = s := ⟨_, rfl⟩
      subst e3
      show AW Γ mX1_beginAgain 1 (0, 0) (85, τ) 0 0 18 [some (vR 19), some (vI a0)] [] (85, σ2)
      have h : X1_beginAgain_l18 n a0 σ2 = some y := h
      unfold X1_beginAgain_l18 at h
      refine AW.iload_n (n := 19) (dat D_X1_beginAgain 8 rfl) rfl rfl ?_
      refine AW.aload_n (n := 20) (dat D_X1_beginAgain 9 rfl) rfl rfl ?_
      refine AW.getI (n := 23) fX1_10 wF_X1_84 ly_19 (le45 rfl) rfl rfl (dat D_X1_beginAgain 10 rfl) rfl ?_
      refine AW.aload_n (n := 24) (dat D_X1_beginAgain 11 rfl) rfl rfl ?_
      refine AW.getQH h (n := 27) fX1_0 wF_X1_12 ly_19 (le45 rfl) rfl rfl (dat D_X1_beginAgain 12 rfl) rfl (fun k5 hpk5 h => ?_)
      refine AW.getI (n := 30) fX6_8 wF_X1_115 (isSea_ly0 hpk5) (by have := isSea_lt hpk5; omega) rfl rfl (dat D_X1_beginAgain 13 rfl) rfl ?_
      refine AW.iadd (n := 31) (dat D_X1_beginAgain 14 rfl) rfl ?_
      refine AW.icmp_leH (t := 63) (n := 34) h (dat D_X1_beginAgain 15 rfl) rfl rfl rfl rfl (fun h => ?_) (fun h => ?_)
      · cases h
        have hb := hb3 _ rfl
        cases hb
        exact AW.to hR3 (lle_n (lle_n (lle_z)))
      · refine AW.aload_n (n := 35) (dat D_X1_beginAgain 16 rfl) rfl rfl ?_
        refine AW.dup (n := 36) (dat D_X1_beginAgain 17 rfl) rfl (cR _) ?_
        refine AW.getI (n := 39) fX1_11 wF_X1_87 ly_19 (le45 rfl) rfl rfl (dat D_X1_beginAgain 18 rfl) rfl ?_
        refine AW.iconst (n := 40) (dat D_X1_beginAgain 19 rfl) rfl ?_
        refine AW.iadd (n := 41) (dat D_X1_beginAgain 20 rfl) rfl ?_
        refine AW.putI (n := 44) fX1_11 wF_X1_87 ly_19 (le45 rfl) rfl rfl rfl (dat D_X1_beginAgain 21 rfl) rfl ?_
        refine AW.ltS h (fun σ6 h => ?_)
        refine AW.aload_n (n := 45) (dat D_X1_beginAgain 22 rfl) rfl rfl ?_
        refine AW.dup (n := 46) (dat D_X1_beginAgain 23 rfl) rfl (cR _) ?_
        refine AW.getI (n := 49) fX1_10 wF_X1_84 ly_19 (le45 rfl) rfl rfl (dat D_X1_beginAgain 24 rfl) rfl ?_
        refine AW.aload_n (n := 50) (dat D_X1_beginAgain 25 rfl) rfl rfl ?_
        refine AW.getQH h (n := 53) fX1_0 wF_X1_12 ly_19 (le45 rfl) rfl rfl (dat D_X1_beginAgain 26 rfl) rfl (fun k7 hpk7 h => ?_)
        refine AW.getI (n := 56) fX6_8 wF_X1_115 (isSea_ly0 hpk7) (by have := isSea_lt hpk7; omega) rfl rfl (dat D_X1_beginAgain 27 rfl) rfl ?_
        refine AW.iadd (n := 57) (dat D_X1_beginAgain 28 rfl) rfl ?_
        refine AW.putI (n := 60) fX1_10 wF_X1_84 ly_19 (le45 rfl) rfl rfl rfl (dat D_X1_beginAgain 29 rfl) rfl ?_
        refine AW.ltS h (fun σ8 h => ?_)
        refine AW.goto (t := 18) (dat D_X1_beginAgain 30 rfl) rfl ?_
        cases h
        exact AW.to (hk3 _ rfl) (lle_s rfl (lle_s rfl (lle_z)))
    · cases h
      exact AW.vret rfl rfl rfl (dat D_X1_beginAgain 7 rfl)
def L_X1_bitsOf : List (Nat × Instr × Nat) := [(0, .iconst 0, 1), (1, .istore_n 2, 1), (2, .iconst 0, 1), (3, .istore_n 3, 1), (4, .iload_n 3, 1), (5, .aload_n 0, 1), (6, .getfield 12, 3), (9, .getfield 56, 3), (12, .if_icmp .ge 46, 3), (15, .iload_n 1, 1), (16, .ifCond .eq 18, 3), (19, .aload_n 0, 1), (20, .getfield 27, 3), (23, .iload_n 3, 1), (24, .aaload, 1), (25, .getfield 150, 3), (28, .ifCond .eq 24, 3), (31, .goto 15, 3), (34, .aload_n 0, 1), (35, .getfield 27, 3), (38, .iload_n 3, 1), (39, .aaload, 1), (40, .getfield 118, 3), (43, .ifCond .eq 9, 3), (46, .iload_n 2, 1), (47, .iconst 1, 1), (48, .iload_n 3, 1), (49, .ishl, 1), (50, .ior, 1), (51, .istore_n 2, 1), (52, .iinc 3 1, 3), (55, .goto (-51), 3), (58, .iload_n 2, 1), (59, .ireturn, 1)]
theorem D_X1_bitsOf : dOK cX1_bitsOf L_X1_bitsOf = true := by decide +kernel
theorem cf_X1_bitsOf : CFV mX1_bitsOf 1 := ⟨wI_X1_bitsOf, wS_X1_bitsOf, wN_WaveRight_Heat, wC_X1_bitsOf, rfl, ⟨by decide +kernel, by decide +kernel, by decide +kernel⟩, le45 rfl⟩
def X1_bitsOf_e4 (n : Nat) (e4 : Int) : Option (Int) :=
  some (e4)
def X1_bitsOf_j52 (n : Nat) (z2 : Int) (y6 : Int) : Option ((Int × Int) ⊕ (Int)) :=
  lt (z2 + 1) fun x8 =>
  some (.inl (y6, x8))
def X1_bitsOf_l4 (n : Nat) (σ : SG) (a0 : Int) (z1 : Int) (z2 : Int) : Option ((Int × Int) ⊕ (Int)) :=
  ckR isSea (σ 19 0) fun k5 =>
  if w32 (σ k5 5) ≤ w32 z2 then
    some (.inr z1)
  else
    ((if w32 a0 = 0 then
      rdA 5 z2 fun j9 => ckR isSw (σ 34 j9) fun k10 =>
      if w32 (σ k10 6) = 0 then
        some (z1)
      else
        lt (bOr z1 (bShl 1 z2)) fun x11 =>
        some (x11)
    else
      rdA 5 z2 fun j12 => ckR isSw (σ 34 j12) fun k13 =>
      if w32 (σ k13 7) = 0 then
        some (z1)
      else
        lt (bOr z1 (bShl 1 z2)) fun x14 =>
        some (x14)) : Option (Int)).bind (fun s => X1_bitsOf_j52 n z2 s)
def X1_bitsOf (n : Nat) (a0 : Int) (σ : SG) : Option (Int) :=
  ((iter n (fun s : Int × Int => X1_bitsOf_l4 n σ a0 s.1 s.2) (0, 0)) : Option (Int)).bind (fun s => X1_bitsOf_e4 n s)
set_option maxHeartbeats 4000000 in
set_option maxRecDepth 100000 in
theorem A_X1_bitsOf {Γ : GA} (hΓ : (gl Γ).stackTraces = false) {n : Nat} {a0 : Int} {σ : SG} {r : Int}  (h : X1_bitsOf n a0 σ = some r) : AM Γ mX1_bitsOf 1 0 0 [vR 19, vI a0] (85, σ) (0, r) (85, σ) := by
  refine AM.of pl_X1 rfl wC_X1_bitsOf (le45 rfl) hΓ ?_
  refine AW.to (ls'' := [some (vR 19), some (vI a0), none, none]) ?_ (lle_s rfl (lle_s rfl (lle_e (lle_e (lle_z)))))
  unfold X1_bitsOf at h
  refine AW.iconst (n := 1) (dat D_X1_bitsOf 0 rfl) rfl ?_
  refine AW.istore_n (n := 2) (ls' := [some (vR 19), some (vI a0), some (vI 0), none]) (dat D_X1_bitsOf 1 rfl) rfl (le45 rfl) (le45 rfl) rfl rfl ?_
  refine AW.iconst (n := 3) (dat D_X1_bitsOf 2 rfl) rfl ?_
  refine AW.istore_n (n := 4) (ls' := [some (vR 19), some (vI a0), some (vI 0), some (vI 0)]) (dat D_X1_bitsOf 3 rfl) rfl (le45 rfl) (le45 rfl) rfl rfl ?_
  obtain ⟨b3, hi3, hq3⟩ := ob_some h
  obtain ⟨e4, e3⟩ : ∃ z, z = b3 := ⟨_, rfl⟩
  subst e3
  have hR3 : AW Γ mX1_bitsOf 1 (0, r) (85, σ) 0 0 58 [none, none, some (vI e4), none] [] (85, σ) := by
    have h : X1_bitsOf_e4 n e4 = some _ := hq3
    unfold X1_bitsOf_e4 at h
    refine AW.iload_n (n := 59) (dat D_X1_bitsOf 32 rfl) rfl rfl ?_
    cases h
    exact AW.iret rfl rfl rfl (dat D_X1_bitsOf 33 rfl)
  refine AW.to (ls'' := [some (vR 19), some (vI a0), some (vI 0), some (vI 0)]) ?_ (lle_s rfl (lle_s rfl (lle_s rfl (lle_s rfl (lle_z)))))
  refine aw_iter (fun s : Int × Int => AW Γ mX1_bitsOf 1 (0, r) (85, σ) 0 0 4 [some (vR 19), some (vI a0), some (vI (s.1)), some (vI (s.2))] [] (85, σ)) (fun s y h hk3 hb3 => ?_) _ _ hi3
  obtain ⟨z1, z2⟩ := s
  show AW Γ mX1_bitsOf 1 (0, r) (85, σ) 0 0 4 [some (vR 19), some (vI a0), some (vI z1), some (vI z2)] [] (85, σ)
  have h : X1_bitsOf_l4 n σ a0 z1 z2 = some y := h
  unfold X1_bitsOf_l4 at h
  refine AW.iload_n (n := 5) (dat D_X1_bitsOf 4 rfl) rfl rfl ?_
  refine AW.aload_n (n := 6) (dat D_X1_bitsOf 5 rfl) rfl rfl ?_
  refine AW.getQH h (n := 9) fX1_0 wF_X1_12 ly_19 (le45 rfl) rfl rfl (dat D_X1_bitsOf 6 rfl) rfl (fun k5 hpk5 h => ?_)
  refine AW.getI (n := 12) fX6_5 wF_X1_56 (isSea_ly0 hpk5) (by have := isSea_lt hpk5; omega) rfl rfl (dat D_X1_bitsOf 7 rfl) rfl ?_
  refine AW.icmp_geH (t := 58) (n := 15) h (dat D_X1_bitsOf 8 rfl) rfl rfl rfl rfl (fun h => ?_) (fun h => ?_)
  · cases h
    have hb := hb3 _ rfl
    cases hb
    exact AW.to hR3 (lle_n (lle_n (lle_s rfl (lle_n (lle_z)))))
  · refine AW.iload_n (n := 16) (dat D_X1_bitsOf 9 rfl) rfl rfl ?_
    obtain ⟨s7, h, hq7⟩ := ob_some h
    obtain ⟨y6, e7⟩ : ∃ z, z = s7 := ⟨_, rfl⟩
    subst e7
    have hJ7 : AW Γ mX1_bitsOf 1 (0, r) (85, σ) 0 0 52 [some (vR 19), some (vI a0), some (vI y6), some (vI z2)] [] (85, σ) := by
      have h : X1_bitsOf_j52 n z2 y6 = some _ := hq7
      unfold X1_bitsOf_j52 at h
      refine AW.iincH h (n := 55) (dat D_X1_bitsOf 30 rfl) rfl rfl (le45 rfl) rfl (fun x8 h => ?_)
      refine AW.lq (ls' := [some (vR 19), some (vI a0), some (vI y6), some (vI x8)]) rfl ?_
      refine AW.goto (t := 4) (dat D_X1_bitsOf 31 rfl) rfl ?_
      cases h
      exact AW.to (hk3 _ rfl) (lle_s rfl (lle_s rfl (lle_s rfl (lle_s rfl (lle_z)))))
    refine AW.if_eqH (t := 34) (n := 19) h (dat D_X1_bitsOf 10 rfl) rfl rfl (fun h => ?_) (fun h => ?_)
    · refine AW.aload_n (n := 35) (dat D_X1_bitsOf 18 rfl) rfl rfl ?_
      refine AW.getR (n := 38) (t := 34) fX1_2 wF_X1_27 ly_19 (le45 rfl) rfl (dat D_X1_bitsOf 19 rfl) rfl ?_
      refine AW.iload_n (n := 39) (dat D_X1_bitsOf 20 rfl) rfl rfl ?_
      refine AW.aaldH h (n := 40) rfl ly_34 (le45 rfl) (dat D_X1_bitsOf 21 rfl) rfl (fun j9 k10 hpk10 h => ?_)
      refine AW.getI (n := 43) fX9_6 wF_X1_118 (isSw_ly0 hpk10) (by have := isSw_lt hpk10; omega) rfl rfl (dat D_X1_bitsOf 22 rfl) rfl ?_
      refine AW.if_eqH (t := 52) (n := 46) h (dat D_X1_bitsOf 23 rfl) rfl rfl (fun h => ?_) (fun h => ?_)
      · cases h
        exact AW.to hJ7 (lle_s rfl (lle_s rfl (lle_s rfl (lle_s rfl (lle_z)))))
      · refine AW.iload_n (n := 47) (dat D_X1_bitsOf 24 rfl) rfl rfl ?_
        refine AW.iconst (n := 48) (dat D_X1_bitsOf 25 rfl) rfl ?_
        refine AW.iload_n (n := 49) (dat D_X1_bitsOf 26 rfl) rfl rfl ?_
        refine AW.ishl (n := 50) (dat D_X1_bitsOf 27 rfl) rfl ?_
        refine AW.ior (n := 51) (dat D_X1_bitsOf 28 rfl) rfl ?_
        refine AW.ltI h (fun x11 h => ?_)
        refine AW.istore_n (n := 52) (ls' := [some (vR 19), some (vI a0), some (vI x11), some (vI z2)]) (dat D_X1_bitsOf 29 rfl) rfl (le45 rfl) (le45 rfl) rfl rfl ?_
        cases h
        exact AW.to hJ7 (lle_s rfl (lle_s rfl (lle_s rfl (lle_s rfl (lle_z)))))
    · refine AW.aload_n (n := 20) (dat D_X1_bitsOf 11 rfl) rfl rfl ?_
      refine AW.getR (n := 23) (t := 34) fX1_2 wF_X1_27 ly_19 (le45 rfl) rfl (dat D_X1_bitsOf 12 rfl) rfl ?_
      refine AW.iload_n (n := 24) (dat D_X1_bitsOf 13 rfl) rfl rfl ?_
      refine AW.aaldH h (n := 25) rfl ly_34 (le45 rfl) (dat D_X1_bitsOf 14 rfl) rfl (fun j12 k13 hpk13 h => ?_)
      refine AW.getI (n := 28) fX9_7 wF_X1_150 (isSw_ly0 hpk13) (by have := isSw_lt hpk13; omega) rfl rfl (dat D_X1_bitsOf 15 rfl) rfl ?_
      refine AW.if_eqH (t := 52) (n := 31) h (dat D_X1_bitsOf 16 rfl) rfl rfl (fun h => ?_) (fun h => ?_)
      · cases h
        exact AW.to hJ7 (lle_s rfl (lle_s rfl (lle_s rfl (lle_s rfl (lle_z)))))
      · refine AW.goto (t := 46) (dat D_X1_bitsOf 17 rfl) rfl ?_
        refine AW.iload_n (n := 47) (dat D_X1_bitsOf 24 rfl) rfl rfl ?_
        refine AW.iconst (n := 48) (dat D_X1_bitsOf 25 rfl) rfl ?_
        refine AW.iload_n (n := 49) (dat D_X1_bitsOf 26 rfl) rfl rfl ?_
        refine AW.ishl (n := 50) (dat D_X1_bitsOf 27 rfl) rfl ?_
        refine AW.ior (n := 51) (dat D_X1_bitsOf 28 rfl) rfl ?_
        refine AW.ltI h (fun x14 h => ?_)
        refine AW.istore_n (n := 52) (ls' := [some (vR 19), some (vI a0), some (vI x14), some (vI z2)]) (dat D_X1_bitsOf 29 rfl) rfl (le45 rfl) (le45 rfl) rfl rfl ?_
        cases h
        exact AW.to hJ7 (lle_s rfl (lle_s rfl (lle_s rfl (lle_s rfl (lle_z)))))
def L_X5_aheadOf : List (Nat × Instr × Nat) := [(0, .iconst 0, 1), (1, .istore_n 3, 1), (2, .iload_n 3, 1), (3, .aload_n 0, 1), (4, .getfield 15, 3), (7, .if_icmp .ge 36, 3), (10, .aload_n 0, 1), (11, .getfield 9, 3), (14, .iload_n 3, 1), (15, .iaload, 1), (16, .iload_n 1, 1), (17, .if_icmp .eq 13, 3), (20, .aload_n 0, 1), (21, .getfield 9, 3), (24, .iload_n 3, 1), (25, .iaload, 1), (26, .iload_n 2, 1), (27, .if_icmp .ne 10, 3), (30, .aload_n 0, 1), (31, .getfield 9, 3), (34, .iload_n 3, 1), (35, .iaload, 1), (36, .ireturn, 1), (37, .iinc 3 1, 3), (40, .goto (-38), 3), (43, .iconst (-1), 1), (44, .ireturn, 1)]
theorem D_X5_aheadOf : dOK cX5_aheadOf L_X5_aheadOf = true := by decide +kernel
theorem cf_X5_aheadOf : CFV mX5_aheadOf 2 := ⟨wI_X5_aheadOf, wS_X5_aheadOf, wN_WaveRight_Row, wC_X5_aheadOf, rfl, ⟨by decide +kernel, by decide +kernel, by decide +kernel⟩, le45 rfl⟩
def X5_aheadOf_e2 (n : Nat) : Option (Int) :=
  some ((-1))
def X5_aheadOf_l2 (n : Nat) (σ : SG) (a0 : Int) (a1 : Int) (z1 : Int) : Option ((Int) ⊕ ((Unit) ⊕ (Int))) :=
  if w32 (σ 35 1) ≤ w32 z1 then
    some (.inr (.inl ()))
  else
    rdA 5 z1 fun j3 =>
    if w32 (σ 36 j3) = w32 a0 then
      rdA 5 z1 fun j4 =>
      some (.inr (.inr (σ 36 j4)))
    else
      rdA 5 z1 fun j5 =>
      if w32 (σ 36 j5) = w32 a1 then
        rdA 5 z1 fun j7 =>
        some (.inr (.inr (σ 36 j7)))
      else
        lt (z1 + 1) fun x6 =>
        some (.inl x6)
def X5_aheadOf (n : Nat) (a0 : Int) (a1 : Int) (σ : SG) : Option (Int) :=
  ((iter n (fun s : Int => X5_aheadOf_l2 n σ a0 a1 s) 0) : Option ((Unit) ⊕ (Int))).bind (orr (fun s => X5_aheadOf_e2 n))
set_option maxHeartbeats 4000000 in
set_option maxRecDepth 100000 in
theorem A_X5_aheadOf {Γ : GA} (hΓ : (gl Γ).stackTraces = false) {n : Nat} {a0 : Int} {a1 : Int} {σ : SG} {r : Int}  (h : X5_aheadOf n a0 a1 σ = some r) : AM Γ mX5_aheadOf 1 0 0 [vR 35, vI a0, vI a1] (85, σ) (0, r) (85, σ) := by
  refine AM.of pl_X5 rfl wC_X5_aheadOf (le45 rfl) hΓ ?_
  refine AW.to (ls'' := [some (vR 35), some (vI a0), some (vI a1), none]) ?_ (lle_s rfl (lle_s rfl (lle_s rfl (lle_e (lle_z)))))
  unfold X5_aheadOf at h
  refine AW.iconst (n := 1) (dat D_X5_aheadOf 0 rfl) rfl ?_
  refine AW.istore_n (n := 2) (ls' := [some (vR 35), some (vI a0), some (vI a1), some (vI 0)]) (dat D_X5_aheadOf 1 rfl) rfl (le45 rfl) (le45 rfl) rfl rfl ?_
  obtain ⟨b2, hi2, hq2⟩ := ob_some h
  have hR2 : ∀ (_ : Unit), b2 = .inl () → AW Γ mX5_aheadOf 1 (0, r) (85, σ) 0 0 43 [none, none, none, none] [] (85, σ) := by
    intro _ e
    subst e
    have h : X5_aheadOf_e2 n = some _ := hq2
    unfold X5_aheadOf_e2 at h
    refine AW.iconst (n := 44) (dat D_X5_aheadOf 25 rfl) rfl ?_
    cases h
    exact AW.iret rfl rfl rfl (dat D_X5_aheadOf 26 rfl)
  refine AW.to (ls'' := [some (vR 35), some (vI a0), some (vI a1), some (vI 0)]) ?_ (lle_s rfl (lle_s rfl (lle_s rfl (lle_s rfl (lle_z)))))
  refine aw_iter (fun s : Int => AW Γ mX5_aheadOf 1 (0, r) (85, σ) 0 0 2 [some (vR 35), some (vI a0), some (vI a1), some (vI s)] [] (85, σ)) (fun s y h hk2 hb2 => ?_) _ _ hi2
  obtain ⟨z1, e2⟩ : ∃ z, z = s := ⟨_, rfl⟩
  subst e2
  show AW Γ mX5_aheadOf 1 (0, r) (85, σ) 0 0 2 [some (vR 35), some (vI a0), some (vI a1), some (vI z1)] [] (85, σ)
  have h : X5_aheadOf_l2 n σ a0 a1 z1 = some y := h
  unfold X5_aheadOf_l2 at h
  refine AW.iload_n (n := 3) (dat D_X5_aheadOf 2 rfl) rfl rfl ?_
  refine AW.aload_n (n := 4) (dat D_X5_aheadOf 3 rfl) rfl rfl ?_
  refine AW.getI (n := 7) fX5_1 wF_X5_15 ly_35 (le45 rfl) rfl rfl (dat D_X5_aheadOf 4 rfl) rfl ?_
  refine AW.icmp_geH (t := 43) (n := 10) h (dat D_X5_aheadOf 5 rfl) rfl rfl rfl rfl (fun h => ?_) (fun h => ?_)
  · cases h
    have hb := hb2 _ rfl
    exact AW.to (hR2 () hb.symm) (lle_n (lle_n (lle_n (lle_n (lle_z)))))
  · refine AW.aload_n (n := 11) (dat D_X5_aheadOf 6 rfl) rfl rfl ?_
    refine AW.getR (n := 14) (t := 36) fX5_0 wF_X5_9 ly_35 (le45 rfl) rfl (dat D_X5_aheadOf 7 rfl) rfl ?_
    refine AW.iload_n (n := 15) (dat D_X5_aheadOf 8 rfl) rfl rfl ?_
    refine AW.ialdH h (n := 16) rfl ly_36 (le45 rfl) (dat D_X5_aheadOf 9 rfl) rfl (fun j3 h => ?_)
    refine AW.iload_n (n := 17) (dat D_X5_aheadOf 10 rfl) rfl rfl ?_
    refine AW.icmp_eqH (t := 30) (n := 20) h (dat D_X5_aheadOf 11 rfl) rfl rfl rfl rfl (fun h => ?_) (fun h => ?_)
    · refine AW.aload_n (n := 31) (dat D_X5_aheadOf 18 rfl) rfl rfl ?_
      refine AW.getR (n := 34) (t := 36) fX5_0 wF_X5_9 ly_35 (le45 rfl) rfl (dat D_X5_aheadOf 19 rfl) rfl ?_
      refine AW.iload_n (n := 35) (dat D_X5_aheadOf 20 rfl) rfl rfl ?_
      refine AW.ialdH h (n := 36) rfl ly_36 (le45 rfl) (dat D_X5_aheadOf 21 rfl) rfl (fun j4 h => ?_)
      cases h
      have hb := hb2 _ rfl
      subst hb
      have h := hq2
      have h : some _ = some _ := h
      cases h
      exact AW.iret rfl rfl rfl (dat D_X5_aheadOf 22 rfl)
    · refine AW.aload_n (n := 21) (dat D_X5_aheadOf 12 rfl) rfl rfl ?_
      refine AW.getR (n := 24) (t := 36) fX5_0 wF_X5_9 ly_35 (le45 rfl) rfl (dat D_X5_aheadOf 13 rfl) rfl ?_
      refine AW.iload_n (n := 25) (dat D_X5_aheadOf 14 rfl) rfl rfl ?_
      refine AW.ialdH h (n := 26) rfl ly_36 (le45 rfl) (dat D_X5_aheadOf 15 rfl) rfl (fun j5 h => ?_)
      refine AW.iload_n (n := 27) (dat D_X5_aheadOf 16 rfl) rfl rfl ?_
      refine AW.icmp_neH (t := 37) (n := 30) h (dat D_X5_aheadOf 17 rfl) rfl rfl rfl rfl (fun h => ?_) (fun h => ?_)
      · refine AW.aload_n (n := 31) (dat D_X5_aheadOf 18 rfl) rfl rfl ?_
        refine AW.getR (n := 34) (t := 36) fX5_0 wF_X5_9 ly_35 (le45 rfl) rfl (dat D_X5_aheadOf 19 rfl) rfl ?_
        refine AW.iload_n (n := 35) (dat D_X5_aheadOf 20 rfl) rfl rfl ?_
        refine AW.ialdH h (n := 36) rfl ly_36 (le45 rfl) (dat D_X5_aheadOf 21 rfl) rfl (fun j7 h => ?_)
        cases h
        have hb := hb2 _ rfl
        subst hb
        have h := hq2
        have h : some _ = some _ := h
        cases h
        exact AW.iret rfl rfl rfl (dat D_X5_aheadOf 22 rfl)
      · refine AW.iincH h (n := 40) (dat D_X5_aheadOf 23 rfl) rfl rfl (le45 rfl) rfl (fun x6 h => ?_)
        refine AW.lq (ls' := [some (vR 35), some (vI a0), some (vI a1), some (vI x6)]) rfl ?_
        refine AW.goto (t := 2) (dat D_X5_aheadOf 24 rfl) rfl ?_
        cases h
        exact AW.to (hk2 _ rfl) (lle_s rfl (lle_s rfl (lle_s rfl (lle_s rfl (lle_z)))))
def L_X1_rightOf : List (Nat × Instr × Nat) := [(0, .aload_n 0, 1), (1, .getfield 34, 3), (4, .getfield 141, 3), (7, .ifCond .eq 13, 3), (10, .aload_n 0, 1), (11, .getfield 34, 3), (14, .iload_n 1, 1), (15, .iload_n 2, 1), (16, .invokevirtual 162, 3), (19, .ireturn, 1), (20, .aload_n 0, 1), (21, .getfield 12, 3), (24, .aload_n 0, 1), (25, .getfield 45, 3), (28, .iconst 1, 1), (29, .invokevirtual 102, 3), (32, .istore_n 3, 1), (33, .aload_n 0, 1), (34, .getfield 27, 3), (37, .iload_n 1, 1), (38, .aaload, 1), (39, .getfield 135, 3), (42, .iload_n 3, 1), (43, .isub, 1), (44, .invokestatic 165, 3), (47, .istore 4, 2), (49, .aload_n 0, 1), (50, .getfield 27, 3), (53, .iload_n 2, 1), (54, .aaload, 1), (55, .getfield 135, 3), (58, .iload_n 3, 1), (59, .isub, 1), (60, .invokestatic 165, 3), (63, .istore 5, 2), (65, .iload 4, 2), (67, .iload 5, 2), (69, .if_icmp .ne 11, 3), (72, .iload_n 1, 1), (73, .iload_n 2, 1), (74, .invokestatic 171, 3), (77, .goto 15, 3), (80, .iload 4, 2), (82, .iload 5, 2), (84, .if_icmp .ge 7, 3), (87, .iload_n 1, 1), (88, .goto 4, 3), (91, .iload_n 2, 1), (92, .ireturn, 1)]
theorem D_X1_rightOf : dOK cX1_rightOf L_X1_rightOf = true := by decide +kernel
theorem cf_X1_rightOf : CFV mX1_rightOf 2 := ⟨wI_X1_rightOf, wS_X1_rightOf, wN_WaveRight_Heat, wC_X1_rightOf, rfl, ⟨by decide +kernel, by decide +kernel, by decide +kernel⟩, le45 rfl⟩
def X1_rightOf (n : Nat) (a0 : Int) (a1 : Int) (σ : SG) : Option (Int) :=
  if w32 (σ 35 2) = 0 then
    ckR isSea (σ 19 0) fun k1 =>
    (X6_factOf n k1 (σ 19 13) 1 σ).bind fun v3 =>
    rdA 5 a0 fun j4 => ckR isSw (σ 34 j4) fun k5 =>
    lt (ab32 ((σ k5 3) - v3)) fun x6 =>
    rdA 5 a1 fun j7 => ckR isSw (σ 34 j7) fun k8 =>
    lt (ab32 ((σ k8 3) - v3)) fun x9 =>
    if w32 x6 = w32 x9 then
      some ((mn32 a0 a1))
    else
      if w32 x9 ≤ w32 x6 then
        some (a1)
      else
        some (a0)
  else
    (X5_aheadOf n a0 a1 σ).bind fun v11 =>
    some (v11)
set_option maxHeartbeats 4000000 in
set_option maxRecDepth 100000 in
theorem A_X1_rightOf {Γ : GA} (hΓ : (gl Γ).stackTraces = false) {n : Nat} {a0 : Int} {a1 : Int} {σ : SG} {r : Int}  (h : X1_rightOf n a0 a1 σ = some r) : AM Γ mX1_rightOf 2 0 0 [vR 19, vI a0, vI a1] (85, σ) (0, r) (85, σ) := by
  refine AM.of pl_X1 rfl wC_X1_rightOf (le45 rfl) hΓ ?_
  refine AW.to (ls'' := [some (vR 19), some (vI a0), some (vI a1), none, none, none]) ?_ (lle_s rfl (lle_s rfl (lle_s rfl (lle_e (lle_e (lle_e (lle_z)))))))
  unfold X1_rightOf at h
  refine AW.aload_n (n := 1) (dat D_X1_rightOf 0 rfl) rfl rfl ?_
  refine AW.getR (n := 4) (t := 35) fX1_3 wF_X1_34 ly_19 (le45 rfl) rfl (dat D_X1_rightOf 1 rfl) rfl ?_
  refine AW.getI (n := 7) fX5_2 wF_X1_141 ly_35 (le45 rfl) rfl rfl (dat D_X1_rightOf 2 rfl) rfl ?_
  refine AW.if_eqH (t := 20) (n := 10) h (dat D_X1_rightOf 3 rfl) rfl rfl (fun h => ?_) (fun h => ?_)
  · refine AW.aload_n (n := 21) (dat D_X1_rightOf 10 rfl) rfl rfl ?_
    refine AW.getQH h (n := 24) fX1_0 wF_X1_12 ly_19 (le45 rfl) rfl rfl (dat D_X1_rightOf 11 rfl) rfl (fun k1 hpk1 h => ?_)
    refine AW.aload_n (n := 25) (dat D_X1_rightOf 12 rfl) rfl rfl ?_
    refine AW.getI (n := 28) fX1_13 wF_X1_45 ly_19 (le45 rfl) rfl rfl (dat D_X1_rightOf 13 rfl) rfl ?_
    refine AW.iconst (n := 29) (dat D_X1_rightOf 14 rfl) rfl ?_
    obtain ⟨v3, hc2, h⟩ := ob_some h
    refine AW.cV (n := 32) (as := [vI (σ 19 13), vI 1]) (st := []) (st' := [vI v3]) (uc' := 0) (us' := 0) (A_X6_factOf hΓ hpk1 hc2) cf_X6_factOf (isSea_ly0 hpk1) (by have := isSea_lt hpk1; omega) vc_6 (le45 rfl) wM_X1_102 (le45 rfl) (le45 rfl) (dat D_X1_rightOf 15 rfl) rfl rfl (le45 rfl) (le45 rfl) rfl (fun _ => ?_) nlt0
    refine AW.istore_n (n := 33) (ls' := [some (vR 19), some (vI a0), some (vI a1), some (vI v3), none, none]) (dat D_X1_rightOf 16 rfl) rfl (le45 rfl) (le45 rfl) rfl rfl ?_
    refine AW.aload_n (n := 34) (dat D_X1_rightOf 17 rfl) rfl rfl ?_
    refine AW.getR (n := 37) (t := 34) fX1_2 wF_X1_27 ly_19 (le45 rfl) rfl (dat D_X1_rightOf 18 rfl) rfl ?_
    refine AW.iload_n (n := 38) (dat D_X1_rightOf 19 rfl) rfl rfl ?_
    refine AW.aaldH h (n := 39) rfl ly_34 (le45 rfl) (dat D_X1_rightOf 20 rfl) rfl (fun j4 k5 hpk5 h => ?_)
    refine AW.getI (n := 42) fX9_3 wF_X1_135 (isSw_ly0 hpk5) (by have := isSw_lt hpk5; omega) rfl rfl (dat D_X1_rightOf 21 rfl) rfl ?_
    refine AW.iload_n (n := 43) (dat D_X1_rightOf 22 rfl) rfl rfl ?_
    refine AW.isub (n := 44) (dat D_X1_rightOf 23 rfl) rfl ?_
    refine AW.mabs (n := 47) wM_X1_165 (le45 rfl) (le45 rfl) (dat D_X1_rightOf 24 rfl) rfl ?_
    refine AW.ltI h (fun x6 h => ?_)
    refine AW.istore (n := 49) (ls' := [some (vR 19), some (vI a0), some (vI a1), some (vI v3), some (vI x6), none]) (dat D_X1_rightOf 25 rfl) rfl (le45 rfl) (le45 rfl) rfl rfl ?_
    refine AW.aload_n (n := 50) (dat D_X1_rightOf 26 rfl) rfl rfl ?_
    refine AW.getR (n := 53) (t := 34) fX1_2 wF_X1_27 ly_19 (le45 rfl) rfl (dat D_X1_rightOf 27 rfl) rfl ?_
    refine AW.iload_n (n := 54) (dat D_X1_rightOf 28 rfl) rfl rfl ?_
    refine AW.aaldH h (n := 55) rfl ly_34 (le45 rfl) (dat D_X1_rightOf 29 rfl) rfl (fun j7 k8 hpk8 h => ?_)
    refine AW.getI (n := 58) fX9_3 wF_X1_135 (isSw_ly0 hpk8) (by have := isSw_lt hpk8; omega) rfl rfl (dat D_X1_rightOf 30 rfl) rfl ?_
    refine AW.iload_n (n := 59) (dat D_X1_rightOf 31 rfl) rfl rfl ?_
    refine AW.isub (n := 60) (dat D_X1_rightOf 32 rfl) rfl ?_
    refine AW.mabs (n := 63) wM_X1_165 (le45 rfl) (le45 rfl) (dat D_X1_rightOf 33 rfl) rfl ?_
    refine AW.ltI h (fun x9 h => ?_)
    refine AW.istore (n := 65) (ls' := [some (vR 19), some (vI a0), some (vI a1), some (vI v3), some (vI x6), some (vI x9)]) (dat D_X1_rightOf 34 rfl) rfl (le45 rfl) (le45 rfl) rfl rfl ?_
    refine AW.iload (n := 67) (dat D_X1_rightOf 35 rfl) rfl rfl ?_
    refine AW.iload (n := 69) (dat D_X1_rightOf 36 rfl) rfl rfl ?_
    refine AW.icmp_neH (t := 80) (n := 72) h (dat D_X1_rightOf 37 rfl) rfl rfl rfl rfl (fun h => ?_) (fun h => ?_)
    · refine AW.iload_n (n := 73) (dat D_X1_rightOf 38 rfl) rfl rfl ?_
      refine AW.iload_n (n := 74) (dat D_X1_rightOf 39 rfl) rfl rfl ?_
      refine AW.mmin (n := 77) wM_X1_171 (le45 rfl) (le45 rfl) (dat D_X1_rightOf 40 rfl) rfl ?_
      refine AW.goto (t := 92) (dat D_X1_rightOf 41 rfl) rfl ?_
      cases h
      exact AW.iret rfl rfl rfl (dat D_X1_rightOf 48 rfl)
    · refine AW.iload (n := 82) (dat D_X1_rightOf 42 rfl) rfl rfl ?_
      refine AW.iload (n := 84) (dat D_X1_rightOf 43 rfl) rfl rfl ?_
      refine AW.icmp_geH (t := 91) (n := 87) h (dat D_X1_rightOf 44 rfl) rfl rfl rfl rfl (fun h => ?_) (fun h => ?_)
      · refine AW.iload_n (n := 92) (dat D_X1_rightOf 47 rfl) rfl rfl ?_
        cases h
        exact AW.iret rfl rfl rfl (dat D_X1_rightOf 48 rfl)
      · refine AW.iload_n (n := 88) (dat D_X1_rightOf 45 rfl) rfl rfl ?_
        refine AW.goto (t := 92) (dat D_X1_rightOf 46 rfl) rfl ?_
        cases h
        exact AW.iret rfl rfl rfl (dat D_X1_rightOf 48 rfl)
  · refine AW.aload_n (n := 11) (dat D_X1_rightOf 4 rfl) rfl rfl ?_
    refine AW.getR (n := 14) (t := 35) fX1_3 wF_X1_34 ly_19 (le45 rfl) rfl (dat D_X1_rightOf 5 rfl) rfl ?_
    refine AW.iload_n (n := 15) (dat D_X1_rightOf 6 rfl) rfl rfl ?_
    refine AW.iload_n (n := 16) (dat D_X1_rightOf 7 rfl) rfl rfl ?_
    obtain ⟨v11, hc10, h⟩ := ob_some h
    refine AW.cV (n := 19) (as := [vI a0, vI a1]) (st := []) (st' := [vI v11]) (uc' := 0) (us' := 0) (A_X5_aheadOf hΓ hc10) cf_X5_aheadOf ly_35 (le45 rfl) vc_5 (le45 rfl) wM_X1_162 (le45 rfl) (le45 rfl) (dat D_X1_rightOf 8 rfl) rfl rfl (le45 rfl) (le45 rfl) rfl (fun _ => ?_) nlt0
    cases h
    exact AW.iret rfl rfl rfl (dat D_X1_rightOf 9 rfl)
