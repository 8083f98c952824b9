/-! ===== the law's methods with handlers (printed by wip/whole/gen/wrap.py) ===== -/
theorem pl_L : plainName RL = true := by decide +kernel
section AWw
variable {Γ : GA} {M M' : MT} {d d' mc' ms' : Nat} {o0 o1 : Nat × Int} {S0 S1 S : AS} {uc us uc' us' pc n idx : Nat} {ls ls' : List (Option AV)} {st st' as : List AV} {h0 : Nat × Nat × Nat × Nat} {ht : List (Nat × Nat × Nat × Nat)}
theorem aCode_cons (h : M'.2.2.2.2 = h0 :: ht) : aCode M' = Cond.codeWith M'.1 M'.2.1 M'.2.2.1 M'.2.2.2.1 M'.2.2.2.2 := by
  unfold aCode; rw [h]
theorem AM.ofH {mc ms : Nat} (hf : plainName M.1.cls = true) (hh : M.2.2.2.2 = h0 :: ht) (hI : aCode M ∈ WT) (hi : M.1.name ≠ "<init>") (hlen : (aEnt as).length ≤ M.2.2.1) (hst : (gl Γ).stackTraces = false)
    (k : AW Γ M d o0 S0 mc ms 0 (aEnt as) [] S) : AM Γ M d mc ms as S o0 S0 := by
  refine vx_ofWH (cc := M.2.1) (maxL := M.2.2.1) (ret := M.2.2.2.1) (hh := M.2.2.2.2) hf (by rw [aWs, aCode_cons hh]) ?_
  intro p e s m args below meth c s₁ B hml hv
  obtain ⟨rfl, hP, hz, hK, hok, hsz⟩ := hv
  have hts0 := atoms_spec (ws := aWs M) B.pre
  have hts : ∀ w ∈ WT, w.before (as.map (aV Γ)).toArray s = true := fun w hw => hts0 w (List.mem_cons_of_mem _ hw)
  have hco : (Cond.codeWith M.1 M.2.1 M.2.2.1 M.2.2.2.1 M.2.2.2.2).before (as.map (aV Γ)).toArray s = true := by
    have q := hts _ hI
    rw [aCode_cons hh] at q
    exact q
  have hl := lv_entry (as.map (aV Γ)) (n := M.2.2.1) (Nat.le_trans (aEnt_len (Γ := Γ) as) hlen)
  rw [lg_entry_eq]
  refine k p e _ s m _ below meth c mc ms ⟨⟨B.exec, B.bytes, hml, B.returns, findClass_of_methodNamed B.named, B.notSynchronized, vx_table (x := M.1) B hco, fun q => absurd q hi⟩, ⟨hts, hK, hok, by omega, hst⟩, Nat.le_refl _, Nat.le_refl _⟩ s.heap [] 0 0 _ ⟨hP, hz⟩ va_S.rf ⟨by omega, by omega, Nat.le_refl _, Nat.le_refl _, fun h => by have := hsz h; omega⟩ ⟨hl.1, hl.2.1, fun q hq => hl.2.2 q ?_⟩
  obtain ⟨v, h1, h2⟩ := aLl_mem.mp hq
  have h3 := aEnt_mem (Γ := Γ) as 0 q.1 v h1
  rw [Nat.zero_add, ← h2] at h3
  exact h3
theorem AW.callSX (hM : AM Γ M' d' mc' ms' as S o1 S1) (hh : M'.2.2.2.2 = h0 :: ht)
    (hl : Cond.methodLink M.1.cls idx M'.1 ∈ WT) (hI : Cond.static M'.1 ∈ WT) (hN : Cond.initialized M'.1.cls ∈ WT) (hC : aCode M' ∈ WT) (hfit : fitM M' as.length) (hml : M'.2.2.1 ≤ 45) (hd' : d' + 1 ≤ d) (hst : st.length ≤ 4)
    (hd : decode M.2.1 pc = .ok (.invokestatic idx, 3)) (hn : pc + 3 = n) (hmc : S1.1 < 85 → S.1 < 85 ∧ S.1 + mc' = S1.1) (hu1 : mc' + uc' ≤ uc) (hu2 : ms' + us' ≤ us) (hs : rS M'.2.2.2.1 o1.2 ++ st = st')
    (k0 : o1.1 = 0 → AW Γ M d o0 S0 uc' us' n ls st' S1) (kx : 0 < o1.1 → AX Γ M d o0 S0 uc' us' pc ls o1.1 S1) : AW Γ M d o0 S0 uc us pc ls (as.reverse ++ st) S := by
  subst hs
  refine AW.run (M' := M') (o1 := o1) (S1 := S1) (fun p e R s m args below meth c9 C H locs cells slots lr hP hS hc hls hsz => ?_) hmc hu1 hu2 hn k0 kx
  have hrm := C.rm
  refine ⟨_, (as.map (aV Γ)).toArray, rfl, vx_runSX (As := as.map (aV Γ)) (hh := M'.2.2.2.2) ⟨C.x, C.b, C.l, C.o, C.w⟩ hM
    (vx_cwSW as.length C.w (gin (in3 hl hI hN) hC) (by rw [aWs, aCode_cons hh]) rfl rfl ⟨hfit.1, hfit.2.1, hfit.2.2⟩ ⟨by show d' + 1 ≤ R.frames; omega, by show 8 + (M'.2.2.1 + 11) + 64 * d' ≤ R.locals; omega⟩)
    ⟨aB_blind Γ S _, fun U hU hW => ⟨rfl, aB_of C hP hS hU hW hsz⟩⟩ rfl (by simp) hls (by simp [List.map_append]) (lv_room (Nat.le_trans (aV_sum st) (by omega))) (by rw [← C.b] at hd; rw [← C.b]; exact hd) hc⟩
theorem AX.catch {k tgt ty fr to : Nat} {pre suf : List (Nat × Nat × Nat × Nat)} (hh : M.2.2.2.2 = pre ++ (fr, to, tgt, ty) :: suf) (hpre : ∀ z ∈ pre, z.2.2.2 ≠ 0 ∧ ∃ nm2, Cond.classLink M.1.cls z.2.2.2 nm2 ∈ WT ∧ (exN k, nm2) ∈ ncT) (hcov : covers ⟨fr, to, tgt, ty⟩ pc = true) (hty : ty ≠ 0)
    (hl : Cond.classLink M.1.cls ty (exN k) ∈ WT) (hcast : Cond.castable (exN k) (exN k) ∈ WT ∨ Cond.castable (exN k) (exN k) ∈ WN) (kk : ∀ q : Nat, AW Γ M d o0 S0 uc us tgt ls [vA q] S) : AX Γ M d o0 S0 uc us pc ls k S := by
  intro p e R s m args below meth c mc ms C H locs cells slots lr q ce rest hP hS hc hL hce hcv hcl
  have k2 := kk q p e R s m args below meth c mc ms C H locs cells slots lr hP hS hc hL
  simp only [List.map_cons, List.map_nil, aV_A] at k2
  refine vx_catch (name := exN k) C.o (tableOf pre) ⟨fr, to, tgt, ty⟩ (tableOf suf) (by rw [C.t, hh, tableOf, List.map_append, List.map_cons]; rfl) (fun z hz => Or.inr ?_) hcov hty (C.w _ hl) (hcast.elim (C.w _) (wn_before C)) hce hcv hcl k2
  obtain ⟨w, hw, rfl⟩ := List.mem_map.mp hz
  obtain ⟨g1, nm2, g2, g3⟩ := hpre w hw
  exact ⟨g1, nm2, C.w _ g2, C.q.2.2.2.2.2.1 _ g3⟩
end AWw
/-- what a wrapper leaves in the law's cell, and what it answers -/
def lxI (o : Nat × Int) (τ : SG) : SG := if o.1 = 0 then up τ 84 0 (w32 o.2) else τ
def lxL (o : Nat × Int) (τ : SG) : SG := if o.1 = 0 then up τ 84 0 o.2 else τ
def cdL (l : List Nat) (k : Nat) : Int := if k = 0 then 0 else ((l.idxOf k : Nat) : Int) + 1
theorem cx_1 : Cond.castable (exN 1) (exN 1) ∈ WT ∨ Cond.castable (exN 1) (exN 1) ∈ WN := by first | exact Or.inl (wt_t 1040 (by decide +kernel) rfl) | exact Or.inr (wn_t 1040 (by decide +kernel) (by decide +kernel))
theorem cx_2 : Cond.castable (exN 2) (exN 2) ∈ WT ∨ Cond.castable (exN 2) (exN 2) ∈ WN := by first | exact Or.inl (wt_t 825 (by decide +kernel) rfl) | exact Or.inr (wn_t 825 (by decide +kernel) (by decide +kernel))
theorem cx_3 : Cond.castable (exN 3) (exN 3) ∈ WT ∨ Cond.castable (exN 3) (exN 3) ∈ WN := by first | exact Or.inl (wt_t 1060 (by decide +kernel) rfl) | exact Or.inr (wn_t 1060 (by decide +kernel) (by decide +kernel))
theorem cx_4 : Cond.castable (exN 4) (exN 4) ∈ WT ∨ Cond.castable (exN 4) (exN 4) ∈ WN := by first | exact Or.inl (wt_t 1011 (by decide +kernel) rfl) | exact Or.inr (wn_t 1011 (by decide +kernel) (by decide +kernel))
theorem nc_1_2 : (exN 1, "java/lang/IllegalArgumentException") ∈ ncT := by decide +kernel
theorem nc_1_3 : (exN 1, "java/util/NoSuchElementException") ∈ ncT := by decide +kernel
theorem nc_1_4 : (exN 1, "java/lang/IllegalStateException") ∈ ncT := by decide +kernel
theorem nc_2_1 : (exN 2, "java/lang/IndexOutOfBoundsException") ∈ ncT := by decide +kernel
theorem nc_2_3 : (exN 2, "java/util/NoSuchElementException") ∈ ncT := by decide +kernel
theorem nc_2_4 : (exN 2, "java/lang/IllegalStateException") ∈ ncT := by decide +kernel
theorem nc_3_1 : (exN 3, "java/lang/IndexOutOfBoundsException") ∈ ncT := by decide +kernel
theorem nc_3_2 : (exN 3, "java/lang/IllegalArgumentException") ∈ ncT := by decide +kernel
theorem nc_3_4 : (exN 3, "java/lang/IllegalStateException") ∈ ncT := by decide +kernel
theorem nc_4_1 : (exN 4, "java/lang/IndexOutOfBoundsException") ∈ ncT := by decide +kernel
theorem nc_4_2 : (exN 4, "java/lang/IllegalArgumentException") ∈ ncT := by decide +kernel
theorem nc_4_3 : (exN 4, "java/util/NoSuchElementException") ∈ ncT := by decide +kernel
def L_L_sea : List (Nat × Instr × Nat) := [(0, .aload_n 1, 1), (1, .iconst 0, 1), (2, .aload_n 0, 1), (3, .invokevirtual 7, 3), (6, .i2l, 1), (7, .lastore, 1), (8, .goto 6, 3), (11, .astore_n 2, 1), (12, .iconst 1, 1), (13, .ireturn, 1), (14, .iconst 0, 1), (15, .ireturn, 1)]
theorem D_L_sea : dOK cL_sea L_L_sea = true := by decide +kernel
theorem ft_L_sea : fitM mL_sea 2 := ⟨by decide +kernel, by decide +kernel, by decide +kernel⟩
set_option maxRecDepth 100000 in
set_option maxHeartbeats 4000000 in
theorem A_L_sea {Γ : GA} (hΓ : (gl Γ).stackTraces = false) {n : Nat} {σ τ : SG} {o : Nat × Int} (h : X11_sea n σ = some (o, τ)) (hk : o.1 = 0 ∨ o.1 = 2) : AM Γ mL_sea 16 8 48 [vR 0, vR 84] (85, σ) (0, cdL [2] o.1) (85, lxI o τ) := by
  have h9 := A_X11_sea hΓ h
  clear h
  obtain ⟨k, v⟩ := o
  simp only at hk h9
  refine AM.ofH (h0 := (0, 8, 11, 13)) (ht := []) pl_L rfl wC_L_sea (by decide) (le45 rfl) hΓ ?_
  refine AW.to (ls'' := [some (vR 0), some (vR 84), none]) ?_ (lle_s rfl (lle_s rfl (lle_e lle_z)))
  refine AW.aload_n (n := 1) (dat D_L_sea 0 rfl) rfl rfl ?_
  refine AW.iconst (n := 2) (dat D_L_sea 1 rfl) rfl ?_
  refine AW.aload_n (n := 3) (dat D_L_sea 2 rfl) rfl rfl ?_
  rcases hk with rfl | rfl
  · refine AW.cV (n := 6) (as := []) (st := [vI 0, vR 84]) (st' := [vI v, vI 0, vR 84]) (uc' := 0) (us' := 0) h9 cf_X11_sea ly_0 (le45 rfl) vc_11 (le45 rfl) wM_L_7 (le45 rfl) (le45 rfl) (dat D_L_sea 3 rfl) rfl rfl (le45 rfl) (le45 rfl) rfl (fun _ => ?_) nlt0
    refine AW.i2l (n := 7) (dat D_L_sea 4 rfl) rfl ?_
    refine AW.last (n := 8) (N := 1) (i := 0) rfl (le45 rfl) (by decide) (dat D_L_sea 5 rfl) rfl ?_
    refine AW.goto (t := 14) (dat D_L_sea 6 rfl) rfl ?_
    refine AW.iconst (n := 15) (dat D_L_sea 10 rfl) rfl ?_
    exact AW.iret rfl rfl rfl (dat D_L_sea 11 rfl)
  · refine AW.cV (n := 6) (as := []) (st := [vI 0, vR 84]) (st' := [vI v, vI 0, vR 84]) (uc' := 0) (us' := 0) h9 cf_X11_sea ly_0 (le45 rfl) vc_11 (le45 rfl) wM_L_7 (le45 rfl) (le45 rfl) (dat D_L_sea 3 rfl) rfl rfl (le45 rfl) (le45 rfl) rfl (fun q => absurd (show (2 : Nat) = 0 from q) (by decide)) (fun _ => ?_)
    refine AX.catch (pre := []) (suf := []) (fr := 0) (to := 8) (tgt := 11) (ty := 13) rfl (fun _ h => nomatch h) (by decide) (by decide) wL_L_13 cx_2 (fun q => ?_)
    refine AW.xstore_n (n := 12) (ls' := [some (vR 0), some (vR 84), some (vA q)]) (dat D_L_sea 7 rfl) rfl (le45 rfl) (le45 rfl) rfl rfl ?_
    refine AW.iconst (n := 13) (dat D_L_sea 8 rfl) rfl ?_
    exact AW.iret rfl rfl rfl (dat D_L_sea 9 rfl)
def L_L_judge : List (Nat × Instr × Nat) := [(0, .aload_n 1, 1), (1, .iconst 0, 1), (2, .aload_n 0, 1), (3, .invokevirtual 15, 3), (6, .i2l, 1), (7, .lastore, 1), (8, .goto 6, 3), (11, .astore_n 2, 1), (12, .iconst 1, 1), (13, .ireturn, 1), (14, .iconst 0, 1), (15, .ireturn, 1)]
theorem D_L_judge : dOK cL_judge L_L_judge = true := by decide +kernel
theorem ft_L_judge : fitM mL_judge 2 := ⟨by decide +kernel, by decide +kernel, by decide +kernel⟩
set_option maxRecDepth 100000 in
set_option maxHeartbeats 4000000 in
theorem A_L_judge {Γ : GA} (hΓ : (gl Γ).stackTraces = false) {n : Nat} {σ τ : SG} {o : Nat × Int} (h : X11_judge n σ = some (o, τ)) (hk : o.1 = 0 ∨ o.1 = 2) : AM Γ mL_judge 215 8 48 [vR 0, vR 84] (85, σ) (0, cdL [2] o.1) (85, lxI o τ) := by
  have h9 := A_X11_judge hΓ h
  clear h
  obtain ⟨k, v⟩ := o
  simp only at hk h9
  refine AM.ofH (h0 := (0, 8, 11, 13)) (ht := []) pl_L rfl wC_L_judge (by decide) (le45 rfl) hΓ ?_
  refine AW.to (ls'' := [some (vR 0), some (vR 84), none]) ?_ (lle_s rfl (lle_s rfl (lle_e lle_z)))
  refine AW.aload_n (n := 1) (dat D_L_judge 0 rfl) rfl rfl ?_
  refine AW.iconst (n := 2) (dat D_L_judge 1 rfl) rfl ?_
  refine AW.aload_n (n := 3) (dat D_L_judge 2 rfl) rfl rfl ?_
  rcases hk with rfl | rfl
  · refine AW.cV (n := 6) (as := []) (st := [vI 0, vR 84]) (st' := [vI v, vI 0, vR 84]) (uc' := 0) (us' := 0) h9 cf_X11_judge ly_0 (le45 rfl) vc_11 (le45 rfl) wM_L_15 (le45 rfl) (le45 rfl) (dat D_L_judge 3 rfl) rfl rfl (le45 rfl) (le45 rfl) rfl (fun _ => ?_) nlt0
    refine AW.i2l (n := 7) (dat D_L_judge 4 rfl) rfl ?_
    refine AW.last (n := 8) (N := 1) (i := 0) rfl (le45 rfl) (by decide) (dat D_L_judge 5 rfl) rfl ?_
    refine AW.goto (t := 14) (dat D_L_judge 6 rfl) rfl ?_
    refine AW.iconst (n := 15) (dat D_L_judge 10 rfl) rfl ?_
    exact AW.iret rfl rfl rfl (dat D_L_judge 11 rfl)
  · refine AW.cV (n := 6) (as := []) (st := [vI 0, vR 84]) (st' := [vI v, vI 0, vR 84]) (uc' := 0) (us' := 0) h9 cf_X11_judge ly_0 (le45 rfl) vc_11 (le45 rfl) wM_L_15 (le45 rfl) (le45 rfl) (dat D_L_judge 3 rfl) rfl rfl (le45 rfl) (le45 rfl) rfl (fun q => absurd (show (2 : Nat) = 0 from q) (by decide)) (fun _ => ?_)
    refine AX.catch (pre := []) (suf := []) (fr := 0) (to := 8) (tgt := 11) (ty := 13) rfl (fun _ h => nomatch h) (by decide) (by decide) wL_L_13 cx_2 (fun q => ?_)
    refine AW.xstore_n (n := 12) (ls' := [some (vR 0), some (vR 84), some (vA q)]) (dat D_L_judge 7 rfl) rfl (le45 rfl) (le45 rfl) rfl rfl ?_
    refine AW.iconst (n := 13) (dat D_L_judge 8 rfl) rfl ?_
    exact AW.iret rfl rfl rfl (dat D_L_judge 9 rfl)
def L_L_anew : List (Nat × Instr × Nat) := [(0, .aload_n 1, 1), (1, .iconst 0, 1), (2, .aload_n 0, 1), (3, .invokevirtual 18, 3), (6, .i2l, 1), (7, .lastore, 1), (8, .goto 6, 3), (11, .astore_n 2, 1), (12, .iconst 1, 1), (13, .ireturn, 1), (14, .iconst 0, 1), (15, .ireturn, 1)]
theorem D_L_anew : dOK cL_anew L_L_anew = true := by decide +kernel
theorem ft_L_anew : fitM mL_anew 2 := ⟨by decide +kernel, by decide +kernel, by decide +kernel⟩
set_option maxRecDepth 100000 in
set_option maxHeartbeats 4000000 in
theorem A_L_anew {Γ : GA} (hΓ : (gl Γ).stackTraces = false) {n : Nat} {σ τ : SG} {o : Nat × Int} (h : X11_anew n σ = some (o, τ)) (hk : o.1 = 0 ∨ o.1 = 4) : AM Γ mL_anew 9 8 48 [vR 0, vR 84] (85, σ) (0, cdL [4] o.1) (85, lxI o τ) := by
  have h9 := A_X11_anew hΓ h
  clear h
  obtain ⟨k, v⟩ := o
  simp only at hk h9
  refine AM.ofH (h0 := (0, 8, 11, 21)) (ht := []) pl_L rfl wC_L_anew (by decide) (le45 rfl) hΓ ?_
  refine AW.to (ls'' := [some (vR 0), some (vR 84), none]) ?_ (lle_s rfl (lle_s rfl (lle_e lle_z)))
  refine AW.aload_n (n := 1) (dat D_L_anew 0 rfl) rfl rfl ?_
  refine AW.iconst (n := 2) (dat D_L_anew 1 rfl) rfl ?_
  refine AW.aload_n (n := 3) (dat D_L_anew 2 rfl) rfl rfl ?_
  rcases hk with rfl | rfl
  · refine AW.cV (n := 6) (as := []) (st := [vI 0, vR 84]) (st' := [vI v, vI 0, vR 84]) (uc' := 0) (us' := 0) h9 cf_X11_anew ly_0 (le45 rfl) vc_11 (le45 rfl) wM_L_18 (le45 rfl) (le45 rfl) (dat D_L_anew 3 rfl) rfl rfl (le45 rfl) (le45 rfl) rfl (fun _ => ?_) nlt0
    refine AW.i2l (n := 7) (dat D_L_anew 4 rfl) rfl ?_
    refine AW.last (n := 8) (N := 1) (i := 0) rfl (le45 rfl) (by decide) (dat D_L_anew 5 rfl) rfl ?_
    refine AW.goto (t := 14) (dat D_L_anew 6 rfl) rfl ?_
    refine AW.iconst (n := 15) (dat D_L_anew 10 rfl) rfl ?_
    exact AW.iret rfl rfl rfl (dat D_L_anew 11 rfl)
  · refine AW.cV (n := 6) (as := []) (st := [vI 0, vR 84]) (st' := [vI v, vI 0, vR 84]) (uc' := 0) (us' := 0) h9 cf_X11_anew ly_0 (le45 rfl) vc_11 (le45 rfl) wM_L_18 (le45 rfl) (le45 rfl) (dat D_L_anew 3 rfl) rfl rfl (le45 rfl) (le45 rfl) rfl (fun q => absurd (show (4 : Nat) = 0 from q) (by decide)) (fun _ => ?_)
    refine AX.catch (pre := []) (suf := []) (fr := 0) (to := 8) (tgt := 11) (ty := 21) rfl (fun _ h => nomatch h) (by decide) (by decide) wL_L_21 cx_4 (fun q => ?_)
    refine AW.xstore_n (n := 12) (ls' := [some (vR 0), some (vR 84), some (vA q)]) (dat D_L_anew 7 rfl) rfl (le45 rfl) (le45 rfl) rfl rfl ?_
    refine AW.iconst (n := 13) (dat D_L_anew 8 rfl) rfl ?_
    exact AW.iret rfl rfl rfl (dat D_L_anew 9 rfl)
def L_L_wave : List (Nat × Instr × Nat) := [(0, .aload_n 3, 1), (1, .iconst 0, 1), (2, .aload_n 0, 1), (3, .iload_n 1, 1), (4, .iload_n 2, 1), (5, .invokevirtual 23, 3), (8, .i2l, 1), (9, .lastore, 1), (10, .goto 11, 3), (13, .astore 4, 2), (15, .iconst 1, 1), (16, .ireturn, 1), (17, .astore 4, 2), (19, .iconst 2, 1), (20, .ireturn, 1), (21, .iconst 0, 1), (22, .ireturn, 1)]
theorem D_L_wave : dOK cL_wave L_L_wave = true := by decide +kernel
theorem ft_L_wave : fitM mL_wave 4 := ⟨by decide +kernel, by decide +kernel, by decide +kernel⟩
set_option maxRecDepth 100000 in
set_option maxHeartbeats 4000000 in
theorem A_L_wave {Γ : GA} (hΓ : (gl Γ).stackTraces = false) {n : Nat} {a0 : Int} {a1 : Int} {σ τ : SG} {o : Nat × Int} (h : X11_wave n a0 a1 σ = some (o, τ)) (hk : o.1 = 0 ∨ o.1 = 1 ∨ o.1 = 3) : AM Γ mL_wave 10 8 48 [vR 0, vI a0, vI a1, vR 84] (85, σ) (0, cdL [1, 3] o.1) (85, lxI o τ) := by
  have h9 := A_X11_wave hΓ h
  clear h
  obtain ⟨k, v⟩ := o
  simp only at hk h9
  refine AM.ofH (h0 := (0, 10, 13, 27)) (ht := [(0, 10, 17, 29)]) pl_L rfl wC_L_wave (by decide) (le45 rfl) hΓ ?_
  refine AW.to (ls'' := [some (vR 0), some (vI a0), some (vI a1), some (vR 84), none]) ?_ (lle_s rfl (lle_s rfl (lle_s rfl (lle_s rfl (lle_e lle_z)))))
  refine AW.aload_n (n := 1) (dat D_L_wave 0 rfl) rfl rfl ?_
  refine AW.iconst (n := 2) (dat D_L_wave 1 rfl) rfl ?_
  refine AW.aload_n (n := 3) (dat D_L_wave 2 rfl) rfl rfl ?_
  refine AW.iload_n (n := 4) (dat D_L_wave 3 rfl) rfl rfl ?_
  refine AW.iload_n (n := 5) (dat D_L_wave 4 rfl) rfl rfl ?_
  rcases hk with rfl | rfl | rfl
  · refine AW.cV (n := 8) (as := [vI a0, vI a1]) (st := [vI 0, vR 84]) (st' := [vI v, vI 0, vR 84]) (uc' := 0) (us' := 0) h9 cf_X11_wave ly_0 (le45 rfl) vc_11 (le45 rfl) wM_L_23 (le45 rfl) (le45 rfl) (dat D_L_wave 5 rfl) rfl rfl (le45 rfl) (le45 rfl) rfl (fun _ => ?_) nlt0
    refine AW.i2l (n := 9) (dat D_L_wave 6 rfl) rfl ?_
    refine AW.last (n := 10) (N := 1) (i := 0) rfl (le45 rfl) (by decide) (dat D_L_wave 7 rfl) rfl ?_
    refine AW.goto (t := 21) (dat D_L_wave 8 rfl) rfl ?_
    refine AW.iconst (n := 22) (dat D_L_wave 15 rfl) rfl ?_
    exact AW.iret rfl rfl rfl (dat D_L_wave 16 rfl)
  · refine AW.cV (n := 8) (as := [vI a0, vI a1]) (st := [vI 0, vR 84]) (st' := [vI v, vI 0, vR 84]) (uc' := 0) (us' := 0) h9 cf_X11_wave ly_0 (le45 rfl) vc_11 (le45 rfl) wM_L_23 (le45 rfl) (le45 rfl) (dat D_L_wave 5 rfl) rfl rfl (le45 rfl) (le45 rfl) rfl (fun q => absurd (show (1 : Nat) = 0 from q) (by decide)) (fun _ => ?_)
    refine AX.catch (pre := []) (suf := [(0, 10, 17, 29)]) (fr := 0) (to := 10) (tgt := 13) (ty := 27) rfl (fun _ h => nomatch h) (by decide) (by decide) wL_L_27 cx_1 (fun q => ?_)
    refine AW.xstore (n := 15) (ls' := [some (vR 0), some (vI a0), some (vI a1), some (vR 84), some (vA q)]) (dat D_L_wave 9 rfl) rfl (le45 rfl) (le45 rfl) rfl rfl ?_
    refine AW.iconst (n := 16) (dat D_L_wave 10 rfl) rfl ?_
    exact AW.iret rfl rfl rfl (dat D_L_wave 11 rfl)
  · refine AW.cV (n := 8) (as := [vI a0, vI a1]) (st := [vI 0, vR 84]) (st' := [vI v, vI 0, vR 84]) (uc' := 0) (us' := 0) h9 cf_X11_wave ly_0 (le45 rfl) vc_11 (le45 rfl) wM_L_23 (le45 rfl) (le45 rfl) (dat D_L_wave 5 rfl) rfl rfl (le45 rfl) (le45 rfl) rfl (fun q => absurd (show (3 : Nat) = 0 from q) (by decide)) (fun _ => ?_)
    refine AX.catch (pre := [(0, 10, 13, 27)]) (suf := []) (fr := 0) (to := 10) (tgt := 17) (ty := 29) rfl (List.forall_mem_cons.mpr ⟨⟨by decide, _, wL_L_27, nc_3_1⟩, (fun _ h => nomatch h)⟩) (by decide) (by decide) wL_L_29 cx_3 (fun q => ?_)
    refine AW.xstore (n := 19) (ls' := [some (vR 0), some (vI a0), some (vI a1), some (vR 84), some (vA q)]) (dat D_L_wave 12 rfl) rfl (le45 rfl) (le45 rfl) rfl rfl ?_
    refine AW.iconst (n := 20) (dat D_L_wave 13 rfl) rfl ?_
    exact AW.iret rfl rfl rfl (dat D_L_wave 14 rfl)
def L_L_surfer : List (Nat × Instr × Nat) := [(0, .aload_n 3, 1), (1, .iconst 0, 1), (2, .aload_n 0, 1), (3, .iload_n 1, 1), (4, .iload_n 2, 1), (5, .invokevirtual 31, 3), (8, .i2l, 1), (9, .lastore, 1), (10, .goto 11, 3), (13, .astore 4, 2), (15, .iconst 1, 1), (16, .ireturn, 1), (17, .astore 4, 2), (19, .iconst 2, 1), (20, .ireturn, 1), (21, .iconst 0, 1), (22, .ireturn, 1)]
theorem D_L_surfer : dOK cL_surfer L_L_surfer = true := by decide +kernel
theorem ft_L_surfer : fitM mL_surfer 4 := ⟨by decide +kernel, by decide +kernel, by decide +kernel⟩
set_option maxRecDepth 100000 in
set_option maxHeartbeats 4000000 in
theorem A_L_surfer {Γ : GA} (hΓ : (gl Γ).stackTraces = false) {n : Nat} {a0 : Int} {a1 : Int} {σ τ : SG} {o : Nat × Int} (h : X11_surfer n a0 a1 σ = some (o, τ)) (hk : o.1 = 0 ∨ o.1 = 1 ∨ o.1 = 3) : AM Γ mL_surfer 10 8 48 [vR 0, vI a0, vI a1, vR 84] (85, σ) (0, cdL [1, 3] o.1) (85, lxI o τ) := by
  have h9 := A_X11_surfer hΓ h
  clear h
  obtain ⟨k, v⟩ := o
  simp only at hk h9
  refine AM.ofH (h0 := (0, 10, 13, 27)) (ht := [(0, 10, 17, 29)]) pl_L rfl wC_L_surfer (by decide) (le45 rfl) hΓ ?_
  refine AW.to (ls'' := [some (vR 0), some (vI a0), some (vI a1), some (vR 84), none]) ?_ (lle_s rfl (lle_s rfl (lle_s rfl (lle_s rfl (lle_e lle_z)))))
  refine AW.aload_n (n := 1) (dat D_L_surfer 0 rfl) rfl rfl ?_
  refine AW.iconst (n := 2) (dat D_L_surfer 1 rfl) rfl ?_
  refine AW.aload_n (n := 3) (dat D_L_surfer 2 rfl) rfl rfl ?_
  refine AW.iload_n (n := 4) (dat D_L_surfer 3 rfl) rfl rfl ?_
  refine AW.iload_n (n := 5) (dat D_L_surfer 4 rfl) rfl rfl ?_
  rcases hk with rfl | rfl | rfl
  · refine AW.cV (n := 8) (as := [vI a0, vI a1]) (st := [vI 0, vR 84]) (st' := [vI v, vI 0, vR 84]) (uc' := 0) (us' := 0) h9 cf_X11_surfer ly_0 (le45 rfl) vc_11 (le45 rfl) wM_L_31 (le45 rfl) (le45 rfl) (dat D_L_surfer 5 rfl) rfl rfl (le45 rfl) (le45 rfl) rfl (fun _ => ?_) nlt0
    refine AW.i2l (n := 9) (dat D_L_surfer 6 rfl) rfl ?_
    refine AW.last (n := 10) (N := 1) (i := 0) rfl (le45 rfl) (by decide) (dat D_L_surfer 7 rfl) rfl ?_
    refine AW.goto (t := 21) (dat D_L_surfer 8 rfl) rfl ?_
    refine AW.iconst (n := 22) (dat D_L_surfer 15 rfl) rfl ?_
    exact AW.iret rfl rfl rfl (dat D_L_surfer 16 rfl)
  · refine AW.cV (n := 8) (as := [vI a0, vI a1]) (st := [vI 0, vR 84]) (st' := [vI v, vI 0, vR 84]) (uc' := 0) (us' := 0) h9 cf_X11_surfer ly_0 (le45 rfl) vc_11 (le45 rfl) wM_L_31 (le45 rfl) (le45 rfl) (dat D_L_surfer 5 rfl) rfl rfl (le45 rfl) (le45 rfl) rfl (fun q => absurd (show (1 : Nat) = 0 from q) (by decide)) (fun _ => ?_)
    refine AX.catch (pre := []) (suf := [(0, 10, 17, 29)]) (fr := 0) (to := 10) (tgt := 13) (ty := 27) rfl (fun _ h => nomatch h) (by decide) (by decide) wL_L_27 cx_1 (fun q => ?_)
    refine AW.xstore (n := 15) (ls' := [some (vR 0), some (vI a0), some (vI a1), some (vR 84), some (vA q)]) (dat D_L_surfer 9 rfl) rfl (le45 rfl) (le45 rfl) rfl rfl ?_
    refine AW.iconst (n := 16) (dat D_L_surfer 10 rfl) rfl ?_
    exact AW.iret rfl rfl rfl (dat D_L_surfer 11 rfl)
  · refine AW.cV (n := 8) (as := [vI a0, vI a1]) (st := [vI 0, vR 84]) (st' := [vI v, vI 0, vR 84]) (uc' := 0) (us' := 0) h9 cf_X11_surfer ly_0 (le45 rfl) vc_11 (le45 rfl) wM_L_31 (le45 rfl) (le45 rfl) (dat D_L_surfer 5 rfl) rfl rfl (le45 rfl) (le45 rfl) rfl (fun q => absurd (show (3 : Nat) = 0 from q) (by decide)) (fun _ => ?_)
    refine AX.catch (pre := [(0, 10, 13, 27)]) (suf := []) (fr := 0) (to := 10) (tgt := 17) (ty := 29) rfl (List.forall_mem_cons.mpr ⟨⟨by decide, _, wL_L_27, nc_3_1⟩, (fun _ h => nomatch h)⟩) (by decide) (by decide) wL_L_29 cx_3 (fun q => ?_)
    refine AW.xstore (n := 19) (ls' := [some (vR 0), some (vI a0), some (vI a1), some (vR 84), some (vA q)]) (dat D_L_surfer 12 rfl) rfl (le45 rfl) (le45 rfl) rfl rfl ?_
    refine AW.iconst (n := 20) (dat D_L_surfer 13 rfl) rfl ?_
    exact AW.iret rfl rfl rfl (dat D_L_surfer 14 rfl)
def L_L_name : List (Nat × Instr × Nat) := [(0, .aload_n 3, 1), (1, .iconst 0, 1), (2, .aload_n 0, 1), (3, .iload_n 1, 1), (4, .iload_n 2, 1), (5, .invokevirtual 34, 3), (8, .i2l, 1), (9, .lastore, 1), (10, .goto 7, 3), (13, .astore 4, 2), (15, .iconst 1, 1), (16, .ireturn, 1), (17, .iconst 0, 1), (18, .ireturn, 1)]
theorem D_L_name : dOK cL_name L_L_name = true := by decide +kernel
theorem ft_L_name : fitM mL_name 4 := ⟨by decide +kernel, by decide +kernel, by decide +kernel⟩
set_option maxRecDepth 100000 in
set_option maxHeartbeats 4000000 in
theorem A_L_name {Γ : GA} (hΓ : (gl Γ).stackTraces = false) {n : Nat} {a0 : Int} {a1 : Int} {σ τ : SG} {o : Nat × Int} (h : X11_name n a0 a1 σ = some (o, τ)) (hk : o.1 = 0 ∨ o.1 = 1) : AM Γ mL_name 10 8 48 [vR 0, vI a0, vI a1, vR 84] (85, σ) (0, cdL [1] o.1) (85, lxI o τ) := by
  have h9 := A_X11_name hΓ h
  clear h
  obtain ⟨k, v⟩ := o
  simp only at hk h9
  refine AM.ofH (h0 := (0, 10, 13, 27)) (ht := []) pl_L rfl wC_L_name (by decide) (le45 rfl) hΓ ?_
  refine AW.to (ls'' := [some (vR 0), some (vI a0), some (vI a1), some (vR 84), none]) ?_ (lle_s rfl (lle_s rfl (lle_s rfl (lle_s rfl (lle_e lle_z)))))
  refine AW.aload_n (n := 1) (dat D_L_name 0 rfl) rfl rfl ?_
  refine AW.iconst (n := 2) (dat D_L_name 1 rfl) rfl ?_
  refine AW.aload_n (n := 3) (dat D_L_name 2 rfl) rfl rfl ?_
  refine AW.iload_n (n := 4) (dat D_L_name 3 rfl) rfl rfl ?_
  refine AW.iload_n (n := 5) (dat D_L_name 4 rfl) rfl rfl ?_
  rcases hk with rfl | rfl
  · refine AW.cV (n := 8) (as := [vI a0, vI a1]) (st := [vI 0, vR 84]) (st' := [vI v, vI 0, vR 84]) (uc' := 0) (us' := 0) h9 cf_X11_name ly_0 (le45 rfl) vc_11 (le45 rfl) wM_L_34 (le45 rfl) (le45 rfl) (dat D_L_name 5 rfl) rfl rfl (le45 rfl) (le45 rfl) rfl (fun _ => ?_) nlt0
    refine AW.i2l (n := 9) (dat D_L_name 6 rfl) rfl ?_
    refine AW.last (n := 10) (N := 1) (i := 0) rfl (le45 rfl) (by decide) (dat D_L_name 7 rfl) rfl ?_
    refine AW.goto (t := 17) (dat D_L_name 8 rfl) rfl ?_
    refine AW.iconst (n := 18) (dat D_L_name 12 rfl) rfl ?_
    exact AW.iret rfl rfl rfl (dat D_L_name 13 rfl)
  · refine AW.cV (n := 8) (as := [vI a0, vI a1]) (st := [vI 0, vR 84]) (st' := [vI v, vI 0, vR 84]) (uc' := 0) (us' := 0) h9 cf_X11_name ly_0 (le45 rfl) vc_11 (le45 rfl) wM_L_34 (le45 rfl) (le45 rfl) (dat D_L_name 5 rfl) rfl rfl (le45 rfl) (le45 rfl) rfl (fun q => absurd (show (1 : Nat) = 0 from q) (by decide)) (fun _ => ?_)
    refine AX.catch (pre := []) (suf := []) (fr := 0) (to := 10) (tgt := 13) (ty := 27) rfl (fun _ h => nomatch h) (by decide) (by decide) wL_L_27 cx_1 (fun q => ?_)
    refine AW.xstore (n := 15) (ls' := [some (vR 0), some (vI a0), some (vI a1), some (vR 84), some (vA q)]) (dat D_L_name 9 rfl) rfl (le45 rfl) (le45 rfl) rfl rfl ?_
    refine AW.iconst (n := 16) (dat D_L_name 10 rfl) rfl ?_
    exact AW.iret rfl rfl rfl (dat D_L_name 11 rfl)
def L_L_goal : List (Nat × Instr × Nat) := [(0, .aload_n 3, 1), (1, .iconst 0, 1), (2, .aload_n 0, 1), (3, .iload_n 1, 1), (4, .iload_n 2, 1), (5, .invokevirtual 37, 3), (8, .i2l, 1), (9, .lastore, 1), (10, .goto 15, 3), (13, .astore 4, 2), (15, .iconst 1, 1), (16, .ireturn, 1), (17, .astore 4, 2), (19, .iconst 2, 1), (20, .ireturn, 1), (21, .astore 4, 2), (23, .iconst 3, 1), (24, .ireturn, 1), (25, .iconst 0, 1), (26, .ireturn, 1)]
theorem D_L_goal : dOK cL_goal L_L_goal = true := by decide +kernel
theorem ft_L_goal : fitM mL_goal 4 := ⟨by decide +kernel, by decide +kernel, by decide +kernel⟩
set_option maxRecDepth 100000 in
set_option maxHeartbeats 4000000 in
theorem A_L_goal {Γ : GA} (hΓ : (gl Γ).stackTraces = false) {n : Nat} {a0 : Int} {a1 : Int} {σ τ : SG} {o : Nat × Int} (h : X11_goal n a0 a1 σ = some (o, τ)) (hk : o.1 = 0 ∨ o.1 = 1 ∨ o.1 = 2 ∨ o.1 = 4) : AM Γ mL_goal 10 8 48 [vR 0, vI a0, vI a1, vR 84] (85, σ) (0, cdL [1, 2, 4] o.1) (85, lxI o τ) := by
  have h9 := A_X11_goal hΓ h
  clear h
  obtain ⟨k, v⟩ := o
  simp only at hk h9
  refine AM.ofH (h0 := (0, 10, 13, 27)) (ht := [(0, 10, 17, 13), (0, 10, 21, 21)]) pl_L rfl wC_L_goal (by decide) (le45 rfl) hΓ ?_
  refine AW.to (ls'' := [some (vR 0), some (vI a0), some (vI a1), some (vR 84), none]) ?_ (lle_s rfl (lle_s rfl (lle_s rfl (lle_s rfl (lle_e lle_z)))))
  refine AW.aload_n (n := 1) (dat D_L_goal 0 rfl) rfl rfl ?_
  refine AW.iconst (n := 2) (dat D_L_goal 1 rfl) rfl ?_
  refine AW.aload_n (n := 3) (dat D_L_goal 2 rfl) rfl rfl ?_
  refine AW.iload_n (n := 4) (dat D_L_goal 3 rfl) rfl rfl ?_
  refine AW.iload_n (n := 5) (dat D_L_goal 4 rfl) rfl rfl ?_
  rcases hk with rfl | rfl | rfl | rfl
  · refine AW.cV (n := 8) (as := [vI a0, vI a1]) (st := [vI 0, vR 84]) (st' := [vI v, vI 0, vR 84]) (uc' := 0) (us' := 0) h9 cf_X11_goal ly_0 (le45 rfl) vc_11 (le45 rfl) wM_L_37 (le45 rfl) (le45 rfl) (dat D_L_goal 5 rfl) rfl rfl (le45 rfl) (le45 rfl) rfl (fun _ => ?_) nlt0
    refine AW.i2l (n := 9) (dat D_L_goal 6 rfl) rfl ?_
    refine AW.last (n := 10) (N := 1) (i := 0) rfl (le45 rfl) (by decide) (dat D_L_goal 7 rfl) rfl ?_
    refine AW.goto (t := 25) (dat D_L_goal 8 rfl) rfl ?_
    refine AW.iconst (n := 26) (dat D_L_goal 18 rfl) rfl ?_
    exact AW.iret rfl rfl rfl (dat D_L_goal 19 rfl)
  · refine AW.cV (n := 8) (as := [vI a0, vI a1]) (st := [vI 0, vR 84]) (st' := [vI v, vI 0, vR 84]) (uc' := 0) (us' := 0) h9 cf_X11_goal ly_0 (le45 rfl) vc_11 (le45 rfl) wM_L_37 (le45 rfl) (le45 rfl) (dat D_L_goal 5 rfl) rfl rfl (le45 rfl) (le45 rfl) rfl (fun q => absurd (show (1 : Nat) = 0 from q) (by decide)) (fun _ => ?_)
    refine AX.catch (pre := []) (suf := [(0, 10, 17, 13), (0, 10, 21, 21)]) (fr := 0) (to := 10) (tgt := 13) (ty := 27) rfl (fun _ h => nomatch h) (by decide) (by decide) wL_L_27 cx_1 (fun q => ?_)
    refine AW.xstore (n := 15) (ls' := [some (vR 0), some (vI a0), some (vI a1), some (vR 84), some (vA q)]) (dat D_L_goal 9 rfl) rfl (le45 rfl) (le45 rfl) rfl rfl ?_
    refine AW.iconst (n := 16) (dat D_L_goal 10 rfl) rfl ?_
    exact AW.iret rfl rfl rfl (dat D_L_goal 11 rfl)
  · refine AW.cV (n := 8) (as := [vI a0, vI a1]) (st := [vI 0, vR 84]) (st' := [vI v, vI 0, vR 84]) (uc' := 0) (us' := 0) h9 cf_X11_goal ly_0 (le45 rfl) vc_11 (le45 rfl) wM_L_37 (le45 rfl) (le45 rfl) (dat D_L_goal 5 rfl) rfl rfl (le45 rfl) (le45 rfl) rfl (fun q => absurd (show (2 : Nat) = 0 from q) (by decide)) (fun _ => ?_)
    refine AX.catch (pre := [(0, 10, 13, 27)]) (suf := [(0, 10, 21, 21)]) (fr := 0) (to := 10) (tgt := 17) (ty := 13) rfl (List.forall_mem_cons.mpr ⟨⟨by decide, _, wL_L_27, nc_2_1⟩, (fun _ h => nomatch h)⟩) (by decide) (by decide) wL_L_13 cx_2 (fun q => ?_)
    refine AW.xstore (n := 19) (ls' := [some (vR 0), some (vI a0), some (vI a1), some (vR 84), some (vA q)]) (dat D_L_goal 12 rfl) rfl (le45 rfl) (le45 rfl) rfl rfl ?_
    refine AW.iconst (n := 20) (dat D_L_goal 13 rfl) rfl ?_
    exact AW.iret rfl rfl rfl (dat D_L_goal 14 rfl)
  · refine AW.cV (n := 8) (as := [vI a0, vI a1]) (st := [vI 0, vR 84]) (st' := [vI v, vI 0, vR 84]) (uc' := 0) (us' := 0) h9 cf_X11_goal ly_0 (le45 rfl) vc_11 (le45 rfl) wM_L_37 (le45 rfl) (le45 rfl) (dat D_L_goal 5 rfl) rfl rfl (le45 rfl) (le45 rfl) rfl (fun q => absurd (show (4 : Nat) = 0 from q) (by decide)) (fun _ => ?_)
    refine AX.catch (pre := [(0, 10, 13, 27), (0, 10, 17, 13)]) (suf := []) (fr := 0) (to := 10) (tgt := 21) (ty := 21) rfl (List.forall_mem_cons.mpr ⟨⟨by decide, _, wL_L_27, nc_4_1⟩, (List.forall_mem_cons.mpr ⟨⟨by decide, _, wL_L_13, nc_4_2⟩, (fun _ h => nomatch h)⟩)⟩) (by decide) (by decide) wL_L_21 cx_4 (fun q => ?_)
    refine AW.xstore (n := 23) (ls' := [some (vR 0), some (vI a0), some (vI a1), some (vR 84), some (vA q)]) (dat D_L_goal 15 rfl) rfl (le45 rfl) (le45 rfl) rfl rfl ?_
    refine AW.iconst (n := 24) (dat D_L_goal 16 rfl) rfl ?_
    exact AW.iret rfl rfl rfl (dat D_L_goal 17 rfl)
def L_L_take : List (Nat × Instr × Nat) := [(0, .aload 5, 2), (2, .iconst 0, 1), (3, .aload_n 0, 1), (4, .iload_n 1, 1), (5, .iload_n 2, 1), (6, .iload_n 3, 1), (7, .iload 4, 2), (9, .invokevirtual 40, 3), (12, .i2l, 1), (13, .lastore, 1), (14, .goto 15, 3), (17, .astore 6, 2), (19, .iconst 1, 1), (20, .ireturn, 1), (21, .astore 6, 2), (23, .iconst 2, 1), (24, .ireturn, 1), (25, .astore 6, 2), (27, .iconst 3, 1), (28, .ireturn, 1), (29, .iconst 0, 1), (30, .ireturn, 1)]
theorem D_L_take : dOK cL_take L_L_take = true := by decide +kernel
theorem ft_L_take : fitM mL_take 6 := ⟨by decide +kernel, by decide +kernel, by decide +kernel⟩
set_option maxRecDepth 100000 in
set_option maxHeartbeats 4000000 in
theorem A_L_take {Γ : GA} (hΓ : (gl Γ).stackTraces = false) {n : Nat} {a0 : Int} {a1 : Int} {a2 : Int} {a3 : Int} {σ τ : SG} {o : Nat × Int} (h : X11_take n a0 a1 a2 a3 σ = some (o, τ)) (hk : o.1 = 0 ∨ o.1 = 1 ∨ o.1 = 2 ∨ o.1 = 4) : AM Γ mL_take 10 8 48 [vR 0, vI a0, vI a1, vI a2, vI a3, vR 84] (85, σ) (0, cdL [1, 2, 4] o.1) (85, lxI o τ) := by
  have h9 := A_X11_take hΓ h
  clear h
  obtain ⟨k, v⟩ := o
  simp only at hk h9
  refine AM.ofH (h0 := (0, 14, 17, 27)) (ht := [(0, 14, 21, 13), (0, 14, 25, 21)]) pl_L rfl wC_L_take (by decide) (le45 rfl) hΓ ?_
  refine AW.to (ls'' := [some (vR 0), some (vI a0), some (vI a1), some (vI a2), some (vI a3), some (vR 84), none]) ?_ (lle_s rfl (lle_s rfl (lle_s rfl (lle_s rfl (lle_s rfl (lle_s rfl (lle_e lle_z)))))))
  refine AW.aload (n := 2) (dat D_L_take 0 rfl) rfl rfl ?_
  refine AW.iconst (n := 3) (dat D_L_take 1 rfl) rfl ?_
  refine AW.aload_n (n := 4) (dat D_L_take 2 rfl) rfl rfl ?_
  refine AW.iload_n (n := 5) (dat D_L_take 3 rfl) rfl rfl ?_
  refine AW.iload_n (n := 6) (dat D_L_take 4 rfl) rfl rfl ?_
  refine AW.iload_n (n := 7) (dat D_L_take 5 rfl) rfl rfl ?_
  refine AW.iload (n := 9) (dat D_L_take 6 rfl) rfl rfl ?_
  rcases hk with rfl | rfl | rfl | rfl
  · refine AW.cV (n := 12) (as := [vI a0, vI a1, vI a2, vI a3]) (st := [vI 0, vR 84]) (st' := [vI v, vI 0, vR 84]) (uc' := 0) (us' := 0) h9 cf_X11_take ly_0 (le45 rfl) vc_11 (le45 rfl) wM_L_40 (le45 rfl) (le45 rfl) (dat D_L_take 7 rfl) rfl rfl (le45 rfl) (le45 rfl) rfl (fun _ => ?_) nlt0
    refine AW.i2l (n := 13) (dat D_L_take 8 rfl) rfl ?_
    refine AW.last (n := 14) (N := 1) (i := 0) rfl (le45 rfl) (by decide) (dat D_L_take 9 rfl) rfl ?_
    refine AW.goto (t := 29) (dat D_L_take 10 rfl) rfl ?_
    refine AW.iconst (n := 30) (dat D_L_take 20 rfl) rfl ?_
    exact AW.iret rfl rfl rfl (dat D_L_take 21 rfl)
  · refine AW.cV (n := 12) (as := [vI a0, vI a1, vI a2, vI a3]) (st := [vI 0, vR 84]) (st' := [vI v, vI 0, vR 84]) (uc' := 0) (us' := 0) h9 cf_X11_take ly_0 (le45 rfl) vc_11 (le45 rfl) wM_L_40 (le45 rfl) (le45 rfl) (dat D_L_take 7 rfl) rfl rfl (le45 rfl) (le45 rfl) rfl (fun q => absurd (show (1 : Nat) = 0 from q) (by decide)) (fun _ => ?_)
    refine AX.catch (pre := []) (suf := [(0, 14, 21, 13), (0, 14, 25, 21)]) (fr := 0) (to := 14) (tgt := 17) (ty := 27) rfl (fun _ h => nomatch h) (by decide) (by decide) wL_L_27 cx_1 (fun q => ?_)
    refine AW.xstore (n := 19) (ls' := [some (vR 0), some (vI a0), some (vI a1), some (vI a2), some (vI a3), some (vR 84), some (vA q)]) (dat D_L_take 11 rfl) rfl (le45 rfl) (le45 rfl) rfl rfl ?_
    refine AW.iconst (n := 20) (dat D_L_take 12 rfl) rfl ?_
    exact AW.iret rfl rfl rfl (dat D_L_take 13 rfl)
  · refine AW.cV (n := 12) (as := [vI a0, vI a1, vI a2, vI a3]) (st := [vI 0, vR 84]) (st' := [vI v, vI 0, vR 84]) (uc' := 0) (us' := 0) h9 cf_X11_take ly_0 (le45 rfl) vc_11 (le45 rfl) wM_L_40 (le45 rfl) (le45 rfl) (dat D_L_take 7 rfl) rfl rfl (le45 rfl) (le45 rfl) rfl (fun q => absurd (show (2 : Nat) = 0 from q) (by decide)) (fun _ => ?_)
    refine AX.catch (pre := [(0, 14, 17, 27)]) (suf := [(0, 14, 25, 21)]) (fr := 0) (to := 14) (tgt := 21) (ty := 13) rfl (List.forall_mem_cons.mpr ⟨⟨by decide, _, wL_L_27, nc_2_1⟩, (fun _ h => nomatch h)⟩) (by decide) (by decide) wL_L_13 cx_2 (fun q => ?_)
    refine AW.xstore (n := 23) (ls' := [some (vR 0), some (vI a0), some (vI a1), some (vI a2), some (vI a3), some (vR 84), some (vA q)]) (dat D_L_take 14 rfl) rfl (le45 rfl) (le45 rfl) rfl rfl ?_
    refine AW.iconst (n := 24) (dat D_L_take 15 rfl) rfl ?_
    exact AW.iret rfl rfl rfl (dat D_L_take 16 rfl)
  · refine AW.cV (n := 12) (as := [vI a0, vI a1, vI a2, vI a3]) (st := [vI 0, vR 84]) (st' := [vI v, vI 0, vR 84]) (uc' := 0) (us' := 0) h9 cf_X11_take ly_0 (le45 rfl) vc_11 (le45 rfl) wM_L_40 (le45 rfl) (le45 rfl) (dat D_L_take 7 rfl) rfl rfl (le45 rfl) (le45 rfl) rfl (fun q => absurd (show (4 : Nat) = 0 from q) (by decide)) (fun _ => ?_)
    refine AX.catch (pre := [(0, 14, 17, 27), (0, 14, 21, 13)]) (suf := []) (fr := 0) (to := 14) (tgt := 25) (ty := 21) rfl (List.forall_mem_cons.mpr ⟨⟨by decide, _, wL_L_27, nc_4_1⟩, (List.forall_mem_cons.mpr ⟨⟨by decide, _, wL_L_13, nc_4_2⟩, (fun _ h => nomatch h)⟩)⟩) (by decide) (by decide) wL_L_21 cx_4 (fun q => ?_)
    refine AW.xstore (n := 27) (ls' := [some (vR 0), some (vI a0), some (vI a1), some (vI a2), some (vI a3), some (vR 84), some (vA q)]) (dat D_L_take 17 rfl) rfl (le45 rfl) (le45 rfl) rfl rfl ?_
    refine AW.iconst (n := 28) (dat D_L_take 18 rfl) rfl ?_
    exact AW.iret rfl rfl rfl (dat D_L_take 19 rfl)
def L_L_right : List (Nat × Instr × Nat) := [(0, .aload_n 3, 1), (1, .iconst 0, 1), (2, .aload_n 0, 1), (3, .iload_n 1, 1), (4, .iload_n 2, 1), (5, .invokevirtual 44, 3), (8, .i2l, 1), (9, .lastore, 1), (10, .goto 15, 3), (13, .astore 4, 2), (15, .iconst 1, 1), (16, .ireturn, 1), (17, .astore 4, 2), (19, .iconst 2, 1), (20, .ireturn, 1), (21, .astore 4, 2), (23, .iconst 3, 1), (24, .ireturn, 1), (25, .iconst 0, 1), (26, .ireturn, 1)]
theorem D_L_right : dOK cL_right L_L_right = true := by decide +kernel
theorem ft_L_right : fitM mL_right 4 := ⟨by decide +kernel, by decide +kernel, by decide +kernel⟩
set_option maxRecDepth 100000 in
set_option maxHeartbeats 4000000 in
theorem A_L_right {Γ : GA} (hΓ : (gl Γ).stackTraces = false) {n : Nat} {a0 : Int} {a1 : Int} {σ τ : SG} {o : Nat × Int} (h : X11_right n a0 a1 σ = some (o, τ)) (hk : o.1 = 0 ∨ o.1 = 1 ∨ o.1 = 2 ∨ o.1 = 4) : AM Γ mL_right 10 8 48 [vR 0, vI a0, vI a1, vR 84] (85, σ) (0, cdL [1, 2, 4] o.1) (85, lxI o τ) := by
  have h9 := A_X11_right hΓ h
  clear h
  obtain ⟨k, v⟩ := o
  simp only at hk h9
  refine AM.ofH (h0 := (0, 10, 13, 27)) (ht := [(0, 10, 17, 13), (0, 10, 21, 21)]) pl_L rfl wC_L_right (by decide) (le45 rfl) hΓ ?_
  refine AW.to (ls'' := [some (vR 0), some (vI a0), some (vI a1), some (vR 84), none]) ?_ (lle_s rfl (lle_s rfl (lle_s rfl (lle_s rfl (lle_e lle_z)))))
  refine AW.aload_n (n := 1) (dat D_L_right 0 rfl) rfl rfl ?_
  refine AW.iconst (n := 2) (dat D_L_right 1 rfl) rfl ?_
  refine AW.aload_n (n := 3) (dat D_L_right 2 rfl) rfl rfl ?_
  refine AW.iload_n (n := 4) (dat D_L_right 3 rfl) rfl rfl ?_
  refine AW.iload_n (n := 5) (dat D_L_right 4 rfl) rfl rfl ?_
  rcases hk with rfl | rfl | rfl | rfl
  · refine AW.cV (n := 8) (as := [vI a0, vI a1]) (st := [vI 0, vR 84]) (st' := [vI v, vI 0, vR 84]) (uc' := 0) (us' := 0) h9 cf_X11_right ly_0 (le45 rfl) vc_11 (le45 rfl) wM_L_44 (le45 rfl) (le45 rfl) (dat D_L_right 5 rfl) rfl rfl (le45 rfl) (le45 rfl) rfl (fun _ => ?_) nlt0
    refine AW.i2l (n := 9) (dat D_L_right 6 rfl) rfl ?_
    refine AW.last (n := 10) (N := 1) (i := 0) rfl (le45 rfl) (by decide) (dat D_L_right 7 rfl) rfl ?_
    refine AW.goto (t := 25) (dat D_L_right 8 rfl) rfl ?_
    refine AW.iconst (n := 26) (dat D_L_right 18 rfl) rfl ?_
    exact AW.iret rfl rfl rfl (dat D_L_right 19 rfl)
  · refine AW.cV (n := 8) (as := [vI a0, vI a1]) (st := [vI 0, vR 84]) (st' := [vI v, vI 0, vR 84]) (uc' := 0) (us' := 0) h9 cf_X11_right ly_0 (le45 rfl) vc_11 (le45 rfl) wM_L_44 (le45 rfl) (le45 rfl) (dat D_L_right 5 rfl) rfl rfl (le45 rfl) (le45 rfl) rfl (fun q => absurd (show (1 : Nat) = 0 from q) (by decide)) (fun _ => ?_)
    refine AX.catch (pre := []) (suf := [(0, 10, 17, 13), (0, 10, 21, 21)]) (fr := 0) (to := 10) (tgt := 13) (ty := 27) rfl (fun _ h => nomatch h) (by decide) (by decide) wL_L_27 cx_1 (fun q => ?_)
    refine AW.xstore (n := 15) (ls' := [some (vR 0), some (vI a0), some (vI a1), some (vR 84), some (vA q)]) (dat D_L_right 9 rfl) rfl (le45 rfl) (le45 rfl) rfl rfl ?_
    refine AW.iconst (n := 16) (dat D_L_right 10 rfl) rfl ?_
    exact AW.iret rfl rfl rfl (dat D_L_right 11 rfl)
  · refine AW.cV (n := 8) (as := [vI a0, vI a1]) (st := [vI 0, vR 84]) (st' := [vI v, vI 0, vR 84]) (uc' := 0) (us' := 0) h9 cf_X11_right ly_0 (le45 rfl) vc_11 (le45 rfl) wM_L_44 (le45 rfl) (le45 rfl) (dat D_L_right 5 rfl) rfl rfl (le45 rfl) (le45 rfl) rfl (fun q => absurd (show (2 : Nat) = 0 from q) (by decide)) (fun _ => ?_)
    refine AX.catch (pre := [(0, 10, 13, 27)]) (suf := [(0, 10, 21, 21)]) (fr := 0) (to := 10) (tgt := 17) (ty := 13) rfl (List.forall_mem_cons.mpr ⟨⟨by decide, _, wL_L_27, nc_2_1⟩, (fun _ h => nomatch h)⟩) (by decide) (by decide) wL_L_13 cx_2 (fun q => ?_)
    refine AW.xstore (n := 19) (ls' := [some (vR 0), some (vI a0), some (vI a1), some (vR 84), some (vA q)]) (dat D_L_right 12 rfl) rfl (le45 rfl) (le45 rfl) rfl rfl ?_
    refine AW.iconst (n := 20) (dat D_L_right 13 rfl) rfl ?_
    exact AW.iret rfl rfl rfl (dat D_L_right 14 rfl)
  · refine AW.cV (n := 8) (as := [vI a0, vI a1]) (st := [vI 0, vR 84]) (st' := [vI v, vI 0, vR 84]) (uc' := 0) (us' := 0) h9 cf_X11_right ly_0 (le45 rfl) vc_11 (le45 rfl) wM_L_44 (le45 rfl) (le45 rfl) (dat D_L_right 5 rfl) rfl rfl (le45 rfl) (le45 rfl) rfl (fun q => absurd (show (4 : Nat) = 0 from q) (by decide)) (fun _ => ?_)
    refine AX.catch (pre := [(0, 10, 13, 27), (0, 10, 17, 13)]) (suf := []) (fr := 0) (to := 10) (tgt := 21) (ty := 21) rfl (List.forall_mem_cons.mpr ⟨⟨by decide, _, wL_L_27, nc_4_1⟩, (List.forall_mem_cons.mpr ⟨⟨by decide, _, wL_L_13, nc_4_2⟩, (fun _ h => nomatch h)⟩)⟩) (by decide) (by decide) wL_L_21 cx_4 (fun q => ?_)
    refine AW.xstore (n := 23) (ls' := [some (vR 0), some (vI a0), some (vI a1), some (vR 84), some (vA q)]) (dat D_L_right 15 rfl) rfl (le45 rfl) (le45 rfl) rfl rfl ?_
    refine AW.iconst (n := 24) (dat D_L_right 16 rfl) rfl ?_
    exact AW.iret rfl rfl rfl (dat D_L_right 17 rfl)
def L_L_hinders : List (Nat × Instr × Nat) := [(0, .aload_n 2, 1), (1, .iconst 0, 1), (2, .aload_n 0, 1), (3, .iload_n 1, 1), (4, .invokevirtual 47, 3), (7, .i2l, 1), (8, .lastore, 1), (9, .goto 6, 3), (12, .astore_n 3, 1), (13, .iconst 1, 1), (14, .ireturn, 1), (15, .iconst 0, 1), (16, .ireturn, 1)]
theorem D_L_hinders : dOK cL_hinders L_L_hinders = true := by decide +kernel
theorem ft_L_hinders : fitM mL_hinders 3 := ⟨by decide +kernel, by decide +kernel, by decide +kernel⟩
set_option maxRecDepth 100000 in
set_option maxHeartbeats 4000000 in
theorem A_L_hinders {Γ : GA} (hΓ : (gl Γ).stackTraces = false) {n : Nat} {a0 : Int} {σ τ : SG} {o : Nat × Int} (h : X11_hinders n a0 σ = some (o, τ)) (hk : o.1 = 0 ∨ o.1 = 1) : AM Γ mL_hinders 10 8 48 [vR 0, vI a0, vR 84] (85, σ) (0, cdL [1] o.1) (85, lxI o τ) := by
  have h9 := A_X11_hinders hΓ h
  clear h
  obtain ⟨k, v⟩ := o
  simp only at hk h9
  refine AM.ofH (h0 := (0, 9, 12, 27)) (ht := []) pl_L rfl wC_L_hinders (by decide) (le45 rfl) hΓ ?_
  refine AW.to (ls'' := [some (vR 0), some (vI a0), some (vR 84), none]) ?_ (lle_s rfl (lle_s rfl (lle_s rfl (lle_e lle_z))))
  refine AW.aload_n (n := 1) (dat D_L_hinders 0 rfl) rfl rfl ?_
  refine AW.iconst (n := 2) (dat D_L_hinders 1 rfl) rfl ?_
  refine AW.aload_n (n := 3) (dat D_L_hinders 2 rfl) rfl rfl ?_
  refine AW.iload_n (n := 4) (dat D_L_hinders 3 rfl) rfl rfl ?_
  rcases hk with rfl | rfl
  · refine AW.cV (n := 7) (as := [vI a0]) (st := [vI 0, vR 84]) (st' := [vI v, vI 0, vR 84]) (uc' := 0) (us' := 0) h9 cf_X11_hinders ly_0 (le45 rfl) vc_11 (le45 rfl) wM_L_47 (le45 rfl) (le45 rfl) (dat D_L_hinders 4 rfl) rfl rfl (le45 rfl) (le45 rfl) rfl (fun _ => ?_) nlt0
    refine AW.i2l (n := 8) (dat D_L_hinders 5 rfl) rfl ?_
    refine AW.last (n := 9) (N := 1) (i := 0) rfl (le45 rfl) (by decide) (dat D_L_hinders 6 rfl) rfl ?_
    refine AW.goto (t := 15) (dat D_L_hinders 7 rfl) rfl ?_
    refine AW.iconst (n := 16) (dat D_L_hinders 11 rfl) rfl ?_
    exact AW.iret rfl rfl rfl (dat D_L_hinders 12 rfl)
  · refine AW.cV (n := 7) (as := [vI a0]) (st := [vI 0, vR 84]) (st' := [vI v, vI 0, vR 84]) (uc' := 0) (us' := 0) h9 cf_X11_hinders ly_0 (le45 rfl) vc_11 (le45 rfl) wM_L_47 (le45 rfl) (le45 rfl) (dat D_L_hinders 4 rfl) rfl rfl (le45 rfl) (le45 rfl) rfl (fun q => absurd (show (1 : Nat) = 0 from q) (by decide)) (fun _ => ?_)
    refine AX.catch (pre := []) (suf := []) (fr := 0) (to := 9) (tgt := 12) (ty := 27) rfl (fun _ h => nomatch h) (by decide) (by decide) wL_L_27 cx_1 (fun q => ?_)
    refine AW.xstore_n (n := 13) (ls' := [some (vR 0), some (vI a0), some (vR 84), some (vA q)]) (dat D_L_hinders 8 rfl) rfl (le45 rfl) (le45 rfl) rfl rfl ?_
    refine AW.iconst (n := 14) (dat D_L_hinders 9 rfl) rfl ?_
    exact AW.iret rfl rfl rfl (dat D_L_hinders 10 rfl)
def L_L_ride : List (Nat × Instr × Nat) := [(0, .aload 4, 2), (2, .iconst 0, 1), (3, .aload_n 0, 1), (4, .iload_n 1, 1), (5, .iload_n 2, 1), (6, .iload_n 3, 1), (7, .invokevirtual 51, 3), (10, .i2l, 1), (11, .lastore, 1), (12, .goto 11, 3), (15, .astore 5, 2), (17, .iconst 1, 1), (18, .ireturn, 1), (19, .astore 5, 2), (21, .iconst 2, 1), (22, .ireturn, 1), (23, .iconst 0, 1), (24, .ireturn, 1)]
theorem D_L_ride : dOK cL_ride L_L_ride = true := by decide +kernel
theorem ft_L_ride : fitM mL_ride 5 := ⟨by decide +kernel, by decide +kernel, by decide +kernel⟩
set_option maxRecDepth 100000 in
set_option maxHeartbeats 4000000 in
theorem A_L_ride {Γ : GA} (hΓ : (gl Γ).stackTraces = false) {n : Nat} {a0 : Int} {a1 : Int} {a2 : Int} {σ τ : SG} {o : Nat × Int} (h : X11_ride n a0 a1 a2 σ = some (o, τ)) (hk : o.1 = 0 ∨ o.1 = 1 ∨ o.1 = 3) : AM Γ mL_ride 10 8 48 [vR 0, vI a0, vI a1, vI a2, vR 84] (85, σ) (0, cdL [1, 3] o.1) (85, lxI o τ) := by
  have h9 := A_X11_ride hΓ h
  clear h
  obtain ⟨k, v⟩ := o
  simp only at hk h9
  refine AM.ofH (h0 := (0, 12, 15, 27)) (ht := [(0, 12, 19, 29)]) pl_L rfl wC_L_ride (by decide) (le45 rfl) hΓ ?_
  refine AW.to (ls'' := [some (vR 0), some (vI a0), some (vI a1), some (vI a2), some (vR 84), none]) ?_ (lle_s rfl (lle_s rfl (lle_s rfl (lle_s rfl (lle_s rfl (lle_e lle_z))))))
  refine AW.aload (n := 2) (dat D_L_ride 0 rfl) rfl rfl ?_
  refine AW.iconst (n := 3) (dat D_L_ride 1 rfl) rfl ?_
  refine AW.aload_n (n := 4) (dat D_L_ride 2 rfl) rfl rfl ?_
  refine AW.iload_n (n := 5) (dat D_L_ride 3 rfl) rfl rfl ?_
  refine AW.iload_n (n := 6) (dat D_L_ride 4 rfl) rfl rfl ?_
  refine AW.iload_n (n := 7) (dat D_L_ride 5 rfl) rfl rfl ?_
  rcases hk with rfl | rfl | rfl
  · refine AW.cV (n := 10) (as := [vI a0, vI a1, vI a2]) (st := [vI 0, vR 84]) (st' := [vI v, vI 0, vR 84]) (uc' := 0) (us' := 0) h9 cf_X11_ride ly_0 (le45 rfl) vc_11 (le45 rfl) wM_L_51 (le45 rfl) (le45 rfl) (dat D_L_ride 6 rfl) rfl rfl (le45 rfl) (le45 rfl) rfl (fun _ => ?_) nlt0
    refine AW.i2l (n := 11) (dat D_L_ride 7 rfl) rfl ?_
    refine AW.last (n := 12) (N := 1) (i := 0) rfl (le45 rfl) (by decide) (dat D_L_ride 8 rfl) rfl ?_
    refine AW.goto (t := 23) (dat D_L_ride 9 rfl) rfl ?_
    refine AW.iconst (n := 24) (dat D_L_ride 16 rfl) rfl ?_
    exact AW.iret rfl rfl rfl (dat D_L_ride 17 rfl)
  · refine AW.cV (n := 10) (as := [vI a0, vI a1, vI a2]) (st := [vI 0, vR 84]) (st' := [vI v, vI 0, vR 84]) (uc' := 0) (us' := 0) h9 cf_X11_ride ly_0 (le45 rfl) vc_11 (le45 rfl) wM_L_51 (le45 rfl) (le45 rfl) (dat D_L_ride 6 rfl) rfl rfl (le45 rfl) (le45 rfl) rfl (fun q => absurd (show (1 : Nat) = 0 from q) (by decide)) (fun _ => ?_)
    refine AX.catch (pre := []) (suf := [(0, 12, 19, 29)]) (fr := 0) (to := 12) (tgt := 15) (ty := 27) rfl (fun _ h => nomatch h) (by decide) (by decide) wL_L_27 cx_1 (fun q => ?_)
    refine AW.xstore (n := 17) (ls' := [some (vR 0), some (vI a0), some (vI a1), some (vI a2), some (vR 84), some (vA q)]) (dat D_L_ride 10 rfl) rfl (le45 rfl) (le45 rfl) rfl rfl ?_
    refine AW.iconst (n := 18) (dat D_L_ride 11 rfl) rfl ?_
    exact AW.iret rfl rfl rfl (dat D_L_ride 12 rfl)
  · refine AW.cV (n := 10) (as := [vI a0, vI a1, vI a2]) (st := [vI 0, vR 84]) (st' := [vI v, vI 0, vR 84]) (uc' := 0) (us' := 0) h9 cf_X11_ride ly_0 (le45 rfl) vc_11 (le45 rfl) wM_L_51 (le45 rfl) (le45 rfl) (dat D_L_ride 6 rfl) rfl rfl (le45 rfl) (le45 rfl) rfl (fun q => absurd (show (3 : Nat) = 0 from q) (by decide)) (fun _ => ?_)
    refine AX.catch (pre := [(0, 12, 15, 27)]) (suf := []) (fr := 0) (to := 12) (tgt := 19) (ty := 29) rfl (List.forall_mem_cons.mpr ⟨⟨by decide, _, wL_L_27, nc_3_1⟩, (fun _ h => nomatch h)⟩) (by decide) (by decide) wL_L_29 cx_3 (fun q => ?_)
    refine AW.xstore (n := 21) (ls' := [some (vR 0), some (vI a0), some (vI a1), some (vI a2), some (vR 84), some (vA q)]) (dat D_L_ride 13 rfl) rfl (le45 rfl) (le45 rfl) rfl rfl ?_
    refine AW.iconst (n := 22) (dat D_L_ride 14 rfl) rfl ?_
    exact AW.iret rfl rfl rfl (dat D_L_ride 15 rfl)
def L_L_would : List (Nat × Instr × Nat) := [(0, .aload 6, 2), (2, .iconst 0, 1), (3, .aload_n 0, 1), (4, .iload_n 1, 1), (5, .iload_n 2, 1), (6, .iload_n 3, 1), (7, .iload 4, 2), (9, .iload 5, 2), (11, .invokevirtual 55, 3), (14, .i2l, 1), (15, .lastore, 1), (16, .goto 11, 3), (19, .astore 7, 2), (21, .iconst 1, 1), (22, .ireturn, 1), (23, .astore 7, 2), (25, .iconst 2, 1), (26, .ireturn, 1), (27, .iconst 0, 1), (28, .ireturn, 1)]
theorem D_L_would : dOK cL_would L_L_would = true := by decide +kernel
theorem ft_L_would : fitM mL_would 7 := ⟨by decide +kernel, by decide +kernel, by decide +kernel⟩
set_option maxRecDepth 100000 in
set_option maxHeartbeats 4000000 in
theorem A_L_would {Γ : GA} (hΓ : (gl Γ).stackTraces = false) {n : Nat} {a0 : Int} {a1 : Int} {a2 : Int} {a3 : Int} {a4 : Int} {σ τ : SG} {o : Nat × Int} (h : X11_would n a0 a1 a2 a3 a4 σ = some (o, τ)) (hk : o.1 = 0 ∨ o.1 = 1 ∨ o.1 = 2) : AM Γ mL_would 10 8 48 [vR 0, vI a0, vI a1, vI a2, vI a3, vI a4, vR 84] (85, σ) (0, cdL [1, 2] o.1) (85, lxI o τ) := by
  have h9 := A_X11_would hΓ h
  clear h
  obtain ⟨k, v⟩ := o
  simp only at hk h9
  refine AM.ofH (h0 := (0, 16, 19, 27)) (ht := [(0, 16, 23, 13)]) pl_L rfl wC_L_would (by decide) (le45 rfl) hΓ ?_
  refine AW.to (ls'' := [some (vR 0), some (vI a0), some (vI a1), some (vI a2), some (vI a3), some (vI a4), some (vR 84), none]) ?_ (lle_s rfl (lle_s rfl (lle_s rfl (lle_s rfl (lle_s rfl (lle_s rfl (lle_s rfl (lle_e lle_z))))))))
  refine AW.aload (n := 2) (dat D_L_would 0 rfl) rfl rfl ?_
  refine AW.iconst (n := 3) (dat D_L_would 1 rfl) rfl ?_
  refine AW.aload_n (n := 4) (dat D_L_would 2 rfl) rfl rfl ?_
  refine AW.iload_n (n := 5) (dat D_L_would 3 rfl) rfl rfl ?_
  refine AW.iload_n (n := 6) (dat D_L_would 4 rfl) rfl rfl ?_
  refine AW.iload_n (n := 7) (dat D_L_would 5 rfl) rfl rfl ?_
  refine AW.iload (n := 9) (dat D_L_would 6 rfl) rfl rfl ?_
  refine AW.iload (n := 11) (dat D_L_would 7 rfl) rfl rfl ?_
  rcases hk with rfl | rfl | rfl
  · refine AW.cV (n := 14) (as := [vI a0, vI a1, vI a2, vI a3, vI a4]) (st := [vI 0, vR 84]) (st' := [vI v, vI 0, vR 84]) (uc' := 0) (us' := 0) h9 cf_X11_would ly_0 (le45 rfl) vc_11 (le45 rfl) wM_L_55 (le45 rfl) (le45 rfl) (dat D_L_would 8 rfl) rfl rfl (le45 rfl) (le45 rfl) rfl (fun _ => ?_) nlt0
    refine AW.i2l (n := 15) (dat D_L_would 9 rfl) rfl ?_
    refine AW.last (n := 16) (N := 1) (i := 0) rfl (le45 rfl) (by decide) (dat D_L_would 10 rfl) rfl ?_
    refine AW.goto (t := 27) (dat D_L_would 11 rfl) rfl ?_
    refine AW.iconst (n := 28) (dat D_L_would 18 rfl) rfl ?_
    exact AW.iret rfl rfl rfl (dat D_L_would 19 rfl)
  · refine AW.cV (n := 14) (as := [vI a0, vI a1, vI a2, vI a3, vI a4]) (st := [vI 0, vR 84]) (st' := [vI v, vI 0, vR 84]) (uc' := 0) (us' := 0) h9 cf_X11_would ly_0 (le45 rfl) vc_11 (le45 rfl) wM_L_55 (le45 rfl) (le45 rfl) (dat D_L_would 8 rfl) rfl rfl (le45 rfl) (le45 rfl) rfl (fun q => absurd (show (1 : Nat) = 0 from q) (by decide)) (fun _ => ?_)
    refine AX.catch (pre := []) (suf := [(0, 16, 23, 13)]) (fr := 0) (to := 16) (tgt := 19) (ty := 27) rfl (fun _ h => nomatch h) (by decide) (by decide) wL_L_27 cx_1 (fun q => ?_)
    refine AW.xstore (n := 21) (ls' := [some (vR 0), some (vI a0), some (vI a1), some (vI a2), some (vI a3), some (vI a4), some (vR 84), some (vA q)]) (dat D_L_would 12 rfl) rfl (le45 rfl) (le45 rfl) rfl rfl ?_
    refine AW.iconst (n := 22) (dat D_L_would 13 rfl) rfl ?_
    exact AW.iret rfl rfl rfl (dat D_L_would 14 rfl)
  · refine AW.cV (n := 14) (as := [vI a0, vI a1, vI a2, vI a3, vI a4]) (st := [vI 0, vR 84]) (st' := [vI v, vI 0, vR 84]) (uc' := 0) (us' := 0) h9 cf_X11_would ly_0 (le45 rfl) vc_11 (le45 rfl) wM_L_55 (le45 rfl) (le45 rfl) (dat D_L_would 8 rfl) rfl rfl (le45 rfl) (le45 rfl) rfl (fun q => absurd (show (2 : Nat) = 0 from q) (by decide)) (fun _ => ?_)
    refine AX.catch (pre := [(0, 16, 19, 27)]) (suf := []) (fr := 0) (to := 16) (tgt := 23) (ty := 13) rfl (List.forall_mem_cons.mpr ⟨⟨by decide, _, wL_L_27, nc_2_1⟩, (fun _ h => nomatch h)⟩) (by decide) (by decide) wL_L_13 cx_2 (fun q => ?_)
    refine AW.xstore (n := 25) (ls' := [some (vR 0), some (vI a0), some (vI a1), some (vI a2), some (vI a3), some (vI a4), some (vR 84), some (vA q)]) (dat D_L_would 15 rfl) rfl (le45 rfl) (le45 rfl) rfl rfl ?_
    refine AW.iconst (n := 26) (dat D_L_would 16 rfl) rfl ?_
    exact AW.iret rfl rfl rfl (dat D_L_would 17 rfl)
def L_L_ranked : List (Nat × Instr × Nat) := [(0, .aload_n 2, 1), (1, .iconst 0, 1), (2, .aload_n 0, 1), (3, .iload_n 1, 1), (4, .invokevirtual 59, 3), (7, .i2l, 1), (8, .lastore, 1), (9, .goto 6, 3), (12, .astore_n 3, 1), (13, .iconst 1, 1), (14, .ireturn, 1), (15, .iconst 0, 1), (16, .ireturn, 1)]
theorem D_L_ranked : dOK cL_ranked L_L_ranked = true := by decide +kernel
theorem ft_L_ranked : fitM mL_ranked 3 := ⟨by decide +kernel, by decide +kernel, by decide +kernel⟩
set_option maxRecDepth 100000 in
set_option maxHeartbeats 4000000 in
theorem A_L_ranked {Γ : GA} (hΓ : (gl Γ).stackTraces = false) {n : Nat} {a0 : Int} {σ τ : SG} {o : Nat × Int} (h : X11_ranked n a0 σ = some (o, τ)) (hk : o.1 = 0 ∨ o.1 = 3) : AM Γ mL_ranked 9 8 48 [vR 0, vI a0, vR 84] (85, σ) (0, cdL [3] o.1) (85, lxI o τ) := by
  have h9 := A_X11_ranked hΓ h
  clear h
  obtain ⟨k, v⟩ := o
  simp only at hk h9
  refine AM.ofH (h0 := (0, 9, 12, 29)) (ht := []) pl_L rfl wC_L_ranked (by decide) (le45 rfl) hΓ ?_
  refine AW.to (ls'' := [some (vR 0), some (vI a0), some (vR 84), none]) ?_ (lle_s rfl (lle_s rfl (lle_s rfl (lle_e lle_z))))
  refine AW.aload_n (n := 1) (dat D_L_ranked 0 rfl) rfl rfl ?_
  refine AW.iconst (n := 2) (dat D_L_ranked 1 rfl) rfl ?_
  refine AW.aload_n (n := 3) (dat D_L_ranked 2 rfl) rfl rfl ?_
  refine AW.iload_n (n := 4) (dat D_L_ranked 3 rfl) rfl rfl ?_
  rcases hk with rfl | rfl
  · refine AW.cV (n := 7) (as := [vI a0]) (st := [vI 0, vR 84]) (st' := [vI v, vI 0, vR 84]) (uc' := 0) (us' := 0) h9 cf_X11_ranked ly_0 (le45 rfl) vc_11 (le45 rfl) wM_L_59 (le45 rfl) (le45 rfl) (dat D_L_ranked 4 rfl) rfl rfl (le45 rfl) (le45 rfl) rfl (fun _ => ?_) nlt0
    refine AW.i2l (n := 8) (dat D_L_ranked 5 rfl) rfl ?_
    refine AW.last (n := 9) (N := 1) (i := 0) rfl (le45 rfl) (by decide) (dat D_L_ranked 6 rfl) rfl ?_
    refine AW.goto (t := 15) (dat D_L_ranked 7 rfl) rfl ?_
    refine AW.iconst (n := 16) (dat D_L_ranked 11 rfl) rfl ?_
    exact AW.iret rfl rfl rfl (dat D_L_ranked 12 rfl)
  · refine AW.cV (n := 7) (as := [vI a0]) (st := [vI 0, vR 84]) (st' := [vI v, vI 0, vR 84]) (uc' := 0) (us' := 0) h9 cf_X11_ranked ly_0 (le45 rfl) vc_11 (le45 rfl) wM_L_59 (le45 rfl) (le45 rfl) (dat D_L_ranked 4 rfl) rfl rfl (le45 rfl) (le45 rfl) rfl (fun q => absurd (show (3 : Nat) = 0 from q) (by decide)) (fun _ => ?_)
    refine AX.catch (pre := []) (suf := []) (fr := 0) (to := 9) (tgt := 12) (ty := 29) rfl (fun _ h => nomatch h) (by decide) (by decide) wL_L_29 cx_3 (fun q => ?_)
    refine AW.xstore_n (n := 13) (ls' := [some (vR 0), some (vI a0), some (vR 84), some (vA q)]) (dat D_L_ranked 8 rfl) rfl (le45 rfl) (le45 rfl) rfl rfl ?_
    refine AW.iconst (n := 14) (dat D_L_ranked 9 rfl) rfl ?_
    exact AW.iret rfl rfl rfl (dat D_L_ranked 10 rfl)
def L_L_need : List (Nat × Instr × Nat) := [(0, .aload_n 2, 1), (1, .iconst 0, 1), (2, .aload_n 0, 1), (3, .iload_n 1, 1), (4, .invokevirtual 62, 3), (7, .i2l, 1), (8, .lastore, 1), (9, .goto 6, 3), (12, .astore_n 3, 1), (13, .iconst 1, 1), (14, .ireturn, 1), (15, .iconst 0, 1), (16, .ireturn, 1)]
theorem D_L_need : dOK cL_need L_L_need = true := by decide +kernel
theorem ft_L_need : fitM mL_need 3 := ⟨by decide +kernel, by decide +kernel, by decide +kernel⟩
set_option maxRecDepth 100000 in
set_option maxHeartbeats 4000000 in
theorem A_L_need {Γ : GA} (hΓ : (gl Γ).stackTraces = false) {n : Nat} {a0 : Int} {σ τ : SG} {o : Nat × Int} (h : X11_need n a0 σ = some (o, τ)) (hk : o.1 = 0 ∨ o.1 = 1) : AM Γ mL_need 10 8 48 [vR 0, vI a0, vR 84] (85, σ) (0, cdL [1] o.1) (85, lxI o τ) := by
  have h9 := A_X11_need hΓ h
  clear h
  obtain ⟨k, v⟩ := o
  simp only at hk h9
  refine AM.ofH (h0 := (0, 9, 12, 27)) (ht := []) pl_L rfl wC_L_need (by decide) (le45 rfl) hΓ ?_
  refine AW.to (ls'' := [some (vR 0), some (vI a0), some (vR 84), none]) ?_ (lle_s rfl (lle_s rfl (lle_s rfl (lle_e lle_z))))
  refine AW.aload_n (n := 1) (dat D_L_need 0 rfl) rfl rfl ?_
  refine AW.iconst (n := 2) (dat D_L_need 1 rfl) rfl ?_
  refine AW.aload_n (n := 3) (dat D_L_need 2 rfl) rfl rfl ?_
  refine AW.iload_n (n := 4) (dat D_L_need 3 rfl) rfl rfl ?_
  rcases hk with rfl | rfl
  · refine AW.cV (n := 7) (as := [vI a0]) (st := [vI 0, vR 84]) (st' := [vI v, vI 0, vR 84]) (uc' := 0) (us' := 0) h9 cf_X11_need ly_0 (le45 rfl) vc_11 (le45 rfl) wM_L_62 (le45 rfl) (le45 rfl) (dat D_L_need 4 rfl) rfl rfl (le45 rfl) (le45 rfl) rfl (fun _ => ?_) nlt0
    refine AW.i2l (n := 8) (dat D_L_need 5 rfl) rfl ?_
    refine AW.last (n := 9) (N := 1) (i := 0) rfl (le45 rfl) (by decide) (dat D_L_need 6 rfl) rfl ?_
    refine AW.goto (t := 15) (dat D_L_need 7 rfl) rfl ?_
    refine AW.iconst (n := 16) (dat D_L_need 11 rfl) rfl ?_
    exact AW.iret rfl rfl rfl (dat D_L_need 12 rfl)
  · refine AW.cV (n := 7) (as := [vI a0]) (st := [vI 0, vR 84]) (st' := [vI v, vI 0, vR 84]) (uc' := 0) (us' := 0) h9 cf_X11_need ly_0 (le45 rfl) vc_11 (le45 rfl) wM_L_62 (le45 rfl) (le45 rfl) (dat D_L_need 4 rfl) rfl rfl (le45 rfl) (le45 rfl) rfl (fun q => absurd (show (1 : Nat) = 0 from q) (by decide)) (fun _ => ?_)
    refine AX.catch (pre := []) (suf := []) (fr := 0) (to := 9) (tgt := 12) (ty := 27) rfl (fun _ h => nomatch h) (by decide) (by decide) wL_L_27 cx_1 (fun q => ?_)
    refine AW.xstore_n (n := 13) (ls' := [some (vR 0), some (vI a0), some (vR 84), some (vA q)]) (dat D_L_need 8 rfl) rfl (le45 rfl) (le45 rfl) rfl rfl ?_
    refine AW.iconst (n := 14) (dat D_L_need 9 rfl) rfl ?_
    exact AW.iret rfl rfl rfl (dat D_L_need 10 rfl)
def L_L_best : List (Nat × Instr × Nat) := [(0, .aload_n 3, 1), (1, .iconst 0, 1), (2, .aload_n 0, 1), (3, .iload_n 1, 1), (4, .iload_n 2, 1), (5, .invokevirtual 65, 3), (8, .i2l, 1), (9, .lastore, 1), (10, .goto 15, 3), (13, .astore 4, 2), (15, .iconst 1, 1), (16, .ireturn, 1), (17, .astore 4, 2), (19, .iconst 2, 1), (20, .ireturn, 1), (21, .astore 4, 2), (23, .iconst 3, 1), (24, .ireturn, 1), (25, .iconst 0, 1), (26, .ireturn, 1)]
theorem D_L_best : dOK cL_best L_L_best = true := by decide +kernel
theorem ft_L_best : fitM mL_best 4 := ⟨by decide +kernel, by decide +kernel, by decide +kernel⟩
set_option maxRecDepth 100000 in
set_option maxHeartbeats 4000000 in
theorem A_L_best {Γ : GA} (hΓ : (gl Γ).stackTraces = false) {n : Nat} {a0 : Int} {a1 : Int} {σ τ : SG} {o : Nat × Int} (h : X11_best n a0 a1 σ = some (o, τ)) (hk : o.1 = 0 ∨ o.1 = 1 ∨ o.1 = 3 ∨ o.1 = 4) : AM Γ mL_best 10 8 48 [vR 0, vI a0, vI a1, vR 84] (85, σ) (0, cdL [1, 3, 4] o.1) (85, lxI o τ) := by
  have h9 := A_X11_best hΓ h
  clear h
  obtain ⟨k, v⟩ := o
  simp only at hk h9
  refine AM.ofH (h0 := (0, 10, 13, 27)) (ht := [(0, 10, 17, 29), (0, 10, 21, 21)]) pl_L rfl wC_L_best (by decide) (le45 rfl) hΓ ?_
  refine AW.to (ls'' := [some (vR 0), some (vI a0), some (vI a1), some (vR 84), none]) ?_ (lle_s rfl (lle_s rfl (lle_s rfl (lle_s rfl (lle_e lle_z)))))
  refine AW.aload_n (n := 1) (dat D_L_best 0 rfl) rfl rfl ?_
  refine AW.iconst (n := 2) (dat D_L_best 1 rfl) rfl ?_
  refine AW.aload_n (n := 3) (dat D_L_best 2 rfl) rfl rfl ?_
  refine AW.iload_n (n := 4) (dat D_L_best 3 rfl) rfl rfl ?_
  refine AW.iload_n (n := 5) (dat D_L_best 4 rfl) rfl rfl ?_
  rcases hk with rfl | rfl | rfl | rfl
  · refine AW.cV (n := 8) (as := [vI a0, vI a1]) (st := [vI 0, vR 84]) (st' := [vI v, vI 0, vR 84]) (uc' := 0) (us' := 0) h9 cf_X11_best ly_0 (le45 rfl) vc_11 (le45 rfl) wM_L_65 (le45 rfl) (le45 rfl) (dat D_L_best 5 rfl) rfl rfl (le45 rfl) (le45 rfl) rfl (fun _ => ?_) nlt0
    refine AW.i2l (n := 9) (dat D_L_best 6 rfl) rfl ?_
    refine AW.last (n := 10) (N := 1) (i := 0) rfl (le45 rfl) (by decide) (dat D_L_best 7 rfl) rfl ?_
    refine AW.goto (t := 25) (dat D_L_best 8 rfl) rfl ?_
    refine AW.iconst (n := 26) (dat D_L_best 18 rfl) rfl ?_
    exact AW.iret rfl rfl rfl (dat D_L_best 19 rfl)
  · refine AW.cV (n := 8) (as := [vI a0, vI a1]) (st := [vI 0, vR 84]) (st' := [vI v, vI 0, vR 84]) (uc' := 0) (us' := 0) h9 cf_X11_best ly_0 (le45 rfl) vc_11 (le45 rfl) wM_L_65 (le45 rfl) (le45 rfl) (dat D_L_best 5 rfl) rfl rfl (le45 rfl) (le45 rfl) rfl (fun q => absurd (show (1 : Nat) = 0 from q) (by decide)) (fun _ => ?_)
    refine AX.catch (pre := []) (suf := [(0, 10, 17, 29), (0, 10, 21, 21)]) (fr := 0) (to := 10) (tgt := 13) (ty := 27) rfl (fun _ h => nomatch h) (by decide) (by decide) wL_L_27 cx_1 (fun q => ?_)
    refine AW.xstore (n := 15) (ls' := [some (vR 0), some (vI a0), some (vI a1), some (vR 84), some (vA q)]) (dat D_L_best 9 rfl) rfl (le45 rfl) (le45 rfl) rfl rfl ?_
    refine AW.iconst (n := 16) (dat D_L_best 10 rfl) rfl ?_
    exact AW.iret rfl rfl rfl (dat D_L_best 11 rfl)
  · refine AW.cV (n := 8) (as := [vI a0, vI a1]) (st := [vI 0, vR 84]) (st' := [vI v, vI 0, vR 84]) (uc' := 0) (us' := 0) h9 cf_X11_best ly_0 (le45 rfl) vc_11 (le45 rfl) wM_L_65 (le45 rfl) (le45 rfl) (dat D_L_best 5 rfl) rfl rfl (le45 rfl) (le45 rfl) rfl (fun q => absurd (show (3 : Nat) = 0 from q) (by decide)) (fun _ => ?_)
    refine AX.catch (pre := [(0, 10, 13, 27)]) (suf := [(0, 10, 21, 21)]) (fr := 0) (to := 10) (tgt := 17) (ty := 29) rfl (List.forall_mem_cons.mpr ⟨⟨by decide, _, wL_L_27, nc_3_1⟩, (fun _ h => nomatch h)⟩) (by decide) (by decide) wL_L_29 cx_3 (fun q => ?_)
    refine AW.xstore (n := 19) (ls' := [some (vR 0), some (vI a0), some (vI a1), some (vR 84), some (vA q)]) (dat D_L_best 12 rfl) rfl (le45 rfl) (le45 rfl) rfl rfl ?_
    refine AW.iconst (n := 20) (dat D_L_best 13 rfl) rfl ?_
    exact AW.iret rfl rfl rfl (dat D_L_best 14 rfl)
  · refine AW.cV (n := 8) (as := [vI a0, vI a1]) (st := [vI 0, vR 84]) (st' := [vI v, vI 0, vR 84]) (uc' := 0) (us' := 0) h9 cf_X11_best ly_0 (le45 rfl) vc_11 (le45 rfl) wM_L_65 (le45 rfl) (le45 rfl) (dat D_L_best 5 rfl) rfl rfl (le45 rfl) (le45 rfl) rfl (fun q => absurd (show (4 : Nat) = 0 from q) (by decide)) (fun _ => ?_)
    refine AX.catch (pre := [(0, 10, 13, 27), (0, 10, 17, 29)]) (suf := []) (fr := 0) (to := 10) (tgt := 21) (ty := 21) rfl (List.forall_mem_cons.mpr ⟨⟨by decide, _, wL_L_27, nc_4_1⟩, (List.forall_mem_cons.mpr ⟨⟨by decide, _, wL_L_29, nc_4_3⟩, (fun _ h => nomatch h)⟩)⟩) (by decide) (by decide) wL_L_21 cx_4 (fun q => ?_)
    refine AW.xstore (n := 23) (ls' := [some (vR 0), some (vI a0), some (vI a1), some (vR 84), some (vA q)]) (dat D_L_best 15 rfl) rfl (le45 rfl) (le45 rfl) rfl rfl ?_
    refine AW.iconst (n := 24) (dat D_L_best 16 rfl) rfl ?_
    exact AW.iret rfl rfl rfl (dat D_L_best 17 rfl)
def L_L_plan : List (Nat × Instr × Nat) := [(0, .aload_n 3, 1), (1, .iconst 0, 1), (2, .aload_n 0, 1), (3, .iload_n 1, 1), (4, .iload_n 2, 1), (5, .invokevirtual 68, 3), (8, .i2l, 1), (9, .lastore, 1), (10, .goto 15, 3), (13, .astore 4, 2), (15, .iconst 1, 1), (16, .ireturn, 1), (17, .astore 4, 2), (19, .iconst 2, 1), (20, .ireturn, 1), (21, .astore 4, 2), (23, .iconst 3, 1), (24, .ireturn, 1), (25, .iconst 0, 1), (26, .ireturn, 1)]
theorem D_L_plan : dOK cL_plan L_L_plan = true := by decide +kernel
theorem ft_L_plan : fitM mL_plan 4 := ⟨by decide +kernel, by decide +kernel, by decide +kernel⟩
set_option maxRecDepth 100000 in
set_option maxHeartbeats 4000000 in
theorem A_L_plan {Γ : GA} (hΓ : (gl Γ).stackTraces = false) {n : Nat} {a0 : Int} {a1 : Int} {σ τ : SG} {o : Nat × Int} (h : X11_plan n a0 a1 σ = some (o, τ)) (hk : o.1 = 0 ∨ o.1 = 1 ∨ o.1 = 3 ∨ o.1 = 4) : AM Γ mL_plan 10 8 48 [vR 0, vI a0, vI a1, vR 84] (85, σ) (0, cdL [1, 3, 4] o.1) (85, lxI o τ) := by
  have h9 := A_X11_plan hΓ h
  clear h
  obtain ⟨k, v⟩ := o
  simp only at hk h9
  refine AM.ofH (h0 := (0, 10, 13, 27)) (ht := [(0, 10, 17, 29), (0, 10, 21, 21)]) pl_L rfl wC_L_plan (by decide) (le45 rfl) hΓ ?_
  refine AW.to (ls'' := [some (vR 0), some (vI a0), some (vI a1), some (vR 84), none]) ?_ (lle_s rfl (lle_s rfl (lle_s rfl (lle_s rfl (lle_e lle_z)))))
  refine AW.aload_n (n := 1) (dat D_L_plan 0 rfl) rfl rfl ?_
  refine AW.iconst (n := 2) (dat D_L_plan 1 rfl) rfl ?_
  refine AW.aload_n (n := 3) (dat D_L_plan 2 rfl) rfl rfl ?_
  refine AW.iload_n (n := 4) (dat D_L_plan 3 rfl) rfl rfl ?_
  refine AW.iload_n (n := 5) (dat D_L_plan 4 rfl) rfl rfl ?_
  rcases hk with rfl | rfl | rfl | rfl
  · refine AW.cV (n := 8) (as := [vI a0, vI a1]) (st := [vI 0, vR 84]) (st' := [vI v, vI 0, vR 84]) (uc' := 0) (us' := 0) h9 cf_X11_plan ly_0 (le45 rfl) vc_11 (le45 rfl) wM_L_68 (le45 rfl) (le45 rfl) (dat D_L_plan 5 rfl) rfl rfl (le45 rfl) (le45 rfl) rfl (fun _ => ?_) nlt0
    refine AW.i2l (n := 9) (dat D_L_plan 6 rfl) rfl ?_
    refine AW.last (n := 10) (N := 1) (i := 0) rfl (le45 rfl) (by decide) (dat D_L_plan 7 rfl) rfl ?_
    refine AW.goto (t := 25) (dat D_L_plan 8 rfl) rfl ?_
    refine AW.iconst (n := 26) (dat D_L_plan 18 rfl) rfl ?_
    exact AW.iret rfl rfl rfl (dat D_L_plan 19 rfl)
  · refine AW.cV (n := 8) (as := [vI a0, vI a1]) (st := [vI 0, vR 84]) (st' := [vI v, vI 0, vR 84]) (uc' := 0) (us' := 0) h9 cf_X11_plan ly_0 (le45 rfl) vc_11 (le45 rfl) wM_L_68 (le45 rfl) (le45 rfl) (dat D_L_plan 5 rfl) rfl rfl (le45 rfl) (le45 rfl) rfl (fun q => absurd (show (1 : Nat) = 0 from q) (by decide)) (fun _ => ?_)
    refine AX.catch (pre := []) (suf := [(0, 10, 17, 29), (0, 10, 21, 21)]) (fr := 0) (to := 10) (tgt := 13) (ty := 27) rfl (fun _ h => nomatch h) (by decide) (by decide) wL_L_27 cx_1 (fun q => ?_)
    refine AW.xstore (n := 15) (ls' := [some (vR 0), some (vI a0), some (vI a1), some (vR 84), some (vA q)]) (dat D_L_plan 9 rfl) rfl (le45 rfl) (le45 rfl) rfl rfl ?_
    refine AW.iconst (n := 16) (dat D_L_plan 10 rfl) rfl ?_
    exact AW.iret rfl rfl rfl (dat D_L_plan 11 rfl)
  · refine AW.cV (n := 8) (as := [vI a0, vI a1]) (st := [vI 0, vR 84]) (st' := [vI v, vI 0, vR 84]) (uc' := 0) (us' := 0) h9 cf_X11_plan ly_0 (le45 rfl) vc_11 (le45 rfl) wM_L_68 (le45 rfl) (le45 rfl) (dat D_L_plan 5 rfl) rfl rfl (le45 rfl) (le45 rfl) rfl (fun q => absurd (show (3 : Nat) = 0 from q) (by decide)) (fun _ => ?_)
    refine AX.catch (pre := [(0, 10, 13, 27)]) (suf := [(0, 10, 21, 21)]) (fr := 0) (to := 10) (tgt := 17) (ty := 29) rfl (List.forall_mem_cons.mpr ⟨⟨by decide, _, wL_L_27, nc_3_1⟩, (fun _ h => nomatch h)⟩) (by decide) (by decide) wL_L_29 cx_3 (fun q => ?_)
    refine AW.xstore (n := 19) (ls' := [some (vR 0), some (vI a0), some (vI a1), some (vR 84), some (vA q)]) (dat D_L_plan 12 rfl) rfl (le45 rfl) (le45 rfl) rfl rfl ?_
    refine AW.iconst (n := 20) (dat D_L_plan 13 rfl) rfl ?_
    exact AW.iret rfl rfl rfl (dat D_L_plan 14 rfl)
  · refine AW.cV (n := 8) (as := [vI a0, vI a1]) (st := [vI 0, vR 84]) (st' := [vI v, vI 0, vR 84]) (uc' := 0) (us' := 0) h9 cf_X11_plan ly_0 (le45 rfl) vc_11 (le45 rfl) wM_L_68 (le45 rfl) (le45 rfl) (dat D_L_plan 5 rfl) rfl rfl (le45 rfl) (le45 rfl) rfl (fun q => absurd (show (4 : Nat) = 0 from q) (by decide)) (fun _ => ?_)
    refine AX.catch (pre := [(0, 10, 13, 27), (0, 10, 17, 29)]) (suf := []) (fr := 0) (to := 10) (tgt := 21) (ty := 21) rfl (List.forall_mem_cons.mpr ⟨⟨by decide, _, wL_L_27, nc_4_1⟩, (List.forall_mem_cons.mpr ⟨⟨by decide, _, wL_L_29, nc_4_3⟩, (fun _ h => nomatch h)⟩)⟩) (by decide) (by decide) wL_L_21 cx_4 (fun q => ?_)
    refine AW.xstore (n := 23) (ls' := [some (vR 0), some (vI a0), some (vI a1), some (vR 84), some (vA q)]) (dat D_L_plan 15 rfl) rfl (le45 rfl) (le45 rfl) rfl rfl ?_
    refine AW.iconst (n := 24) (dat D_L_plan 16 rfl) rfl ?_
    exact AW.iret rfl rfl rfl (dat D_L_plan 17 rfl)
def L_L_worth : List (Nat × Instr × Nat) := [(0, .aload 4, 2), (2, .iconst 0, 1), (3, .aload_n 0, 1), (4, .iload_n 1, 1), (5, .iload_n 2, 1), (6, .iload_n 3, 1), (7, .invokevirtual 71, 3), (10, .lastore, 1), (11, .goto 15, 3), (14, .astore 5, 2), (16, .iconst 1, 1), (17, .ireturn, 1), (18, .astore 5, 2), (20, .iconst 2, 1), (21, .ireturn, 1), (22, .astore 5, 2), (24, .iconst 3, 1), (25, .ireturn, 1), (26, .iconst 0, 1), (27, .ireturn, 1)]
theorem D_L_worth : dOK cL_worth L_L_worth = true := by decide +kernel
theorem ft_L_worth : fitM mL_worth 5 := ⟨by decide +kernel, by decide +kernel, by decide +kernel⟩
set_option maxRecDepth 100000 in
set_option maxHeartbeats 4000000 in
theorem A_L_worth {Γ : GA} (hΓ : (gl Γ).stackTraces = false) {n : Nat} {a0 : Int} {a1 : Int} {a2 : Int} {σ τ : SG} {o : Nat × Int} (h : X11_worth n a0 a1 a2 σ = some (o, τ)) (hk : o.1 = 0 ∨ o.1 = 1 ∨ o.1 = 2 ∨ o.1 = 4) : AM Γ mL_worth 10 8 48 [vR 0, vI a0, vI a1, vI a2, vR 84] (85, σ) (0, cdL [1, 2, 4] o.1) (85, lxL o τ) := by
  have h9 := A_X11_worth hΓ h
  clear h
  obtain ⟨k, v⟩ := o
  simp only at hk h9
  refine AM.ofH (h0 := (0, 11, 14, 27)) (ht := [(0, 11, 18, 13), (0, 11, 22, 21)]) pl_L rfl wC_L_worth (by decide) (le45 rfl) hΓ ?_
  refine AW.to (ls'' := [some (vR 0), some (vI a0), some (vI a1), some (vI a2), some (vR 84), none]) ?_ (lle_s rfl (lle_s rfl (lle_s rfl (lle_s rfl (lle_s rfl (lle_e lle_z))))))
  refine AW.aload (n := 2) (dat D_L_worth 0 rfl) rfl rfl ?_
  refine AW.iconst (n := 3) (dat D_L_worth 1 rfl) rfl ?_
  refine AW.aload_n (n := 4) (dat D_L_worth 2 rfl) rfl rfl ?_
  refine AW.iload_n (n := 5) (dat D_L_worth 3 rfl) rfl rfl ?_
  refine AW.iload_n (n := 6) (dat D_L_worth 4 rfl) rfl rfl ?_
  refine AW.iload_n (n := 7) (dat D_L_worth 5 rfl) rfl rfl ?_
  rcases hk with rfl | rfl | rfl | rfl
  · refine AW.cV (n := 10) (as := [vI a0, vI a1, vI a2]) (st := [vI 0, vR 84]) (st' := [vL v, vI 0, vR 84]) (uc' := 0) (us' := 0) h9 cf_X11_worth ly_0 (le45 rfl) vc_11 (le45 rfl) wM_L_71 (le45 rfl) (le45 rfl) (dat D_L_worth 6 rfl) rfl rfl (le45 rfl) (le45 rfl) rfl (fun _ => ?_) nlt0
    refine AW.last (n := 11) (N := 1) (i := 0) rfl (le45 rfl) (by decide) (dat D_L_worth 7 rfl) rfl ?_
    refine AW.goto (t := 26) (dat D_L_worth 8 rfl) rfl ?_
    refine AW.iconst (n := 27) (dat D_L_worth 18 rfl) rfl ?_
    exact AW.iret rfl rfl rfl (dat D_L_worth 19 rfl)
  · refine AW.cV (n := 10) (as := [vI a0, vI a1, vI a2]) (st := [vI 0, vR 84]) (st' := [vL v, vI 0, vR 84]) (uc' := 0) (us' := 0) h9 cf_X11_worth ly_0 (le45 rfl) vc_11 (le45 rfl) wM_L_71 (le45 rfl) (le45 rfl) (dat D_L_worth 6 rfl) rfl rfl (le45 rfl) (le45 rfl) rfl (fun q => absurd (show (1 : Nat) = 0 from q) (by decide)) (fun _ => ?_)
    refine AX.catch (pre := []) (suf := [(0, 11, 18, 13), (0, 11, 22, 21)]) (fr := 0) (to := 11) (tgt := 14) (ty := 27) rfl (fun _ h => nomatch h) (by decide) (by decide) wL_L_27 cx_1 (fun q => ?_)
    refine AW.xstore (n := 16) (ls' := [some (vR 0), some (vI a0), some (vI a1), some (vI a2), some (vR 84), some (vA q)]) (dat D_L_worth 9 rfl) rfl (le45 rfl) (le45 rfl) rfl rfl ?_
    refine AW.iconst (n := 17) (dat D_L_worth 10 rfl) rfl ?_
    exact AW.iret rfl rfl rfl (dat D_L_worth 11 rfl)
  · refine AW.cV (n := 10) (as := [vI a0, vI a1, vI a2]) (st := [vI 0, vR 84]) (st' := [vL v, vI 0, vR 84]) (uc' := 0) (us' := 0) h9 cf_X11_worth ly_0 (le45 rfl) vc_11 (le45 rfl) wM_L_71 (le45 rfl) (le45 rfl) (dat D_L_worth 6 rfl) rfl rfl (le45 rfl) (le45 rfl) rfl (fun q => absurd (show (2 : Nat) = 0 from q) (by decide)) (fun _ => ?_)
    refine AX.catch (pre := [(0, 11, 14, 27)]) (suf := [(0, 11, 22, 21)]) (fr := 0) (to := 11) (tgt := 18) (ty := 13) rfl (List.forall_mem_cons.mpr ⟨⟨by decide, _, wL_L_27, nc_2_1⟩, (fun _ h => nomatch h)⟩) (by decide) (by decide) wL_L_13 cx_2 (fun q => ?_)
    refine AW.xstore (n := 20) (ls' := [some (vR 0), some (vI a0), some (vI a1), some (vI a2), some (vR 84), some (vA q)]) (dat D_L_worth 12 rfl) rfl (le45 rfl) (le45 rfl) rfl rfl ?_
    refine AW.iconst (n := 21) (dat D_L_worth 13 rfl) rfl ?_
    exact AW.iret rfl rfl rfl (dat D_L_worth 14 rfl)
  · refine AW.cV (n := 10) (as := [vI a0, vI a1, vI a2]) (st := [vI 0, vR 84]) (st' := [vL v, vI 0, vR 84]) (uc' := 0) (us' := 0) h9 cf_X11_worth ly_0 (le45 rfl) vc_11 (le45 rfl) wM_L_71 (le45 rfl) (le45 rfl) (dat D_L_worth 6 rfl) rfl rfl (le45 rfl) (le45 rfl) rfl (fun q => absurd (show (4 : Nat) = 0 from q) (by decide)) (fun _ => ?_)
    refine AX.catch (pre := [(0, 11, 14, 27), (0, 11, 18, 13)]) (suf := []) (fr := 0) (to := 11) (tgt := 22) (ty := 21) rfl (List.forall_mem_cons.mpr ⟨⟨by decide, _, wL_L_27, nc_4_1⟩, (List.forall_mem_cons.mpr ⟨⟨by decide, _, wL_L_13, nc_4_2⟩, (fun _ h => nomatch h)⟩)⟩) (by decide) (by decide) wL_L_21 cx_4 (fun q => ?_)
    refine AW.xstore (n := 24) (ls' := [some (vR 0), some (vI a0), some (vI a1), some (vI a2), some (vR 84), some (vA q)]) (dat D_L_worth 15 rfl) rfl (le45 rfl) (le45 rfl) rfl rfl ?_
    refine AW.iconst (n := 25) (dat D_L_worth 16 rfl) rfl ?_
    exact AW.iret rfl rfl rfl (dat D_L_worth 17 rfl)
def L_L_least : List (Nat × Instr × Nat) := [(0, .aload 4, 2), (2, .iconst 0, 1), (3, .aload_n 0, 1), (4, .iload_n 1, 1), (5, .iload_n 2, 1), (6, .iload_n 3, 1), (7, .invokevirtual 75, 3), (10, .i2l, 1), (11, .lastore, 1), (12, .goto 15, 3), (15, .astore 5, 2), (17, .iconst 1, 1), (18, .ireturn, 1), (19, .astore 5, 2), (21, .iconst 2, 1), (22, .ireturn, 1), (23, .astore 5, 2), (25, .iconst 3, 1), (26, .ireturn, 1), (27, .iconst 0, 1), (28, .ireturn, 1)]
theorem D_L_least : dOK cL_least L_L_least = true := by decide +kernel
theorem ft_L_least : fitM mL_least 5 := ⟨by decide +kernel, by decide +kernel, by decide +kernel⟩
set_option maxRecDepth 100000 in
set_option maxHeartbeats 4000000 in
theorem A_L_least {Γ : GA} (hΓ : (gl Γ).stackTraces = false) {n : Nat} {a0 : Int} {a1 : Int} {a2 : Int} {σ τ : SG} {o : Nat × Int} (h : X11_least n a0 a1 a2 σ = some (o, τ)) (hk : o.1 = 0 ∨ o.1 = 1 ∨ o.1 = 2 ∨ o.1 = 4) : AM Γ mL_least 10 8 48 [vR 0, vI a0, vI a1, vI a2, vR 84] (85, σ) (0, cdL [1, 2, 4] o.1) (85, lxI o τ) := by
  have h9 := A_X11_least hΓ h
  clear h
  obtain ⟨k, v⟩ := o
  simp only at hk h9
  refine AM.ofH (h0 := (0, 12, 15, 27)) (ht := [(0, 12, 19, 13), (0, 12, 23, 21)]) pl_L rfl wC_L_least (by decide) (le45 rfl) hΓ ?_
  refine AW.to (ls'' := [some (vR 0), some (vI a0), some (vI a1), some (vI a2), some (vR 84), none]) ?_ (lle_s rfl (lle_s rfl (lle_s rfl (lle_s rfl (lle_s rfl (lle_e lle_z))))))
  refine AW.aload (n := 2) (dat D_L_least 0 rfl) rfl rfl ?_
  refine AW.iconst (n := 3) (dat D_L_least 1 rfl) rfl ?_
  refine AW.aload_n (n := 4) (dat D_L_least 2 rfl) rfl rfl ?_
  refine AW.iload_n (n := 5) (dat D_L_least 3 rfl) rfl rfl ?_
  refine AW.iload_n (n := 6) (dat D_L_least 4 rfl) rfl rfl ?_
  refine AW.iload_n (n := 7) (dat D_L_least 5 rfl) rfl rfl ?_
  rcases hk with rfl | rfl | rfl | rfl
  · refine AW.cV (n := 10) (as := [vI a0, vI a1, vI a2]) (st := [vI 0, vR 84]) (st' := [vI v, vI 0, vR 84]) (uc' := 0) (us' := 0) h9 cf_X11_least ly_0 (le45 rfl) vc_11 (le45 rfl) wM_L_75 (le45 rfl) (le45 rfl) (dat D_L_least 6 rfl) rfl rfl (le45 rfl) (le45 rfl) rfl (fun _ => ?_) nlt0
    refine AW.i2l (n := 11) (dat D_L_least 7 rfl) rfl ?_
    refine AW.last (n := 12) (N := 1) (i := 0) rfl (le45 rfl) (by decide) (dat D_L_least 8 rfl) rfl ?_
    refine AW.goto (t := 27) (dat D_L_least 9 rfl) rfl ?_
    refine AW.iconst (n := 28) (dat D_L_least 19 rfl) rfl ?_
    exact AW.iret rfl rfl rfl (dat D_L_least 20 rfl)
  · refine AW.cV (n := 10) (as := [vI a0, vI a1, vI a2]) (st := [vI 0, vR 84]) (st' := [vI v, vI 0, vR 84]) (uc' := 0) (us' := 0) h9 cf_X11_least ly_0 (le45 rfl) vc_11 (le45 rfl) wM_L_75 (le45 rfl) (le45 rfl) (dat D_L_least 6 rfl) rfl rfl (le45 rfl) (le45 rfl) rfl (fun q => absurd (show (1 : Nat) = 0 from q) (by decide)) (fun _ => ?_)
    refine AX.catch (pre := []) (suf := [(0, 12, 19, 13), (0, 12, 23, 21)]) (fr := 0) (to := 12) (tgt := 15) (ty := 27) rfl (fun _ h => nomatch h) (by decide) (by decide) wL_L_27 cx_1 (fun q => ?_)
    refine AW.xstore (n := 17) (ls' := [some (vR 0), some (vI a0), some (vI a1), some (vI a2), some (vR 84), some (vA q)]) (dat D_L_least 10 rfl) rfl (le45 rfl) (le45 rfl) rfl rfl ?_
    refine AW.iconst (n := 18) (dat D_L_least 11 rfl) rfl ?_
    exact AW.iret rfl rfl rfl (dat D_L_least 12 rfl)
  · refine AW.cV (n := 10) (as := [vI a0, vI a1, vI a2]) (st := [vI 0, vR 84]) (st' := [vI v, vI 0, vR 84]) (uc' := 0) (us' := 0) h9 cf_X11_least ly_0 (le45 rfl) vc_11 (le45 rfl) wM_L_75 (le45 rfl) (le45 rfl) (dat D_L_least 6 rfl) rfl rfl (le45 rfl) (le45 rfl) rfl (fun q => absurd (show (2 : Nat) = 0 from q) (by decide)) (fun _ => ?_)
    refine AX.catch (pre := [(0, 12, 15, 27)]) (suf := [(0, 12, 23, 21)]) (fr := 0) (to := 12) (tgt := 19) (ty := 13) rfl (List.forall_mem_cons.mpr ⟨⟨by decide, _, wL_L_27, nc_2_1⟩, (fun _ h => nomatch h)⟩) (by decide) (by decide) wL_L_13 cx_2 (fun q => ?_)
    refine AW.xstore (n := 21) (ls' := [some (vR 0), some (vI a0), some (vI a1), some (vI a2), some (vR 84), some (vA q)]) (dat D_L_least 13 rfl) rfl (le45 rfl) (le45 rfl) rfl rfl ?_
    refine AW.iconst (n := 22) (dat D_L_least 14 rfl) rfl ?_
    exact AW.iret rfl rfl rfl (dat D_L_least 15 rfl)
  · refine AW.cV (n := 10) (as := [vI a0, vI a1, vI a2]) (st := [vI 0, vR 84]) (st' := [vI v, vI 0, vR 84]) (uc' := 0) (us' := 0) h9 cf_X11_least ly_0 (le45 rfl) vc_11 (le45 rfl) wM_L_75 (le45 rfl) (le45 rfl) (dat D_L_least 6 rfl) rfl rfl (le45 rfl) (le45 rfl) rfl (fun q => absurd (show (4 : Nat) = 0 from q) (by decide)) (fun _ => ?_)
    refine AX.catch (pre := [(0, 12, 15, 27), (0, 12, 19, 13)]) (suf := []) (fr := 0) (to := 12) (tgt := 23) (ty := 21) rfl (List.forall_mem_cons.mpr ⟨⟨by decide, _, wL_L_27, nc_4_1⟩, (List.forall_mem_cons.mpr ⟨⟨by decide, _, wL_L_13, nc_4_2⟩, (fun _ h => nomatch h)⟩)⟩) (by decide) (by decide) wL_L_21 cx_4 (fun q => ?_)
    refine AW.xstore (n := 25) (ls' := [some (vR 0), some (vI a0), some (vI a1), some (vI a2), some (vR 84), some (vA q)]) (dat D_L_least 16 rfl) rfl (le45 rfl) (le45 rfl) rfl rfl ?_
    refine AW.iconst (n := 26) (dat D_L_least 17 rfl) rfl ?_
    exact AW.iret rfl rfl rfl (dat D_L_least 18 rfl)
def L_L_took : List (Nat × Instr × Nat) := [(0, .aload_n 3, 1), (1, .iconst 0, 1), (2, .aload_n 0, 1), (3, .iload_n 1, 1), (4, .iload_n 2, 1), (5, .invokevirtual 78, 3), (8, .i2l, 1), (9, .lastore, 1), (10, .goto 11, 3), (13, .astore 4, 2), (15, .iconst 1, 1), (16, .ireturn, 1), (17, .astore 4, 2), (19, .iconst 2, 1), (20, .ireturn, 1), (21, .iconst 0, 1), (22, .ireturn, 1)]
theorem D_L_took : dOK cL_took L_L_took = true := by decide +kernel
theorem ft_L_took : fitM mL_took 4 := ⟨by decide +kernel, by decide +kernel, by decide +kernel⟩
set_option maxRecDepth 100000 in
set_option maxHeartbeats 4000000 in
theorem A_L_took {Γ : GA} (hΓ : (gl Γ).stackTraces = false) {n : Nat} {a0 : Int} {a1 : Int} {σ τ : SG} {o : Nat × Int} (h : X11_took n a0 a1 σ = some (o, τ)) (hk : o.1 = 0 ∨ o.1 = 1 ∨ o.1 = 3) : AM Γ mL_took 10 8 48 [vR 0, vI a0, vI a1, vR 84] (85, σ) (0, cdL [1, 3] o.1) (85, lxI o τ) := by
  have h9 := A_X11_took hΓ h
  clear h
  obtain ⟨k, v⟩ := o
  simp only at hk h9
  refine AM.ofH (h0 := (0, 10, 13, 27)) (ht := [(0, 10, 17, 29)]) pl_L rfl wC_L_took (by decide) (le45 rfl) hΓ ?_
  refine AW.to (ls'' := [some (vR 0), some (vI a0), some (vI a1), some (vR 84), none]) ?_ (lle_s rfl (lle_s rfl (lle_s rfl (lle_s rfl (lle_e lle_z)))))
  refine AW.aload_n (n := 1) (dat D_L_took 0 rfl) rfl rfl ?_
  refine AW.iconst (n := 2) (dat D_L_took 1 rfl) rfl ?_
  refine AW.aload_n (n := 3) (dat D_L_took 2 rfl) rfl rfl ?_
  refine AW.iload_n (n := 4) (dat D_L_took 3 rfl) rfl rfl ?_
  refine AW.iload_n (n := 5) (dat D_L_took 4 rfl) rfl rfl ?_
  rcases hk with rfl | rfl | rfl
  · refine AW.cV (n := 8) (as := [vI a0, vI a1]) (st := [vI 0, vR 84]) (st' := [vI v, vI 0, vR 84]) (uc' := 0) (us' := 0) h9 cf_X11_took ly_0 (le45 rfl) vc_11 (le45 rfl) wM_L_78 (le45 rfl) (le45 rfl) (dat D_L_took 5 rfl) rfl rfl (le45 rfl) (le45 rfl) rfl (fun _ => ?_) nlt0
    refine AW.i2l (n := 9) (dat D_L_took 6 rfl) rfl ?_
    refine AW.last (n := 10) (N := 1) (i := 0) rfl (le45 rfl) (by decide) (dat D_L_took 7 rfl) rfl ?_
    refine AW.goto (t := 21) (dat D_L_took 8 rfl) rfl ?_
    refine AW.iconst (n := 22) (dat D_L_took 15 rfl) rfl ?_
    exact AW.iret rfl rfl rfl (dat D_L_took 16 rfl)
  · refine AW.cV (n := 8) (as := [vI a0, vI a1]) (st := [vI 0, vR 84]) (st' := [vI v, vI 0, vR 84]) (uc' := 0) (us' := 0) h9 cf_X11_took ly_0 (le45 rfl) vc_11 (le45 rfl) wM_L_78 (le45 rfl) (le45 rfl) (dat D_L_took 5 rfl) rfl rfl (le45 rfl) (le45 rfl) rfl (fun q => absurd (show (1 : Nat) = 0 from q) (by decide)) (fun _ => ?_)
    refine AX.catch (pre := []) (suf := [(0, 10, 17, 29)]) (fr := 0) (to := 10) (tgt := 13) (ty := 27) rfl (fun _ h => nomatch h) (by decide) (by decide) wL_L_27 cx_1 (fun q => ?_)
    refine AW.xstore (n := 15) (ls' := [some (vR 0), some (vI a0), some (vI a1), some (vR 84), some (vA q)]) (dat D_L_took 9 rfl) rfl (le45 rfl) (le45 rfl) rfl rfl ?_
    refine AW.iconst (n := 16) (dat D_L_took 10 rfl) rfl ?_
    exact AW.iret rfl rfl rfl (dat D_L_took 11 rfl)
  · refine AW.cV (n := 8) (as := [vI a0, vI a1]) (st := [vI 0, vR 84]) (st' := [vI v, vI 0, vR 84]) (uc' := 0) (us' := 0) h9 cf_X11_took ly_0 (le45 rfl) vc_11 (le45 rfl) wM_L_78 (le45 rfl) (le45 rfl) (dat D_L_took 5 rfl) rfl rfl (le45 rfl) (le45 rfl) rfl (fun q => absurd (show (3 : Nat) = 0 from q) (by decide)) (fun _ => ?_)
    refine AX.catch (pre := [(0, 10, 13, 27)]) (suf := []) (fr := 0) (to := 10) (tgt := 17) (ty := 29) rfl (List.forall_mem_cons.mpr ⟨⟨by decide, _, wL_L_27, nc_3_1⟩, (fun _ h => nomatch h)⟩) (by decide) (by decide) wL_L_29 cx_3 (fun q => ?_)
    refine AW.xstore (n := 19) (ls' := [some (vR 0), some (vI a0), some (vI a1), some (vR 84), some (vA q)]) (dat D_L_took 12 rfl) rfl (le45 rfl) (le45 rfl) rfl rfl ?_
    refine AW.iconst (n := 20) (dat D_L_took 13 rfl) rfl ?_
    exact AW.iret rfl rfl rfl (dat D_L_took 14 rfl)
def L_L_swim : List (Nat × Instr × Nat) := [(0, .aload_n 3, 1), (1, .iconst 0, 1), (2, .aload_n 0, 1), (3, .iload_n 1, 1), (4, .iload_n 2, 1), (5, .invokevirtual 81, 3), (8, .i2l, 1), (9, .lastore, 1), (10, .goto 15, 3), (13, .astore 4, 2), (15, .iconst 1, 1), (16, .ireturn, 1), (17, .astore 4, 2), (19, .iconst 2, 1), (20, .ireturn, 1), (21, .astore 4, 2), (23, .iconst 3, 1), (24, .ireturn, 1), (25, .iconst 0, 1), (26, .ireturn, 1)]
theorem D_L_swim : dOK cL_swim L_L_swim = true := by decide +kernel
theorem ft_L_swim : fitM mL_swim 4 := ⟨by decide +kernel, by decide +kernel, by decide +kernel⟩
set_option maxRecDepth 100000 in
set_option maxHeartbeats 4000000 in
theorem A_L_swim {Γ : GA} (hΓ : (gl Γ).stackTraces = false) {n : Nat} {a0 : Int} {a1 : Int} {σ τ : SG} {o : Nat × Int} (h : X11_swim n a0 a1 σ = some (o, τ)) (hk : o.1 = 0 ∨ o.1 = 1 ∨ o.1 = 2 ∨ o.1 = 4) : AM Γ mL_swim 10 8 48 [vR 0, vI a0, vI a1, vR 84] (85, σ) (0, cdL [1, 2, 4] o.1) (85, lxI o τ) := by
  have h9 := A_X11_swim hΓ h
  clear h
  obtain ⟨k, v⟩ := o
  simp only at hk h9
  refine AM.ofH (h0 := (0, 10, 13, 27)) (ht := [(0, 10, 17, 13), (0, 10, 21, 21)]) pl_L rfl wC_L_swim (by decide) (le45 rfl) hΓ ?_
  refine AW.to (ls'' := [some (vR 0), some (vI a0), some (vI a1), some (vR 84), none]) ?_ (lle_s rfl (lle_s rfl (lle_s rfl (lle_s rfl (lle_e lle_z)))))
  refine AW.aload_n (n := 1) (dat D_L_swim 0 rfl) rfl rfl ?_
  refine AW.iconst (n := 2) (dat D_L_swim 1 rfl) rfl ?_
  refine AW.aload_n (n := 3) (dat D_L_swim 2 rfl) rfl rfl ?_
  refine AW.iload_n (n := 4) (dat D_L_swim 3 rfl) rfl rfl ?_
  refine AW.iload_n (n := 5) (dat D_L_swim 4 rfl) rfl rfl ?_
  rcases hk with rfl | rfl | rfl | rfl
  · refine AW.cV (n := 8) (as := [vI a0, vI a1]) (st := [vI 0, vR 84]) (st' := [vI v, vI 0, vR 84]) (uc' := 0) (us' := 0) h9 cf_X11_swim ly_0 (le45 rfl) vc_11 (le45 rfl) wM_L_81 (le45 rfl) (le45 rfl) (dat D_L_swim 5 rfl) rfl rfl (le45 rfl) (le45 rfl) rfl (fun _ => ?_) nlt0
    refine AW.i2l (n := 9) (dat D_L_swim 6 rfl) rfl ?_
    refine AW.last (n := 10) (N := 1) (i := 0) rfl (le45 rfl) (by decide) (dat D_L_swim 7 rfl) rfl ?_
    refine AW.goto (t := 25) (dat D_L_swim 8 rfl) rfl ?_
    refine AW.iconst (n := 26) (dat D_L_swim 18 rfl) rfl ?_
    exact AW.iret rfl rfl rfl (dat D_L_swim 19 rfl)
  · refine AW.cV (n := 8) (as := [vI a0, vI a1]) (st := [vI 0, vR 84]) (st' := [vI v, vI 0, vR 84]) (uc' := 0) (us' := 0) h9 cf_X11_swim ly_0 (le45 rfl) vc_11 (le45 rfl) wM_L_81 (le45 rfl) (le45 rfl) (dat D_L_swim 5 rfl) rfl rfl (le45 rfl) (le45 rfl) rfl (fun q => absurd (show (1 : Nat) = 0 from q) (by decide)) (fun _ => ?_)
    refine AX.catch (pre := []) (suf := [(0, 10, 17, 13), (0, 10, 21, 21)]) (fr := 0) (to := 10) (tgt := 13) (ty := 27) rfl (fun _ h => nomatch h) (by decide) (by decide) wL_L_27 cx_1 (fun q => ?_)
    refine AW.xstore (n := 15) (ls' := [some (vR 0), some (vI a0), some (vI a1), some (vR 84), some (vA q)]) (dat D_L_swim 9 rfl) rfl (le45 rfl) (le45 rfl) rfl rfl ?_
    refine AW.iconst (n := 16) (dat D_L_swim 10 rfl) rfl ?_
    exact AW.iret rfl rfl rfl (dat D_L_swim 11 rfl)
  · refine AW.cV (n := 8) (as := [vI a0, vI a1]) (st := [vI 0, vR 84]) (st' := [vI v, vI 0, vR 84]) (uc' := 0) (us' := 0) h9 cf_X11_swim ly_0 (le45 rfl) vc_11 (le45 rfl) wM_L_81 (le45 rfl) (le45 rfl) (dat D_L_swim 5 rfl) rfl rfl (le45 rfl) (le45 rfl) rfl (fun q => absurd (show (2 : Nat) = 0 from q) (by decide)) (fun _ => ?_)
    refine AX.catch (pre := [(0, 10, 13, 27)]) (suf := [(0, 10, 21, 21)]) (fr := 0) (to := 10) (tgt := 17) (ty := 13) rfl (List.forall_mem_cons.mpr ⟨⟨by decide, _, wL_L_27, nc_2_1⟩, (fun _ h => nomatch h)⟩) (by decide) (by decide) wL_L_13 cx_2 (fun q => ?_)
    refine AW.xstore (n := 19) (ls' := [some (vR 0), some (vI a0), some (vI a1), some (vR 84), some (vA q)]) (dat D_L_swim 12 rfl) rfl (le45 rfl) (le45 rfl) rfl rfl ?_
    refine AW.iconst (n := 20) (dat D_L_swim 13 rfl) rfl ?_
    exact AW.iret rfl rfl rfl (dat D_L_swim 14 rfl)
  · refine AW.cV (n := 8) (as := [vI a0, vI a1]) (st := [vI 0, vR 84]) (st' := [vI v, vI 0, vR 84]) (uc' := 0) (us' := 0) h9 cf_X11_swim ly_0 (le45 rfl) vc_11 (le45 rfl) wM_L_81 (le45 rfl) (le45 rfl) (dat D_L_swim 5 rfl) rfl rfl (le45 rfl) (le45 rfl) rfl (fun q => absurd (show (4 : Nat) = 0 from q) (by decide)) (fun _ => ?_)
    refine AX.catch (pre := [(0, 10, 13, 27), (0, 10, 17, 13)]) (suf := []) (fr := 0) (to := 10) (tgt := 21) (ty := 21) rfl (List.forall_mem_cons.mpr ⟨⟨by decide, _, wL_L_27, nc_4_1⟩, (List.forall_mem_cons.mpr ⟨⟨by decide, _, wL_L_13, nc_4_2⟩, (fun _ h => nomatch h)⟩)⟩) (by decide) (by decide) wL_L_21 cx_4 (fun q => ?_)
    refine AW.xstore (n := 23) (ls' := [some (vR 0), some (vI a0), some (vI a1), some (vR 84), some (vA q)]) (dat D_L_swim 15 rfl) rfl (le45 rfl) (le45 rfl) rfl rfl ?_
    refine AW.iconst (n := 24) (dat D_L_swim 16 rfl) rfl ?_
    exact AW.iret rfl rfl rfl (dat D_L_swim 17 rfl)
def L_L_reach : List (Nat × Instr × Nat) := [(0, .aload 4, 2), (2, .iconst 0, 1), (3, .aload_n 0, 1), (4, .iload_n 1, 1), (5, .iload_n 2, 1), (6, .iload_n 3, 1), (7, .invokevirtual 84, 3), (10, .i2l, 1), (11, .lastore, 1), (12, .goto 15, 3), (15, .astore 5, 2), (17, .iconst 1, 1), (18, .ireturn, 1), (19, .astore 5, 2), (21, .iconst 2, 1), (22, .ireturn, 1), (23, .astore 5, 2), (25, .iconst 3, 1), (26, .ireturn, 1), (27, .iconst 0, 1), (28, .ireturn, 1)]
theorem D_L_reach : dOK cL_reach L_L_reach = true := by decide +kernel
theorem ft_L_reach : fitM mL_reach 5 := ⟨by decide +kernel, by decide +kernel, by decide +kernel⟩
set_option maxRecDepth 100000 in
set_option maxHeartbeats 4000000 in
theorem A_L_reach {Γ : GA} (hΓ : (gl Γ).stackTraces = false) {n : Nat} {a0 : Int} {a1 : Int} {a2 : Int} {σ τ : SG} {o : Nat × Int} (h : X11_reach n a0 a1 a2 σ = some (o, τ)) (hk : o.1 = 0 ∨ o.1 = 1 ∨ o.1 = 3 ∨ o.1 = 4) : AM Γ mL_reach 10 8 48 [vR 0, vI a0, vI a1, vI a2, vR 84] (85, σ) (0, cdL [1, 3, 4] o.1) (85, lxI o τ) := by
  have h9 := A_X11_reach hΓ h
  clear h
  obtain ⟨k, v⟩ := o
  simp only at hk h9
  refine AM.ofH (h0 := (0, 12, 15, 27)) (ht := [(0, 12, 19, 29), (0, 12, 23, 21)]) pl_L rfl wC_L_reach (by decide) (le45 rfl) hΓ ?_
  refine AW.to (ls'' := [some (vR 0), some (vI a0), some (vI a1), some (vI a2), some (vR 84), none]) ?_ (lle_s rfl (lle_s rfl (lle_s rfl (lle_s rfl (lle_s rfl (lle_e lle_z))))))
  refine AW.aload (n := 2) (dat D_L_reach 0 rfl) rfl rfl ?_
  refine AW.iconst (n := 3) (dat D_L_reach 1 rfl) rfl ?_
  refine AW.aload_n (n := 4) (dat D_L_reach 2 rfl) rfl rfl ?_
  refine AW.iload_n (n := 5) (dat D_L_reach 3 rfl) rfl rfl ?_
  refine AW.iload_n (n := 6) (dat D_L_reach 4 rfl) rfl rfl ?_
  refine AW.iload_n (n := 7) (dat D_L_reach 5 rfl) rfl rfl ?_
  rcases hk with rfl | rfl | rfl | rfl
  · refine AW.cV (n := 10) (as := [vI a0, vI a1, vI a2]) (st := [vI 0, vR 84]) (st' := [vI v, vI 0, vR 84]) (uc' := 0) (us' := 0) h9 cf_X11_reach ly_0 (le45 rfl) vc_11 (le45 rfl) wM_L_84 (le45 rfl) (le45 rfl) (dat D_L_reach 6 rfl) rfl rfl (le45 rfl) (le45 rfl) rfl (fun _ => ?_) nlt0
    refine AW.i2l (n := 11) (dat D_L_reach 7 rfl) rfl ?_
    refine AW.last (n := 12) (N := 1) (i := 0) rfl (le45 rfl) (by decide) (dat D_L_reach 8 rfl) rfl ?_
    refine AW.goto (t := 27) (dat D_L_reach 9 rfl) rfl ?_
    refine AW.iconst (n := 28) (dat D_L_reach 19 rfl) rfl ?_
    exact AW.iret rfl rfl rfl (dat D_L_reach 20 rfl)
  · refine AW.cV (n := 10) (as := [vI a0, vI a1, vI a2]) (st := [vI 0, vR 84]) (st' := [vI v, vI 0, vR 84]) (uc' := 0) (us' := 0) h9 cf_X11_reach ly_0 (le45 rfl) vc_11 (le45 rfl) wM_L_84 (le45 rfl) (le45 rfl) (dat D_L_reach 6 rfl) rfl rfl (le45 rfl) (le45 rfl) rfl (fun q => absurd (show (1 : Nat) = 0 from q) (by decide)) (fun _ => ?_)
    refine AX.catch (pre := []) (suf := [(0, 12, 19, 29), (0, 12, 23, 21)]) (fr := 0) (to := 12) (tgt := 15) (ty := 27) rfl (fun _ h => nomatch h) (by decide) (by decide) wL_L_27 cx_1 (fun q => ?_)
    refine AW.xstore (n := 17) (ls' := [some (vR 0), some (vI a0), some (vI a1), some (vI a2), some (vR 84), some (vA q)]) (dat D_L_reach 10 rfl) rfl (le45 rfl) (le45 rfl) rfl rfl ?_
    refine AW.iconst (n := 18) (dat D_L_reach 11 rfl) rfl ?_
    exact AW.iret rfl rfl rfl (dat D_L_reach 12 rfl)
  · refine AW.cV (n := 10) (as := [vI a0, vI a1, vI a2]) (st := [vI 0, vR 84]) (st' := [vI v, vI 0, vR 84]) (uc' := 0) (us' := 0) h9 cf_X11_reach ly_0 (le45 rfl) vc_11 (le45 rfl) wM_L_84 (le45 rfl) (le45 rfl) (dat D_L_reach 6 rfl) rfl rfl (le45 rfl) (le45 rfl) rfl (fun q => absurd (show (3 : Nat) = 0 from q) (by decide)) (fun _ => ?_)
    refine AX.catch (pre := [(0, 12, 15, 27)]) (suf := [(0, 12, 23, 21)]) (fr := 0) (to := 12) (tgt := 19) (ty := 29) rfl (List.forall_mem_cons.mpr ⟨⟨by decide, _, wL_L_27, nc_3_1⟩, (fun _ h => nomatch h)⟩) (by decide) (by decide) wL_L_29 cx_3 (fun q => ?_)
    refine AW.xstore (n := 21) (ls' := [some (vR 0), some (vI a0), some (vI a1), some (vI a2), some (vR 84), some (vA q)]) (dat D_L_reach 13 rfl) rfl (le45 rfl) (le45 rfl) rfl rfl ?_
    refine AW.iconst (n := 22) (dat D_L_reach 14 rfl) rfl ?_
    exact AW.iret rfl rfl rfl (dat D_L_reach 15 rfl)
  · refine AW.cV (n := 10) (as := [vI a0, vI a1, vI a2]) (st := [vI 0, vR 84]) (st' := [vI v, vI 0, vR 84]) (uc' := 0) (us' := 0) h9 cf_X11_reach ly_0 (le45 rfl) vc_11 (le45 rfl) wM_L_84 (le45 rfl) (le45 rfl) (dat D_L_reach 6 rfl) rfl rfl (le45 rfl) (le45 rfl) rfl (fun q => absurd (show (4 : Nat) = 0 from q) (by decide)) (fun _ => ?_)
    refine AX.catch (pre := [(0, 12, 15, 27), (0, 12, 19, 29)]) (suf := []) (fr := 0) (to := 12) (tgt := 23) (ty := 21) rfl (List.forall_mem_cons.mpr ⟨⟨by decide, _, wL_L_27, nc_4_1⟩, (List.forall_mem_cons.mpr ⟨⟨by decide, _, wL_L_29, nc_4_3⟩, (fun _ h => nomatch h)⟩)⟩) (by decide) (by decide) wL_L_21 cx_4 (fun q => ?_)
    refine AW.xstore (n := 25) (ls' := [some (vR 0), some (vI a0), some (vI a1), some (vI a2), some (vR 84), some (vA q)]) (dat D_L_reach 16 rfl) rfl (le45 rfl) (le45 rfl) rfl rfl ?_
    refine AW.iconst (n := 26) (dat D_L_reach 17 rfl) rfl ?_
    exact AW.iret rfl rfl rfl (dat D_L_reach 18 rfl)
