/-! ===== ONE INSTRUCTION, ONE ROW ===== -/
section AWs
variable {Γ : GA} {M : MT} {d : Nat} {o0 : Nat × Int} {S0 : AS} {uc us pc n : Nat} {ls ls' : List (Option AV)} {st : List AV} {S : AS}
theorem aCx.x {p R s m args meth c} (C : aCx Γ M d p R s m args meth c) : p.tables.exec = Jvm.exec := C.1.1
theorem aCx.b {p R s m args meth c} (C : aCx Γ M d p R s m args meth c) : c.code = M.2.1 := C.1.2.1
theorem aCx.l {p R s m args meth c} (C : aCx Γ M d p R s m args meth c) : c.maxLocals = M.2.2.1 := C.1.2.2.1
theorem aCx.r {p R s m args meth c} (C : aCx Γ M d p R s m args meth c) : meth.sig.returnType = M.2.2.2.1 := C.1.2.2.2.1
theorem aCx.o {p R s m args meth c} (C : aCx Γ M d p R s m args meth c) : s.vm.findClass M.1.cls = some m.cls := C.1.2.2.2.2.1
theorem aCx.k {p R s m args meth c} (C : aCx Γ M d p R s m args meth c) : meth.locks = false := C.1.2.2.2.2.2.1
theorem aCx.t {p R s m args meth c} (C : aCx Γ M d p R s m args meth c) : c.exceptionTable.toList = tableOf M.2.2.2.2 := C.1.2.2.2.2.2.2.1
theorem aCx.i {p R s m args meth c} (C : aCx Γ M d p R s m args meth c) : M.1.name = "<init>" → meth.name = "<init>" := C.1.2.2.2.2.2.2.2
theorem aCx.w {p R s m args meth c} (C : aCx Γ M d p R s m args meth c) : ∀ w ∈ WT, w.before args s = true := C.2.1.1
theorem aCx.K {p R s m args meth c} (C : aCx Γ M d p R s m args meth c) : va_K (gD Γ) vwCl (gT Γ) s := C.2.1.2.1
theorem aCx.q {p R s m args meth c} (C : aCx Γ M d p R s m args meth c) : okS Γ s := C.2.1.2.2.1
theorem aCx.B {p R s m args meth c} (C : aCx Γ M d p R s m args meth c) : gO Γ ≤ s.heap.size := C.2.1.2.2.2.1
theorem aCx.f {p R s m args meth c} (C : aCx Γ M d p R s m args meth c) : (gl Γ).stackTraces = false := C.2.1.2.2.2.2
theorem aCx.rm {p R s m args meth c} (C : aCx Γ M d p R s m args meth c) : d ≤ R.frames ∧ 64 * d ≤ R.locals := C.2.2
theorem AW.to {ls'' : List (Option AV)} (k : AW Γ M d o0 S0 uc us pc ls'' st S) (h : lle ls'' ls) : AW Γ M d o0 S0 uc us pc ls st S := by
  intro p e R s m args below meth c mc ms C H locs cells slots lr hP hS hc hL
  exact k p e R s m args below meth c mc ms C H locs cells slots lr hP hS hc (aL_sub hL (lle_at _ _ h))
theorem AW.room {uc' us' : Nat} (k : AW Γ M d o0 S0 uc' us' pc ls st S) (h1 : uc' ≤ uc) (h2 : us' ≤ us) : AW Γ M d o0 S0 uc us pc ls st S := by
  intro p e R s m args below meth c mc ms C H locs cells slots lr hP hS hc hL
  exact k p e R s m args below meth c mc ms C H locs cells slots lr hP hS ⟨by omega, by omega, hc.2.2⟩ hL

theorem AW.iconst {x : Int} (hd : decode M.2.1 pc = .ok (.iconst x, 1)) (hn : pc + 1 = n) (k : AW Γ M d o0 S0 uc us n ls (vI x :: st) S) : AW Γ M d o0 S0 uc us pc ls (st) S := by
  intro p e R s m args below meth c mc ms C H locs cells slots lr hP hS hc hL
  subst hn
  have k2 := k p e R s m args below meth c mc ms C H locs cells slots lr hP hS hc hL
  simp only [List.map_cons, aV_I, aV_L, aV_R, aV_N, aV_O] at k2 ⊢
  exact lv_iconst C.x C.b hd rfl k2
theorem AW.bipush {x : Int} (hd : decode M.2.1 pc = .ok (.bipush x, 2)) (hn : pc + 2 = n) (hx : (Int8.ofInt x).toInt32 = Int32.ofInt x) (k : AW Γ M d o0 S0 uc us n ls (vI x :: st) S) : AW Γ M d o0 S0 uc us pc ls (st) S := by
  intro p e R s m args below meth c mc ms C H locs cells slots lr hP hS hc hL
  subst hn
  have k2 := k p e R s m args below meth c mc ms C H locs cells slots lr hP hS hc hL
  simp only [List.map_cons, aV_I, aV_L, aV_R, aV_N, aV_O] at k2 ⊢
  exact lv_bipush C.x C.b hd hx k2
theorem AW.sipush {x : Int} (hd : decode M.2.1 pc = .ok (.sipush x, 3)) (hn : pc + 3 = n) (hx : (Int16.ofInt x).toInt32 = Int32.ofInt x) (k : AW Γ M d o0 S0 uc us n ls (vI x :: st) S) : AW Γ M d o0 S0 uc us pc ls (st) S := by
  intro p e R s m args below meth c mc ms C H locs cells slots lr hP hS hc hL
  subst hn
  have k2 := k p e R s m args below meth c mc ms C H locs cells slots lr hP hS hc hL
  simp only [List.map_cons, aV_I, aV_L, aV_R, aV_N, aV_O] at k2 ⊢
  exact lv_sipush C.x C.b hd hx k2
theorem AW.lconst {i : Fin 2} {x : Int} (hd : decode M.2.1 pc = .ok (.lconst i, 1)) (hn : pc + 1 = n) (hx : Int64.ofNat (i : Nat) = Int64.ofInt x) (k : AW Γ M d o0 S0 uc us n ls (vL x :: st) S) : AW Γ M d o0 S0 uc us pc ls (st) S := by
  intro p e R s m args below meth c mc ms C H locs cells slots lr hP hS hc hL
  subst hn
  have k2 := k p e R s m args below meth c mc ms C H locs cells slots lr hP hS hc hL
  simp only [List.map_cons, aV_I, aV_L, aV_R, aV_N, aV_O] at k2 ⊢
  exact lv_lconst C.x C.b hd hx k2
theorem AW.ldc2 {i : Nat} {x : Int} {y : Int64} (hd : decode M.2.1 pc = .ok (.ldc2_w i, 3)) (hn : pc + 3 = n) (hw : Cond.constantLong M.1.cls i y ∈ WT) (hx : y = Int64.ofInt x) (k : AW Γ M d o0 S0 uc us n ls (vL x :: st) S) : AW Γ M d o0 S0 uc us pc ls (st) S := by
  intro p e R s m args below meth c mc ms C H locs cells slots lr hP hS hc hL
  subst hn
  have k2 := k p e R s m args below meth c mc ms C H locs cells slots lr hP hS hc hL
  simp only [List.map_cons, aV_I, aV_L, aV_R, aV_N, aV_O] at k2 ⊢
  exact lv_ldc2 C.x C.b C.o (by rw [← hx]; exact C.w _ hw) hd k2
theorem AW.iload {i : Nat} {x : Int} (hd : decode M.2.1 pc = .ok (.iload i, 2)) (hn : pc + 2 = n) (hl : ls[i]? = some (some (vI x))) (k : AW Γ M d o0 S0 uc us n ls (vI x :: st) S) : AW Γ M d o0 S0 uc us pc ls (st) S := by
  intro p e R s m args below meth c mc ms C H locs cells slots lr hP hS hc hL
  subst hn
  have k2 := k p e R s m args below meth c mc ms C H locs cells slots lr hP hS hc hL
  simp only [List.map_cons, aV_I, aV_L, aV_R, aV_N, aV_O] at k2 ⊢
  exact lv_iload C.x C.b hd (aL_at hL hl) k2
theorem AW.iload_n {i : Fin 4} {x : Int} (hd : decode M.2.1 pc = .ok (.iload_n i, 1)) (hn : pc + 1 = n) (hl : ls[(i : Nat)]? = some (some (vI x))) (k : AW Γ M d o0 S0 uc us n ls (vI x :: st) S) : AW Γ M d o0 S0 uc us pc ls (st) S := by
  intro p e R s m args below meth c mc ms C H locs cells slots lr hP hS hc hL
  subst hn
  have k2 := k p e R s m args below meth c mc ms C H locs cells slots lr hP hS hc hL
  simp only [List.map_cons, aV_I, aV_L, aV_R, aV_N, aV_O] at k2 ⊢
  exact lv_iload_n C.x C.b hd rfl (aL_at hL hl) k2
theorem AW.lload {i : Nat} {x : Int} (hd : decode M.2.1 pc = .ok (.lload i, 2)) (hn : pc + 2 = n) (hl : ls[i]? = some (some (vL x))) (k : AW Γ M d o0 S0 uc us n ls (vL x :: st) S) : AW Γ M d o0 S0 uc us pc ls (st) S := by
  intro p e R s m args below meth c mc ms C H locs cells slots lr hP hS hc hL
  subst hn
  have k2 := k p e R s m args below meth c mc ms C H locs cells slots lr hP hS hc hL
  simp only [List.map_cons, aV_I, aV_L, aV_R, aV_N, aV_O] at k2 ⊢
  exact lv_lload C.x C.b hd (aL_at hL hl) k2
theorem AW.lload_n {i : Fin 4} {x : Int} (hd : decode M.2.1 pc = .ok (.lload_n i, 1)) (hn : pc + 1 = n) (hl : ls[(i : Nat)]? = some (some (vL x))) (k : AW Γ M d o0 S0 uc us n ls (vL x :: st) S) : AW Γ M d o0 S0 uc us pc ls (st) S := by
  intro p e R s m args below meth c mc ms C H locs cells slots lr hP hS hc hL
  subst hn
  have k2 := k p e R s m args below meth c mc ms C H locs cells slots lr hP hS hc hL
  simp only [List.map_cons, aV_I, aV_L, aV_R, aV_N, aV_O] at k2 ⊢
  exact lv_lload_n C.x C.b hd rfl (aL_at hL hl) k2
theorem AW.aload {i : Nat} {x : Nat} (hd : decode M.2.1 pc = .ok (.aload i, 2)) (hn : pc + 2 = n) (hl : ls[i]? = some (some (vR x))) (k : AW Γ M d o0 S0 uc us n ls (vR x :: st) S) : AW Γ M d o0 S0 uc us pc ls (st) S := by
  intro p e R s m args below meth c mc ms C H locs cells slots lr hP hS hc hL
  subst hn
  have k2 := k p e R s m args below meth c mc ms C H locs cells slots lr hP hS hc hL
  simp only [List.map_cons, aV_I, aV_L, aV_R, aV_N, aV_O] at k2 ⊢
  exact lv_aload C.x C.b hd (by rw [← aV_R]; exact aL_at hL hl) k2
theorem AW.aload_n {i : Fin 4} {x : Nat} (hd : decode M.2.1 pc = .ok (.aload_n i, 1)) (hn : pc + 1 = n) (hl : ls[(i : Nat)]? = some (some (vR x))) (k : AW Γ M d o0 S0 uc us n ls (vR x :: st) S) : AW Γ M d o0 S0 uc us pc ls (st) S := by
  intro p e R s m args below meth c mc ms C H locs cells slots lr hP hS hc hL
  subst hn
  have k2 := k p e R s m args below meth c mc ms C H locs cells slots lr hP hS hc hL
  simp only [List.map_cons, aV_I, aV_L, aV_R, aV_N, aV_O] at k2 ⊢
  exact lv_aload_n C.x C.b hd rfl (by rw [← aV_R]; exact aL_at hL hl) k2
theorem AW.oload {i : Nat} {x : Nat} (hd : decode M.2.1 pc = .ok (.aload i, 2)) (hn : pc + 2 = n) (hl : ls[i]? = some (some (vO x))) (k : AW Γ M d o0 S0 uc us n ls (vO x :: st) S) : AW Γ M d o0 S0 uc us pc ls (st) S := by
  intro p e R s m args below meth c mc ms C H locs cells slots lr hP hS hc hL
  subst hn
  have k2 := k p e R s m args below meth c mc ms C H locs cells slots lr hP hS hc hL
  simp only [List.map_cons, aV_I, aV_L, aV_R, aV_N, aV_O] at k2 ⊢
  exact lv_aload C.x C.b hd (by rw [← aV_O]; exact aL_at hL hl) k2
theorem AW.oload_n {i : Fin 4} {x : Nat} (hd : decode M.2.1 pc = .ok (.aload_n i, 1)) (hn : pc + 1 = n) (hl : ls[(i : Nat)]? = some (some (vO x))) (k : AW Γ M d o0 S0 uc us n ls (vO x :: st) S) : AW Γ M d o0 S0 uc us pc ls (st) S := by
  intro p e R s m args below meth c mc ms C H locs cells slots lr hP hS hc hL
  subst hn
  have k2 := k p e R s m args below meth c mc ms C H locs cells slots lr hP hS hc hL
  simp only [List.map_cons, aV_I, aV_L, aV_R, aV_N, aV_O] at k2 ⊢
  exact lv_aload_n C.x C.b hd rfl (by rw [← aV_O]; exact aL_at hL hl) k2
theorem AW.istore {i : Nat} {x : Int} (hd : decode M.2.1 pc = .ok (.istore i, 2)) (hn : pc + 2 = n) (hi : i < ls.length) (hj : i < M.2.2.1) (hk : lok ls i = true) (hs : ls.set i (some (vI x)) = ls') (k : AW Γ M d o0 S0 uc us n ls' st S) : AW Γ M d o0 S0 uc us pc ls (vI x :: st) S := by
  intro p e R s m args below meth c mc ms C H locs cells slots lr hP hS hc hL
  subst hn
  subst hs
  simp only [List.map_cons, aV_I]
  refine lv_istore C.x C.b hd hL hj rfl (fun lr' hL' => ?_)
  refine k p e R s m args below meth c mc ms C H locs cells slots lr' hP hS hc ⟨hL'.1, hL'.2.1, fun q hq => hL'.2.2 q ?_⟩
  have h9 := aLl_set hi rfl hk q hq
  skip
  exact h9
theorem AW.istore_n {i : Fin 4} {x : Int} (hd : decode M.2.1 pc = .ok (.istore_n i, 1)) (hn : pc + 1 = n) (hi : (i : Nat) < ls.length) (hj : (i : Nat) < M.2.2.1) (hk : lok ls (i : Nat) = true) (hs : ls.set (i : Nat) (some (vI x)) = ls') (k : AW Γ M d o0 S0 uc us n ls' st S) : AW Γ M d o0 S0 uc us pc ls (vI x :: st) S := by
  intro p e R s m args below meth c mc ms C H locs cells slots lr hP hS hc hL
  subst hn
  subst hs
  simp only [List.map_cons, aV_I]
  refine lv_istore_n C.x C.b hd rfl hL hj rfl (fun lr' hL' => ?_)
  refine k p e R s m args below meth c mc ms C H locs cells slots lr' hP hS hc ⟨hL'.1, hL'.2.1, fun q hq => hL'.2.2 q ?_⟩
  have h9 := aLl_set hi rfl hk q hq
  skip
  exact h9
theorem AW.lstore {i : Nat} {x : Int} (hd : decode M.2.1 pc = .ok (.lstore i, 2)) (hn : pc + 2 = n) (hi : i < ls.length) (hj : i + 1 < M.2.2.1) (hk : lok ls i = true) (hs : (ls.set i (some (vL x))).set (i + 1) none = ls') (k : AW Γ M d o0 S0 uc us n ls' st S) : AW Γ M d o0 S0 uc us pc ls (vL x :: st) S := by
  intro p e R s m args below meth c mc ms C H locs cells slots lr hP hS hc hL
  subst hn
  subst hs
  simp only [List.map_cons, aV_L]
  refine lv_lstore C.x C.b hd hL hj rfl (fun lr' hL' => ?_)
  refine k p e R s m args below meth c mc ms C H locs cells slots lr' hP hS hc ⟨hL'.1, hL'.2.1, fun q hq => hL'.2.2 q ?_⟩
  have h9 := aLl_setL hi hk q hq
  skip
  exact h9
theorem AW.lstore_n {i : Fin 4} {x : Int} (hd : decode M.2.1 pc = .ok (.lstore_n i, 1)) (hn : pc + 1 = n) (hi : (i : Nat) < ls.length) (hj : (i : Nat) + 1 < M.2.2.1) (hk : lok ls (i : Nat) = true) (hs : (ls.set (i : Nat) (some (vL x))).set ((i : Nat) + 1) none = ls') (k : AW Γ M d o0 S0 uc us n ls' st S) : AW Γ M d o0 S0 uc us pc ls (vL x :: st) S := by
  intro p e R s m args below meth c mc ms C H locs cells slots lr hP hS hc hL
  subst hn
  subst hs
  simp only [List.map_cons, aV_L]
  refine lv_lstore_n C.x C.b hd rfl hL hj rfl (fun lr' hL' => ?_)
  refine k p e R s m args below meth c mc ms C H locs cells slots lr' hP hS hc ⟨hL'.1, hL'.2.1, fun q hq => hL'.2.2 q ?_⟩
  have h9 := aLl_setL hi hk q hq
  skip
  exact h9
theorem AW.astore {i : Nat} {x : Nat} (hd : decode M.2.1 pc = .ok (.astore i, 2)) (hn : pc + 2 = n) (hi : i < ls.length) (hj : i < M.2.2.1) (hk : lok ls i = true) (hs : ls.set i (some (vR x)) = ls') (k : AW Γ M d o0 S0 uc us n ls' st S) : AW Γ M d o0 S0 uc us pc ls (vR x :: st) S := by
  intro p e R s m args below meth c mc ms C H locs cells slots lr hP hS hc hL
  subst hn
  subst hs
  simp only [List.map_cons, aV_R]
  refine lv_astore C.x C.b hd hL hj rfl (fun lr' hL' => ?_)
  refine k p e R s m args below meth c mc ms C H locs cells slots lr' hP hS hc ⟨hL'.1, hL'.2.1, fun q hq => hL'.2.2 q ?_⟩
  have h9 := aLl_set hi (by rw [aV_R]; rfl) hk q hq
  rw [aV_R] at h9
  exact h9
theorem AW.astore_n {i : Fin 4} {x : Nat} (hd : decode M.2.1 pc = .ok (.astore_n i, 1)) (hn : pc + 1 = n) (hi : (i : Nat) < ls.length) (hj : (i : Nat) < M.2.2.1) (hk : lok ls (i : Nat) = true) (hs : ls.set (i : Nat) (some (vR x)) = ls') (k : AW Γ M d o0 S0 uc us n ls' st S) : AW Γ M d o0 S0 uc us pc ls (vR x :: st) S := by
  intro p e R s m args below meth c mc ms C H locs cells slots lr hP hS hc hL
  subst hn
  subst hs
  simp only [List.map_cons, aV_R]
  refine lv_astore_n C.x C.b hd rfl hL hj rfl (fun lr' hL' => ?_)
  refine k p e R s m args below meth c mc ms C H locs cells slots lr' hP hS hc ⟨hL'.1, hL'.2.1, fun q hq => hL'.2.2 q ?_⟩
  have h9 := aLl_set hi (by rw [aV_R]; rfl) hk q hq
  rw [aV_R] at h9
  exact h9
theorem AW.xstore {i : Nat} {x : Nat} (hd : decode M.2.1 pc = .ok (.astore i, 2)) (hn : pc + 2 = n) (hi : i < ls.length) (hj : i < M.2.2.1) (hk : lok ls i = true) (hs : ls.set i (some (vA x)) = ls') (k : AW Γ M d o0 S0 uc us n ls' st S) : AW Γ M d o0 S0 uc us pc ls (vA x :: st) S := by
  intro p e R s m args below meth c mc ms C H locs cells slots lr hP hS hc hL
  subst hn
  subst hs
  simp only [List.map_cons, aV_A]
  refine lv_astore C.x C.b hd hL hj rfl (fun lr' hL' => ?_)
  refine k p e R s m args below meth c mc ms C H locs cells slots lr' hP hS hc ⟨hL'.1, hL'.2.1, fun q hq => hL'.2.2 q ?_⟩
  have h9 := aLl_set hi (by rw [aV_A]; rfl) hk q hq
  rw [aV_A] at h9
  exact h9
theorem AW.xstore_n {i : Fin 4} {x : Nat} (hd : decode M.2.1 pc = .ok (.astore_n i, 1)) (hn : pc + 1 = n) (hi : (i : Nat) < ls.length) (hj : (i : Nat) < M.2.2.1) (hk : lok ls (i : Nat) = true) (hs : ls.set (i : Nat) (some (vA x)) = ls') (k : AW Γ M d o0 S0 uc us n ls' st S) : AW Γ M d o0 S0 uc us pc ls (vA x :: st) S := by
  intro p e R s m args below meth c mc ms C H locs cells slots lr hP hS hc hL
  subst hn
  subst hs
  simp only [List.map_cons, aV_A]
  refine lv_astore_n C.x C.b hd rfl hL hj rfl (fun lr' hL' => ?_)
  refine k p e R s m args below meth c mc ms C H locs cells slots lr' hP hS hc ⟨hL'.1, hL'.2.1, fun q hq => hL'.2.2 q ?_⟩
  have h9 := aLl_set hi (by rw [aV_A]; rfl) hk q hq
  rw [aV_A] at h9
  exact h9
theorem AW.iinc {i : Nat} {x y : Int} (hd : decode M.2.1 pc = .ok (.iinc i y, 3)) (hn : pc + 3 = n) (hl : ls[i]? = some (some (vI x))) (hj : i < M.2.2.1) (hk : lok ls i = true) (hs : ls.set i (some (vI (x + y))) = ls') (k : AW Γ M d o0 S0 uc us n ls' st S) : AW Γ M d o0 S0 uc us pc ls st S := by
  intro p e R s m args below meth c mc ms C H locs cells slots lr hP hS hc hL
  subst hn
  subst hs
  have hi : i < ls.length := (List.getElem?_eq_some_iff.mp hl).1
  have hm : (i, Value.int (Int32.ofInt x)) ∈ aLl Γ ls := aLl_mem.mpr ⟨vI x, hl, rfl⟩
  obtain ⟨kk, hkk⟩ := List.getElem?_of_mem hm
  refine lv_iinc C.x C.b hd hL hkk (v := Int32.ofInt (x + y)) (ofI_add x y) hj rfl (fun lr' hL' => ?_)
  exact k p e R s m args below meth c mc ms C H locs cells slots lr' hP hS hc ⟨hL'.1, hL'.2.1, fun q hq => hL'.2.2 q (aLl_set hi rfl hk q hq)⟩
theorem AW.iadd {x y : Int} (hd : decode M.2.1 pc = .ok (.iadd, 1)) (hn : pc + 1 = n) (k : AW Γ M d o0 S0 uc us n ls (vI (x + y) :: st) S) : AW Γ M d o0 S0 uc us pc ls (vI y :: vI x :: st) S := by
  intro p e R s m args below meth c mc ms C H locs cells slots lr hP hS hc hL
  subst hn
  have k2 := k p e R s m args below meth c mc ms C H locs cells slots lr hP hS hc hL
  simp only [List.map_cons, aV_I, aV_L, aV_R, aV_N, aV_O] at k2 ⊢
  exact lv_iadd C.x C.b hd (by rw [ofI_add]; exact k2)
theorem AW.isub {x y : Int} (hd : decode M.2.1 pc = .ok (.isub, 1)) (hn : pc + 1 = n) (k : AW Γ M d o0 S0 uc us n ls (vI (x - y) :: st) S) : AW Γ M d o0 S0 uc us pc ls (vI y :: vI x :: st) S := by
  intro p e R s m args below meth c mc ms C H locs cells slots lr hP hS hc hL
  subst hn
  have k2 := k p e R s m args below meth c mc ms C H locs cells slots lr hP hS hc hL
  simp only [List.map_cons, aV_I, aV_L, aV_R, aV_N, aV_O] at k2 ⊢
  exact lv_isub C.x C.b hd (by rw [ofI_sub]; exact k2)
theorem AW.imul {x y : Int} (hd : decode M.2.1 pc = .ok (.imul, 1)) (hn : pc + 1 = n) (k : AW Γ M d o0 S0 uc us n ls (vI (x * y) :: st) S) : AW Γ M d o0 S0 uc us pc ls (vI y :: vI x :: st) S := by
  intro p e R s m args below meth c mc ms C H locs cells slots lr hP hS hc hL
  subst hn
  have k2 := k p e R s m args below meth c mc ms C H locs cells slots lr hP hS hc hL
  simp only [List.map_cons, aV_I, aV_L, aV_R, aV_N, aV_O] at k2 ⊢
  exact lv_imul C.x C.b hd (by rw [ofI_mul]; exact k2)
theorem AW.ladd {x y : Int} (hd : decode M.2.1 pc = .ok (.ladd, 1)) (hn : pc + 1 = n) (k : AW Γ M d o0 S0 uc us n ls (vL (x + y) :: st) S) : AW Γ M d o0 S0 uc us pc ls (vL y :: vL x :: st) S := by
  intro p e R s m args below meth c mc ms C H locs cells slots lr hP hS hc hL
  subst hn
  have k2 := k p e R s m args below meth c mc ms C H locs cells slots lr hP hS hc hL
  simp only [List.map_cons, aV_I, aV_L, aV_R, aV_N, aV_O] at k2 ⊢
  exact lv_ladd C.x C.b hd (by rw [ofL_add]; exact k2)
theorem AW.lsub {x y : Int} (hd : decode M.2.1 pc = .ok (.lsub, 1)) (hn : pc + 1 = n) (k : AW Γ M d o0 S0 uc us n ls (vL (x - y) :: st) S) : AW Γ M d o0 S0 uc us pc ls (vL y :: vL x :: st) S := by
  intro p e R s m args below meth c mc ms C H locs cells slots lr hP hS hc hL
  subst hn
  have k2 := k p e R s m args below meth c mc ms C H locs cells slots lr hP hS hc hL
  simp only [List.map_cons, aV_I, aV_L, aV_R, aV_N, aV_O] at k2 ⊢
  exact lv_lsub C.x C.b hd (by rw [ofL_sub]; exact k2)
theorem AW.lmul {x y : Int} (hd : decode M.2.1 pc = .ok (.lmul, 1)) (hn : pc + 1 = n) (k : AW Γ M d o0 S0 uc us n ls (vL (x * y) :: st) S) : AW Γ M d o0 S0 uc us pc ls (vL y :: vL x :: st) S := by
  intro p e R s m args below meth c mc ms C H locs cells slots lr hP hS hc hL
  subst hn
  have k2 := k p e R s m args below meth c mc ms C H locs cells slots lr hP hS hc hL
  simp only [List.map_cons, aV_I, aV_L, aV_R, aV_N, aV_O] at k2 ⊢
  exact lv_lmul C.x C.b hd (by rw [ofL_mul]; exact k2)
theorem AW.ineg {x : Int} (hd : decode M.2.1 pc = .ok (.ineg, 1)) (hn : pc + 1 = n) (k : AW Γ M d o0 S0 uc us n ls (vI (-x) :: st) S) : AW Γ M d o0 S0 uc us pc ls (vI x :: st) S := by
  intro p e R s m args below meth c mc ms C H locs cells slots lr hP hS hc hL
  subst hn
  have k2 := k p e R s m args below meth c mc ms C H locs cells slots lr hP hS hc hL
  simp only [List.map_cons, aV_I, aV_L, aV_R, aV_N, aV_O] at k2 ⊢
  exact lv_ineg C.x C.b hd (by rw [ofI_neg]; exact k2)
theorem AW.idiv {x y : Int} (hd : decode M.2.1 pc = .ok (.idiv, 1)) (hn : pc + 1 = n) (hy : ¬ w32 y = 0) (k : AW Γ M d o0 S0 uc us n ls (vI (dv32 x y) :: st) S) : AW Γ M d o0 S0 uc us pc ls (vI y :: vI x :: st) S := by
  intro p e R s m args below meth c mc ms C H locs cells slots lr hP hS hc hL
  subst hn
  have k2 := k p e R s m args below meth c mc ms C H locs cells slots lr hP hS hc hL
  simp only [List.map_cons, aV_I, aV_L, aV_R, aV_N, aV_O] at k2 ⊢
  exact lv_idiv C.x C.b hd (fun q => hy (ofI_eq0.mp q)) (by rw [ofI_div]; exact k2)
theorem AW.irem {x y : Int} (hd : decode M.2.1 pc = .ok (.irem, 1)) (hn : pc + 1 = n) (hy : ¬ w32 y = 0) (k : AW Γ M d o0 S0 uc us n ls (vI (rm32 x y) :: st) S) : AW Γ M d o0 S0 uc us pc ls (vI y :: vI x :: st) S := by
  intro p e R s m args below meth c mc ms C H locs cells slots lr hP hS hc hL
  subst hn
  have k2 := k p e R s m args below meth c mc ms C H locs cells slots lr hP hS hc hL
  simp only [List.map_cons, aV_I, aV_L, aV_R, aV_N, aV_O] at k2 ⊢
  exact lv_irem C.x C.b hd (fun q => hy (ofI_eq0.mp q)) (by rw [ofI_div, ofI_mul, ofI_sub]; exact k2)
theorem AW.ldiv {x y : Int} (hd : decode M.2.1 pc = .ok (.ldiv, 1)) (hn : pc + 1 = n) (hy : ¬ w64 y = 0) (k : AW Γ M d o0 S0 uc us n ls (vL (dv64 x y) :: st) S) : AW Γ M d o0 S0 uc us pc ls (vL y :: vL x :: st) S := by
  intro p e R s m args below meth c mc ms C H locs cells slots lr hP hS hc hL
  subst hn
  have k2 := k p e R s m args below meth c mc ms C H locs cells slots lr hP hS hc hL
  simp only [List.map_cons, aV_I, aV_L, aV_R, aV_N, aV_O] at k2 ⊢
  exact lv_ldiv C.x C.b hd (fun q => hy (ofL_eq0.mp q)) (by rw [ofL_div]; exact k2)
theorem AW.iand {x y : Int} (hd : decode M.2.1 pc = .ok (.iand, 1)) (hn : pc + 1 = n) (k : AW Γ M d o0 S0 uc us n ls (vI (bAnd x y) :: st) S) : AW Γ M d o0 S0 uc us pc ls (vI y :: vI x :: st) S := by
  intro p e R s m args below meth c mc ms C H locs cells slots lr hP hS hc hL
  subst hn
  have k2 := k p e R s m args below meth c mc ms C H locs cells slots lr hP hS hc hL
  simp only [List.map_cons, aV_I, aV_L, aV_R, aV_N, aV_O] at k2 ⊢
  exact lv_iand C.x C.b hd (by rw [show Int32.ofInt (bAnd x y) = _ from ofI_toInt _] at k2; exact k2)
theorem AW.ior {x y : Int} (hd : decode M.2.1 pc = .ok (.ior, 1)) (hn : pc + 1 = n) (k : AW Γ M d o0 S0 uc us n ls (vI (bOr x y) :: st) S) : AW Γ M d o0 S0 uc us pc ls (vI y :: vI x :: st) S := by
  intro p e R s m args below meth c mc ms C H locs cells slots lr hP hS hc hL
  subst hn
  have k2 := k p e R s m args below meth c mc ms C H locs cells slots lr hP hS hc hL
  simp only [List.map_cons, aV_I, aV_L, aV_R, aV_N, aV_O] at k2 ⊢
  exact lv_ior C.x C.b hd (by rw [show Int32.ofInt (bOr x y) = _ from ofI_toInt _] at k2; exact k2)
theorem AW.ishl {x y : Int} (hd : decode M.2.1 pc = .ok (.ishl, 1)) (hn : pc + 1 = n) (k : AW Γ M d o0 S0 uc us n ls (vI (bShl x y) :: st) S) : AW Γ M d o0 S0 uc us pc ls (vI y :: vI x :: st) S := by
  intro p e R s m args below meth c mc ms C H locs cells slots lr hP hS hc hL
  subst hn
  have k2 := k p e R s m args below meth c mc ms C H locs cells slots lr hP hS hc hL
  simp only [List.map_cons, aV_I, aV_L, aV_R, aV_N, aV_O] at k2 ⊢
  exact lv_ishl C.x C.b hd (by rw [show Int32.ofInt (bShl x y) = _ from ofI_toInt _] at k2; exact k2)
theorem AW.ishr {x y : Int} (hd : decode M.2.1 pc = .ok (.ishr, 1)) (hn : pc + 1 = n) (k : AW Γ M d o0 S0 uc us n ls (vI (bShr x y) :: st) S) : AW Γ M d o0 S0 uc us pc ls (vI y :: vI x :: st) S := by
  intro p e R s m args below meth c mc ms C H locs cells slots lr hP hS hc hL
  subst hn
  have k2 := k p e R s m args below meth c mc ms C H locs cells slots lr hP hS hc hL
  simp only [List.map_cons, aV_I, aV_L, aV_R, aV_N, aV_O] at k2 ⊢
  exact lv_ishr C.x C.b hd (by rw [show Int32.ofInt (bShr x y) = _ from ofI_toInt _] at k2; exact k2)
theorem AW.iushr {x y : Int} (hd : decode M.2.1 pc = .ok (.iushr, 1)) (hn : pc + 1 = n) (k : AW Γ M d o0 S0 uc us n ls (vI (bUshr x y) :: st) S) : AW Γ M d o0 S0 uc us pc ls (vI y :: vI x :: st) S := by
  intro p e R s m args below meth c mc ms C H locs cells slots lr hP hS hc hL
  subst hn
  have k2 := k p e R s m args below meth c mc ms C H locs cells slots lr hP hS hc hL
  simp only [List.map_cons, aV_I, aV_L, aV_R, aV_N, aV_O] at k2 ⊢
  exact lv_iushr C.x C.b hd rfl (by rw [show Int32.ofInt (bUshr x y) = _ from ofI_toInt _] at k2; exact k2)
theorem AW.i2b {x : Int} (hd : decode M.2.1 pc = .ok (.i2b, 1)) (hn : pc + 1 = n) (k : AW Γ M d o0 S0 uc us n ls (vI (w8 x) :: st) S) : AW Γ M d o0 S0 uc us pc ls (vI x :: st) S := by
  intro p e R s m args below meth c mc ms C H locs cells slots lr hP hS hc hL
  subst hn
  have k2 := k p e R s m args below meth c mc ms C H locs cells slots lr hP hS hc hL
  simp only [List.map_cons, aV_I, aV_L, aV_R, aV_N, aV_O] at k2 ⊢
  exact lv_i2b C.x C.b hd rfl (by rw [show Int32.ofInt (w8 x) = _ from ofI_toInt _] at k2; exact k2)
theorem AW.i2l {x : Int} (hd : decode M.2.1 pc = .ok (.i2l, 1)) (hn : pc + 1 = n) (k : AW Γ M d o0 S0 uc us n ls (vL (w32 x) :: st) S) : AW Γ M d o0 S0 uc us pc ls (vI x :: st) S := by
  intro p e R s m args below meth c mc ms C H locs cells slots lr hP hS hc hL
  subst hn
  have k2 := k p e R s m args below meth c mc ms C H locs cells slots lr hP hS hc hL
  simp only [List.map_cons, aV_I, aV_L, aV_R, aV_N, aV_O] at k2 ⊢
  exact lv_i2l C.x C.b hd (ofI_l x) k2
theorem AW.l2i {x : Int} (hd : decode M.2.1 pc = .ok (.l2i, 1)) (hn : pc + 1 = n) (k : AW Γ M d o0 S0 uc us n ls (vI x :: st) S) : AW Γ M d o0 S0 uc us pc ls (vL x :: st) S := by
  intro p e R s m args below meth c mc ms C H locs cells slots lr hP hS hc hL
  subst hn
  have k2 := k p e R s m args below meth c mc ms C H locs cells slots lr hP hS hc hL
  simp only [List.map_cons, aV_I, aV_L, aV_R, aV_N, aV_O] at k2 ⊢
  exact lv_l2i C.x C.b hd (ofL_i x) k2
theorem AW.lcmp {x y : Int} (hd : decode M.2.1 pc = .ok (.lcmp, 1)) (hn : pc + 1 = n) (k : AW Γ M d o0 S0 uc us n ls (vI (cmpL x y) :: st) S) : AW Γ M d o0 S0 uc us pc ls (vL y :: vL x :: st) S := by
  intro p e R s m args below meth c mc ms C H locs cells slots lr hP hS hc hL
  subst hn
  have k2 := k p e R s m args below meth c mc ms C H locs cells slots lr hP hS hc hL
  simp only [List.map_cons, aV_I, aV_L, aV_R, aV_N, aV_O] at k2 ⊢
  exact W.lcmp C.x C.b hd (by rw [lg_cmp_of]; exact k2)
theorem AW.dup {v : AV} (hd : decode M.2.1 pc = .ok (.dup, 1)) (hn : pc + 1 = n) (hv : (aV Γ v).category = 1) (k : AW Γ M d o0 S0 uc us n ls (v :: v :: st) S) : AW Γ M d o0 S0 uc us pc ls (v :: st) S := by
  intro p e R s m args below meth c mc ms C H locs cells slots lr hP hS hc hL
  subst hn
  have k2 := k p e R s m args below meth c mc ms C H locs cells slots lr hP hS hc hL
  simp only [List.map_cons] at k2 ⊢
  exact lv_dup C.x C.b hd hv k2
theorem AW.pop {v : AV} (hd : decode M.2.1 pc = .ok (.pop, 1)) (hn : pc + 1 = n) (hv : (aV Γ v).category = 1) (k : AW Γ M d o0 S0 uc us n ls (st) S) : AW Γ M d o0 S0 uc us pc ls (v :: st) S := by
  intro p e R s m args below meth c mc ms C H locs cells slots lr hP hS hc hL
  subst hn
  have k2 := k p e R s m args below meth c mc ms C H locs cells slots lr hP hS hc hL
  simp only [List.map_cons] at k2 ⊢
  exact lv_pop C.x C.b hd hv k2
theorem AW.dup_x1 {v w : AV} (hd : decode M.2.1 pc = .ok (.dup_x1, 1)) (hn : pc + 1 = n) (hv : (aV Γ v).category = 1) (hw : (aV Γ w).category = 1) (k : AW Γ M d o0 S0 uc us n ls (v :: w :: v :: st) S) : AW Γ M d o0 S0 uc us pc ls (v :: w :: st) S := by
  intro p e R s m args below meth c mc ms C H locs cells slots lr hP hS hc hL
  subst hn
  have k2 := k p e R s m args below meth c mc ms C H locs cells slots lr hP hS hc hL
  simp only [List.map_cons] at k2 ⊢
  exact lv_dup_x1 C.x C.b hd hv hw k2
theorem AW.dup2 {v w : AV} (hd : decode M.2.1 pc = .ok (.dup2, 1)) (hn : pc + 1 = n) (hv : (aV Γ v).category = 1) (hw : (aV Γ w).category = 1) (k : AW Γ M d o0 S0 uc us n ls (v :: w :: v :: w :: st) S) : AW Γ M d o0 S0 uc us pc ls (v :: w :: st) S := by
  intro p e R s m args below meth c mc ms C H locs cells slots lr hP hS hc hL
  subst hn
  have k2 := k p e R s m args below meth c mc ms C H locs cells slots lr hP hS hc hL
  simp only [List.map_cons] at k2 ⊢
  exact lv_dup2_11 C.x C.b hd hv hw k2
theorem cI (x : Int) : (aV Γ (vI x)).category = 1 := rfl
theorem cR (x : Nat) : (aV Γ (vR x)).category = 1 := by rw [aV_R]; rfl
theorem cO (x : Nat) : (aV Γ (vO x)).category = 1 := rfl
theorem AW.if_eq {x off : Int} {t : Nat} (hd : decode M.2.1 pc = .ok (.ifCond .eq off, 3)) (hn : pc + 3 = n) (ht : (pc : Int) + off = (t : Int)) (kt : w32 x = 0 → AW Γ M d o0 S0 uc us t ls st S) (kf : ¬ w32 x = 0 → AW Γ M d o0 S0 uc us n ls st S) : AW Γ M d o0 S0 uc us pc ls (vI x :: st) S := by
  intro p e R s m args below meth c mc ms C H locs cells slots lr hP hS hc hL
  subst hn
  have k1 := fun z => kt z p e R s m args below meth c mc ms C H locs cells slots lr hP hS hc hL
  have k2 := fun z => kf z p e R s m args below meth c mc ms C H locs cells slots lr hP hS hc hL
  simp only [List.map_cons, aV_I]
  exact lv_if_eq C.x C.b hd ht (fun q => k1 (ofI_eq0.mp q)) (fun q => k2 (fun z => q (ofI_eq0.mpr z)))
theorem AW.if_lt {x off : Int} {t : Nat} (hd : decode M.2.1 pc = .ok (.ifCond .lt off, 3)) (hn : pc + 3 = n) (ht : (pc : Int) + off = (t : Int)) (kt : w32 x < 0 → AW Γ M d o0 S0 uc us t ls st S) (kf : ¬ w32 x < 0 → AW Γ M d o0 S0 uc us n ls st S) : AW Γ M d o0 S0 uc us pc ls (vI x :: st) S := by
  intro p e R s m args below meth c mc ms C H locs cells slots lr hP hS hc hL
  subst hn
  have k1 := fun z => kt z p e R s m args below meth c mc ms C H locs cells slots lr hP hS hc hL
  have k2 := fun z => kf z p e R s m args below meth c mc ms C H locs cells slots lr hP hS hc hL
  simp only [List.map_cons, aV_I]
  exact lv_if_lt C.x C.b hd ht (fun q => k1 (ofI_lt0.mp q)) (fun q => k2 (fun z => q (ofI_lt0.mpr z)))
theorem AW.if_ge {x off : Int} {t : Nat} (hd : decode M.2.1 pc = .ok (.ifCond .ge off, 3)) (hn : pc + 3 = n) (ht : (pc : Int) + off = (t : Int)) (kt : 0 ≤ w32 x → AW Γ M d o0 S0 uc us t ls st S) (kf : ¬ 0 ≤ w32 x → AW Γ M d o0 S0 uc us n ls st S) : AW Γ M d o0 S0 uc us pc ls (vI x :: st) S := by
  intro p e R s m args below meth c mc ms C H locs cells slots lr hP hS hc hL
  subst hn
  have k1 := fun z => kt z p e R s m args below meth c mc ms C H locs cells slots lr hP hS hc hL
  have k2 := fun z => kf z p e R s m args below meth c mc ms C H locs cells slots lr hP hS hc hL
  simp only [List.map_cons, aV_I]
  exact lv_if_ge C.x C.b hd ht (fun q => k1 (ofI_ge0.mp q)) (fun q => k2 (fun z => q (ofI_ge0.mpr z)))
theorem AW.if_gt {x off : Int} {t : Nat} (hd : decode M.2.1 pc = .ok (.ifCond .gt off, 3)) (hn : pc + 3 = n) (ht : (pc : Int) + off = (t : Int)) (kt : 0 < w32 x → AW Γ M d o0 S0 uc us t ls st S) (kf : ¬ 0 < w32 x → AW Γ M d o0 S0 uc us n ls st S) : AW Γ M d o0 S0 uc us pc ls (vI x :: st) S := by
  intro p e R s m args below meth c mc ms C H locs cells slots lr hP hS hc hL
  subst hn
  have k1 := fun z => kt z p e R s m args below meth c mc ms C H locs cells slots lr hP hS hc hL
  have k2 := fun z => kf z p e R s m args below meth c mc ms C H locs cells slots lr hP hS hc hL
  simp only [List.map_cons, aV_I]
  exact lv_if_gt C.x C.b hd ht (fun q => k1 (ofI_gt0.mp q)) (fun q => k2 (fun z => q (ofI_gt0.mpr z)))
theorem AW.if_le {x off : Int} {t : Nat} (hd : decode M.2.1 pc = .ok (.ifCond .le off, 3)) (hn : pc + 3 = n) (ht : (pc : Int) + off = (t : Int)) (kt : w32 x ≤ 0 → AW Γ M d o0 S0 uc us t ls st S) (kf : ¬ w32 x ≤ 0 → AW Γ M d o0 S0 uc us n ls st S) : AW Γ M d o0 S0 uc us pc ls (vI x :: st) S := by
  intro p e R s m args below meth c mc ms C H locs cells slots lr hP hS hc hL
  subst hn
  have k1 := fun z => kt z p e R s m args below meth c mc ms C H locs cells slots lr hP hS hc hL
  have k2 := fun z => kf z p e R s m args below meth c mc ms C H locs cells slots lr hP hS hc hL
  simp only [List.map_cons, aV_I]
  exact lv_if_le C.x C.b hd ht (fun q => k1 (ofI_le0.mp q)) (fun q => k2 (fun z => q (ofI_le0.mpr z)))
theorem AW.icmp_eq {x y x2 y2 off : Int} {t : Nat} (hd : decode M.2.1 pc = .ok (.if_icmp .eq off, 3)) (hn : pc + 3 = n) (ht : (pc : Int) + off = (t : Int)) (hx : w32 x = x2) (hy : w32 y = y2) (kt : x2 = y2 → AW Γ M d o0 S0 uc us t ls st S) (kf : ¬ x2 = y2 → AW Γ M d o0 S0 uc us n ls st S) : AW Γ M d o0 S0 uc us pc ls (vI y :: vI x :: st) S := by
  intro p e R s m args below meth c mc ms C H locs cells slots lr hP hS hc hL
  subst hn
  subst hx
  subst hy
  have k1 := fun z => kt z p e R s m args below meth c mc ms C H locs cells slots lr hP hS hc hL
  have k2 := fun z => kf z p e R s m args below meth c mc ms C H locs cells slots lr hP hS hc hL
  simp only [List.map_cons, aV_I]
  exact lv_icmp_eq C.x C.b hd ht (fun q => k1 (ofI_eq.mp q)) (fun q => k2 (fun z => q (ofI_eq.mpr z)))
theorem AW.icmp_lt {x y x2 y2 off : Int} {t : Nat} (hd : decode M.2.1 pc = .ok (.if_icmp .lt off, 3)) (hn : pc + 3 = n) (ht : (pc : Int) + off = (t : Int)) (hx : w32 x = x2) (hy : w32 y = y2) (kt : x2 < y2 → AW Γ M d o0 S0 uc us t ls st S) (kf : ¬ x2 < y2 → AW Γ M d o0 S0 uc us n ls st S) : AW Γ M d o0 S0 uc us pc ls (vI y :: vI x :: st) S := by
  intro p e R s m args below meth c mc ms C H locs cells slots lr hP hS hc hL
  subst hn
  subst hx
  subst hy
  have k1 := fun z => kt z p e R s m args below meth c mc ms C H locs cells slots lr hP hS hc hL
  have k2 := fun z => kf z p e R s m args below meth c mc ms C H locs cells slots lr hP hS hc hL
  simp only [List.map_cons, aV_I]
  exact lv_icmp_lt C.x C.b hd ht (fun q => k1 (ofI_lt.mp q)) (fun q => k2 (fun z => q (ofI_lt.mpr z)))
theorem AW.icmp_ge {x y x2 y2 off : Int} {t : Nat} (hd : decode M.2.1 pc = .ok (.if_icmp .ge off, 3)) (hn : pc + 3 = n) (ht : (pc : Int) + off = (t : Int)) (hx : w32 x = x2) (hy : w32 y = y2) (kt : y2 ≤ x2 → AW Γ M d o0 S0 uc us t ls st S) (kf : ¬ y2 ≤ x2 → AW Γ M d o0 S0 uc us n ls st S) : AW Γ M d o0 S0 uc us pc ls (vI y :: vI x :: st) S := by
  intro p e R s m args below meth c mc ms C H locs cells slots lr hP hS hc hL
  subst hn
  subst hx
  subst hy
  have k1 := fun z => kt z p e R s m args below meth c mc ms C H locs cells slots lr hP hS hc hL
  have k2 := fun z => kf z p e R s m args below meth c mc ms C H locs cells slots lr hP hS hc hL
  simp only [List.map_cons, aV_I]
  exact lv_icmp_ge C.x C.b hd ht (fun q => k1 (ofI_le.mp q)) (fun q => k2 (fun z => q (ofI_le.mpr z)))
theorem AW.icmp_gt {x y x2 y2 off : Int} {t : Nat} (hd : decode M.2.1 pc = .ok (.if_icmp .gt off, 3)) (hn : pc + 3 = n) (ht : (pc : Int) + off = (t : Int)) (hx : w32 x = x2) (hy : w32 y = y2) (kt : y2 < x2 → AW Γ M d o0 S0 uc us t ls st S) (kf : ¬ y2 < x2 → AW Γ M d o0 S0 uc us n ls st S) : AW Γ M d o0 S0 uc us pc ls (vI y :: vI x :: st) S := by
  intro p e R s m args below meth c mc ms C H locs cells slots lr hP hS hc hL
  subst hn
  subst hx
  subst hy
  have k1 := fun z => kt z p e R s m args below meth c mc ms C H locs cells slots lr hP hS hc hL
  have k2 := fun z => kf z p e R s m args below meth c mc ms C H locs cells slots lr hP hS hc hL
  simp only [List.map_cons, aV_I]
  exact lv_icmp_gt C.x C.b hd ht (fun q => k1 (ofI_lt.mp q)) (fun q => k2 (fun z => q (ofI_lt.mpr z)))
theorem AW.icmp_le {x y x2 y2 off : Int} {t : Nat} (hd : decode M.2.1 pc = .ok (.if_icmp .le off, 3)) (hn : pc + 3 = n) (ht : (pc : Int) + off = (t : Int)) (hx : w32 x = x2) (hy : w32 y = y2) (kt : x2 ≤ y2 → AW Γ M d o0 S0 uc us t ls st S) (kf : ¬ x2 ≤ y2 → AW Γ M d o0 S0 uc us n ls st S) : AW Γ M d o0 S0 uc us pc ls (vI y :: vI x :: st) S := by
  intro p e R s m args below meth c mc ms C H locs cells slots lr hP hS hc hL
  subst hn
  subst hx
  subst hy
  have k1 := fun z => kt z p e R s m args below meth c mc ms C H locs cells slots lr hP hS hc hL
  have k2 := fun z => kf z p e R s m args below meth c mc ms C H locs cells slots lr hP hS hc hL
  simp only [List.map_cons, aV_I]
  exact lv_icmp_le C.x C.b hd ht (fun q => k1 (ofI_le.mp q)) (fun q => k2 (fun z => q (ofI_le.mpr z)))
theorem AW.if_ne {x off : Int} {t : Nat} (hd : decode M.2.1 pc = .ok (.ifCond .ne off, 3)) (hn : pc + 3 = n) (ht : (pc : Int) + off = (t : Int)) (kf : w32 x = 0 → AW Γ M d o0 S0 uc us n ls st S) (kt : ¬ w32 x = 0 → AW Γ M d o0 S0 uc us t ls st S) : AW Γ M d o0 S0 uc us pc ls (vI x :: st) S := by
  intro p e R s m args below meth c mc ms C H locs cells slots lr hP hS hc hL
  subst hn
  have k1 := fun z => kt z p e R s m args below meth c mc ms C H locs cells slots lr hP hS hc hL
  have k2 := fun z => kf z p e R s m args below meth c mc ms C H locs cells slots lr hP hS hc hL
  simp only [List.map_cons, aV_I]
  exact lv_if_ne C.x C.b hd ht (fun q => k1 (fun z => q (ofI_eq0.mpr z))) (fun q => k2 (ofI_eq0.mp q))
theorem AW.icmp_ne {x y x2 y2 off : Int} {t : Nat} (hd : decode M.2.1 pc = .ok (.if_icmp .ne off, 3)) (hn : pc + 3 = n) (ht : (pc : Int) + off = (t : Int)) (hx : w32 x = x2) (hy : w32 y = y2) (kf : x2 = y2 → AW Γ M d o0 S0 uc us n ls st S) (kt : ¬ x2 = y2 → AW Γ M d o0 S0 uc us t ls st S) : AW Γ M d o0 S0 uc us pc ls (vI y :: vI x :: st) S := by
  intro p e R s m args below meth c mc ms C H locs cells slots lr hP hS hc hL
  subst hn
  subst hx
  subst hy
  have k1 := fun z => kt z p e R s m args below meth c mc ms C H locs cells slots lr hP hS hc hL
  have k2 := fun z => kf z p e R s m args below meth c mc ms C H locs cells slots lr hP hS hc hL
  simp only [List.map_cons, aV_I]
  exact lv_icmp_ne C.x C.b hd ht (fun q => k1 (fun z => q (ofI_eq.mpr z))) (fun q => k2 (ofI_eq.mp q))
theorem AW.goto {off : Int} {t : Nat} (hd : decode M.2.1 pc = .ok (.goto off, 3)) (ht : (pc : Int) + off = (t : Int)) (k : AW Γ M d o0 S0 uc us t ls st S) : AW Γ M d o0 S0 uc us pc ls st S := by
  intro p e R s m args below meth c mc ms C H locs cells slots lr hP hS hc hL
  exact lv_goto C.x C.b hd ht (k p e R s m args below meth c mc ms C H locs cells slots lr hP hS hc hL)
theorem AW.tIn {x dflt lo hi j off : Int} {offs : Array Int} {len t : Nat} (hd : decode M.2.1 pc = .ok (.tableswitch dflt lo hi offs, len)) (hx : w32 x = j) (h1 : ¬ j < lo) (h2 : ¬ hi < j) (ho : offs[(j - lo).toNat]? = some off) (ht : (pc : Int) + off = (t : Int)) (k : AW Γ M d o0 S0 uc us t ls st S) : AW Γ M d o0 S0 uc us pc ls (vI x :: st) S := by
  intro p e R s m args below meth c mc ms C H locs cells slots lr hP hS hc hL
  subst hx
  have k2 := k p e R s m args below meth c mc ms C H locs cells slots lr hP hS hc hL
  simp only [List.map_cons, aV_I]
  exact lv_tableIn C.x C.b hd (by rw [toInt_ofI]; exact h1) (by rw [toInt_ofI]; exact h2) (by rw [toInt_ofI]; exact ho) ht k2
theorem AW.tOut {x dflt lo hi : Int} {offs : Array Int} {len t : Nat} (hd : decode M.2.1 pc = .ok (.tableswitch dflt lo hi offs, len)) (h : w32 x < lo ∨ hi < w32 x) (ht : (pc : Int) + dflt = (t : Int)) (k : AW Γ M d o0 S0 uc us t ls st S) : AW Γ M d o0 S0 uc us pc ls (vI x :: st) S := by
  intro p e R s m args below meth c mc ms C H locs cells slots lr hP hS hc hL
  have k2 := k p e R s m args below meth c mc ms C H locs cells slots lr hP hS hc hL
  simp only [List.map_cons, aV_I]
  exact lv_tableOut C.x C.b hd (by rw [toInt_ofI]; exact h) ht k2
end AWs
