/-! ===== the throw of java/util/NoSuchElementException: its <init>(String) reaches RuntimeException's by index 13. The walk of the constructor follows the library's theorem for index 7 (BundleOwnThrow), the row vx_throwS the kit's ===== -/
theorem tn_0 : decode prog_30_method_4_code 0 = .ok (.aload_n 0, 1) := by decide +kernel
theorem tn_1 : decode prog_30_method_4_code 1 = .ok (.aload_n 1, 1) := by decide +kernel
theorem tn_2 : decode prog_30_method_4_code 2 = .ok (.invokespecial 13, 3) := by decide +kernel
theorem tn_5 : decode prog_30_method_4_code 5 = .ok (.return_, 1) := by decide +kernel
def nsE : String := "java/util/NoSuchElementException"
def nsA : List Cond := Bundle.passSAtoms nsE "java/lang/RuntimeException" 13 prog_30_method_4_code ++ Bundle.chainSAtoms "java/lang/RuntimeException" ["java/lang/Exception"]
def nsX : List Cond := Bundle.throwableAtoms ++ Bundle.throwableSAtoms ++ nsA
def nsW (own : String) (ic : Nat) : List Cond := nsX ++ (Cond.methodLink own ic (Bundle.initS nsE) :: thrB nsE)
theorem nsW_T {own : String} {ic : Nat} {w : Cond} (h : w ∈ Bundle.throwableAtoms) : w ∈ nsW own ic := List.mem_append_left _ (List.mem_append_left _ (List.mem_append_left _ h))
theorem nsW_S {own : String} {ic : Nat} {w : Cond} (h : w ∈ Bundle.throwableSAtoms) : w ∈ nsW own ic := List.mem_append_left _ (List.mem_append_left _ (List.mem_append_right _ h))
theorem nsW_A {own : String} {ic : Nat} {w : Cond} (h : w ∈ nsA) : w ∈ nsW own ic := List.mem_append_left _ (List.mem_append_right _ h)
theorem nsW_B {own : String} {ic : Nat} {w : Cond} (h : w ∈ thrB nsE) : w ∈ nsW own ic := List.mem_append_right _ (List.mem_cons_of_mem _ h)
theorem nsW_L {own : String} {ic : Nat} : Cond.methodLink own ic (Bundle.initS nsE) ∈ nsW own ic := List.mem_append_right _ List.mem_cons_self
theorem nsW_I {own : String} {ic : Nat} : Cond.instanceMethod (Bundle.initS nsE) ∈ nsW own ic := nsW_A (List.mem_append_left _ List.mem_cons_self)
theorem nsW_C {own : String} {ic : Nat} : Cond.code (Bundle.initS nsE) prog_30_method_4_code 2 none ∈ nsW own ic := nsW_A (List.mem_append_left _ (List.mem_cons_of_mem _ List.mem_cons_self))
theorem ns_fit : Bundle.fit nsE = true := by decide +kernel
theorem nsB_at {w : Cond} (i : Nat) (h : (thrB nsE)[i]? = some w) : w ∈ thrB nsE := List.mem_of_getElem? h
section Nsee
theorem ns_chain {args : Array Value} {s : State} {pl : Platform} (hpl : pl.magicAccessors = ({} : Platform).magicAccessors) {top : MethodId} (htop : s.methodNamed? (Bundle.initS Bundle.tN) = some top) (h : ∀ w ∈ nsA, w.before args s = true) :
    ∃ (P1 : PassC) (Ps : List PassC), Ps.length = 2 ∧ P1.LinksS pl s ∧ (∀ P, P ∈ Ps → P.LinksS pl s) ∧ s.methodNamed? (Bundle.initS nsE) = some P1.m ∧ P1.sup = firstOf top (Ps.map (·.toPassT)) ∧ PassesOn top (Ps.map (·.toPassT)) := by
  obtain ⟨P, L, hm, hs⟩ := PassC.ofS_atoms (args := args) (s := s) hpl (X := nsE) (Y := "java/lang/RuntimeException") (by decide +kernel) (by decide) tn_0 tn_1 tn_2 tn_5 (fun c hc => h c (List.mem_append_left _ hc))
  obtain ⟨P', Ps, hlen, L', hL, hm', hsup, hpass⟩ := Bundle.chainS (args := args) hpl htop ["java/lang/Exception"] "java/lang/RuntimeException" (by decide +kernel) (by decide +kernel) (fun c hc => h c (List.mem_append_right _ hc))
  refine ⟨P, P' :: Ps, by rw [List.length_cons, hlen]; rfl, L, fun Q hQ => ?_, hm, Option.some.inj (hs.symm.trans hm'), hsup, hpass⟩
  rcases List.mem_cons.mp hQ with rfl | hQ
  · exact L'
  · exact hL Q hQ
variable {p : Program} {l : Launch} {e : Env} {R : Room} {s : State} {m₀ : MethodId} {args : Array Value} {below : List Frame} {meth : Method} {c : Code} {W0 : State} {locs : List Loc} {cells slots : Nat}
set_option maxHeartbeats 2000000 in
theorem ns_ctor (X : Stand p l e R s m₀ args below meth c W0 locs cells slots) (hexec : p.tables.exec = Jvm.exec) (htr : e.platform.stackTraces = false) {own : String} {ic : Nat}
    (hown : s.vm.findClass own = some m₀.cls) (h : ∀ a ∈ nsW own ic, a.before args s = true)
    (hlocs : ∀ x ∈ locs, ∀ cell, s.heap[x.base]? = some cell → cell.vm.isStatics = false)
    {a : Addr} {cX : ClassId} {kX : Class} (hfoundX : s.vm.findClass nsE = some cX) (hkX : s.vm.classes[cX]? = some kX) (hcell : W0.heap[a]? = some (freshCell cX kX)) (hnew : s.heap.size ≤ a)
    {msg : Value} (hmsg : msg.isRef = true)
    {g : JFrame} (hg : g.method = m₀) (hsize : g.locals.size = c.maxLocals) (hlocked : g.locked = none) (hentered : g.entered = []) {rest : List Value} (hstack : g.stack = msg :: .ref a :: .ref a :: rest)
    (hd6 : decode c.code g.pc = .ok (.invokespecial ic, 3)) (hd9 : decode c.code (g.pc + 3) = .ok (.athrow, 1)) (hout : ∀ x ∈ c.exceptionTable.toList, covers x (g.pc + 3) = false)
    (hRframes : 5 < R.frames) (hRlocals : 2 * g.monitorRoom + ((Value.ref a :: rest).map fun v => v.category).sum + 81 ≤ R.locals) (hlocks : meth.locks = false) :
    ∃ U : State, Steps p.tables e below (W0.setTop g) U ∧ U.status = .running ∧ Ended U below (.threw a) ∧ s.WarmedH U.vm ∧ s.sameButNew ({ U with vm := s.vm } : State) locs cells slots ∧
      ∃ ce, U.heap[a]? = some ce ∧ s.vm.findClass nsE = some ce.cls ∧ ce.vm = .none := by
  have howns : e.platform.frameOwnsMonitors = true := by rw [X.admits.platform]
  have hfin : e.platform.finalization = false := by rw [X.admits.platform]
  have hpl : e.platform.magicAccessors = ({} : Platform).magicAccessors := by rw [X.admits.platform]
  have a' : ∀ x, x ∈ nsW own ic → x.holds args s none s [] = true := fun x hx => h x hx
  have aB : ∀ (i : Nat) (x : Cond), (thrB nsE)[i]? = some x → x.holds args s none s [] = true := fun i x hx => a' x (nsW_B (nsB_at i hx))
  obtain ⟨T, Z0, L, -, Y⟩ := ThrowableC.of_atoms (args := args) howns hfin hpl (fun x hx => h x (nsW_T hx))
  obtain ⟨Z, M, LZ, LM, hnZ⟩ := Init0T.ofS_atoms (args := args) hpl L Y (fun x hx => h x (nsW_S hx))
  obtain ⟨P1, Ps, hlen, L1, hL, hP1m, hlink1, hlink⟩ := ns_chain (args := args) hpl hnZ (fun x hx => h x (nsW_A hx))
  have hfound : s.vm.findClass nsE = some P1.m.cls := findClass_of_methodNamed hP1m
  cases Option.some.inj (hfoundX.symm.trans hfound)
  obtain ⟨c1, kX', hc1, hk, hord, -, -, hn6⟩ := Cond.instantiable_spec (aB 0 (.instantiable nsE 6) rfl)
  cases Option.some.inj (hc1.symm.trans hfound)
  cases Option.some.inj (hkX.symm.trans hk)
  have hsel0 : selectMethod e.platform s.vm P1.m.cls T.fill0 = .method T.fill0 := by
    obtain ⟨c2, r2, m2, q1, q2, q3, q4, -⟩ := Cond.selects_spec (aB 2 (.selects nsE Bundle.tFill0 Bundle.tFill0) rfl)
    cases Option.some.inj (q1.symm.trans hfound)
    cases Option.some.inj (q2.symm.trans (State.methodFound?_of_named Y.fill0 (by decide)))
    cases Option.some.inj (q3.symm.trans Y.fill0)
    rw [Launch.admits_selectMethod X.admits]; exact q4
  have hselF : selectMethod e.platform s.vm P1.m.cls T.fill = .method T.fill := by
    obtain ⟨c2, r2, m2, q1, q2, q3, q4, -⟩ := Cond.selects_spec (aB 3 (.selects nsE Bundle.tFill Bundle.tFill) rfl)
    cases Option.some.inj (q1.symm.trans hfound)
    cases Option.some.inj (q2.symm.trans (State.methodFound?_of_named Y.fill (by decide)))
    cases Option.some.inj (q3.symm.trans Y.fill)
    rw [Launch.admits_selectMethod X.admits]; exact q4
  obtain ⟨cellS0, hcS0, hiss⟩ := Y.statics
  obtain ⟨u0, hu0⟩ := Cond.staticRefV Y.unassigned L.unassignedStatic L.statics hcS0 hiss (aB 8 (.isRef (.static Bundle.tN "UNASSIGNED_STACK" Bundle.steD)) rfl)
  obtain ⟨sen, hsen⟩ := Cond.staticRefV Y.sentinel L.sentinelStatic L.statics hcS0 hiss (aB 9 (.isRef (.static Bundle.tN "SUPPRESSED_SENTINEL" Bundle.listD)) rfl)
  obtain ⟨ci198, i198, fB, hk198, hg198, ha198, hsB, -, hnB, htB, hffB⟩ := Cond.ownField (t := .object "java/lang/Object") Y.found L.cls (by decide +kernel) (aB 10 (.fieldLink Bundle.tN 198 Bundle.tN "backtrace" "Ljava/lang/Object;") rfl) (aB 11 (.lays Bundle.tN Bundle.tN "backtrace" "Ljava/lang/Object;") rfl) e.platform hpl
  obtain ⟨cellS, hcS', heS, -, hkeep⟩ := X.same.2.2.2.2.2 T.aS cellS0 hcS0
  have hcellS : W0.heap[T.aS]? = some cellS := hcS'
  have hout' : ∀ i, (⟨T.aS, i⟩ : Loc) ∉ locs := fun i hmem => by
    have := hlocs _ hmem cellS0 hcS0
    rw [hiss] at this; cases this
  have hknownS : cellS.vm ≠ .unknown := by
    rw [heS]; intro hu
    rw [show cellS0.vm = .unknown from hu] at hiss
    cases hiss
  have hneS : T.aS ≠ a := Nat.ne_of_lt (Nat.lt_of_lt_of_le (Array.getElem?_eq_some_iff.mp hcS0).1 hnew)
  obtain ⟨iM, hffM⟩ := Y.msg
  obtain ⟨tyC, dC, hdC, hdnC⟩ := Cond.laysAt hfound hk Y.cause (aB 4 (.lays nsE Bundle.tN "cause" "Ljava/lang/Throwable;") rfl)
  obtain ⟨tyS, dS, hdS, hdnS⟩ := Cond.laysAt hfound hk Y.stack (aB 5 (.lays nsE Bundle.tN "stackTrace" Bundle.steD) rfl)
  obtain ⟨tyP, dP, hdP, hdnP⟩ := Cond.laysAt hfound hk Y.supp (aB 6 (.lays nsE Bundle.tN "suppressedExceptions" Bundle.listD) rfl)
  obtain ⟨tyM, dM, hdM, hdnM⟩ := Cond.laysAt hfound hk hffM (aB 7 (.lays nsE Bundle.tN "detailMessage" "Ljava/lang/String;") rfl)
  obtain ⟨tyB, dB, hdB, hdnB⟩ := Cond.laysAt hfound hk hffB (aB 12 (.lays nsE Bundle.tN "backtrace" "Ljava/lang/Object;") rfl)
  have bC := Cond.laysApart hdB hdC hdnB hdnC (by rw [hnB, Y.causeName]; decide)
  have bS := Cond.laysApart hdB hdS hdnB hdnS (by rw [hnB, Y.stackName]; decide)
  have bP := Cond.laysApart hdB hdP hdnB hdnP (by rw [hnB, Y.suppName]; decide)
  have hskip : SkipFacts T e.platform s (fun u => u) u0 ((preparedCellV T.toThrowableT (freshCell P1.m.cls kX) a u0 sen).withEntry W0.cur) :=
    ⟨{ ci198 := ci198, i198 := i198, fBack := fB }, ⟨hk198, hg198, ha198, hsB⟩, by
      have := fresh_default (c := P1.m.cls) tyB
      rw [htB] at this
      simpa [preparedCellV, Cell.setSlot, Cell.withEntry, Array.getElem?_setIfInBounds, bC, bS, bP, bC.symm, bS.symm, bP.symm, defaultValue] using this, fun _ _ => rfl⟩
  obtain ⟨tm, methC, cdC, kC, vm₁, hnC, -, -, -, -, -, -, -, hW₁, st1⟩ := Steps.initColdS (tb := p.tables) (e := e) (below := below) (s := s) (U := W0) X.here hexec X.warmed hpl hown (t := Bundle.initS nsE) rfl rfl (Bundle.fit_spec ns_fit).2
    (a' _ nsW_L) (h _ nsW_I) (bytes := prog_30_method_4_code) (maxL := 2) (h _ nsW_C)
    (f := g) hg (a := a) (msg := msg) (rest := .ref a :: rest) hstack hd6
  cases Option.some.inj (hnC.symm.trans hP1m)
  have X₁ := X.noted hW₁
  obtain ⟨vm₂, X₂, st2⟩ := X₁.ctorMessageOffV hexec (g := { g with stack := .ref a :: rest }) hg hsize T L Z LZ M LM (P1 :: Ps)
    (fun P hP => by rcases List.mem_cons.mp hP with rfl | hP; exact L1; exact hL P hP) ⟨hlink1, hlink⟩ (u0 := u0) (sen := sen) (self := a) hmsg (cell := freshCell P1.m.cls kX) (cellS := cellS)
    hcell (fun _ => by simp) (by simp) rfl rfl hsel0 hselF hcellS hneS hknownS (by rw [hkeep _ (hout' _)]; exact hu0) (by rw [hkeep _ (hout' _)]; exact hsen)
    (Takes.of_laid hk hord tyC (by rw [Y.causeType]; rfl)) (Takes.of_laid hk hord tyS (by rw [Y.stackType]; exact fits_refV_array _ u0)) (Takes.of_laid hk hord tyP (by rw [Y.suppType]; exact fits_refV_object _ sen))
    (Takes.of_laid hk hord tyM (by rw [Y.msgType]; exact fits_refV_object _ ⟨msg, hmsg⟩)) Y.objLocals hskip htr [] hd6
    (by simp only [List.length_cons, hlen]; omega) (by simp only [List.length_cons, hlen]; exact hRlocals)
  obtain ⟨hwalk, hrun, hended, hWU, hsame⟩ := X₂.athrowLeaves hexec (g := { g with stack := .ref a :: rest, pc := g.pc + 3 }) hg hlocked hentered hout (a := a) (rest := rest) rfl hd9
  have hlt : a < ((W0.setVm vm₁).setVm vm₂).heap.size := (Array.getElem?_eq_some_iff.mp hcell).1
  have hU := heapAt_setCell_self (s := (W0.setVm vm₁).setVm vm₂) (plainBareV T.toThrowableT (freshCell P1.m.cls kX) a u0 sen msg) hlt
  refine ⟨_, st1 _ (fun acts => ?_), hrun, hended, hWU, hsame.weaken (fun y hy hlt' => ?_) (Nat.le_refl _) (Nat.le_refl _), _, hU, hfound, rfl⟩
  · rw [doInvoke_state]
    exact st2 _ hwalk
  · rcases List.mem_append.mp hy with h1 | h1
    · exact h1
    · exfalso
      have hb : y.base = a := by
        simp only [List.mem_cons, List.not_mem_nil, or_false] at h1
        rcases h1 with rfl | rfl | rfl | rfl | rfl <;> rfl
      rw [hb] at hlt'
      exact Nat.not_lt.mpr hnew hlt'
end Nsee
section NseeW
variable {p : Program} {l : Launch} {e : Env} {R : Room} {s : State} {m : MethodId} {args : Array Value} {below : List Frame} {meth : Method} {c : Code} {H : Heap} {locs : List Loc} {cells slots : Nat}
variable {free : Addr → Prop} {ls : Array Slot} {rest : List Value} {Qc : Array Value → State → Outcome → State → Prop} {XC : String → State → State → Prop}
theorem ns_throw {cc : ByteArray} {pc q : Nat} (hexec : p.tables.exec = Jvm.exec) (hb : c.code = cc) (hl : l.stackTraces = false) {own text : String} {ik is ic mc ms sa : Nat} {A : Nat → Prop}
    (hown : s.vm.findClass own = some m.cls)
    (hk : (Cond.classLink own ik nsE).before args s = true) (hini : (Cond.initialized nsE).before args s = true) (hstr : vk_R own is text sa s) (hat : ∀ w ∈ (nsW own ic).filter vx_no, w.before args s = true)
    (hgood : ∀ w ∈ Cond.classLink own ik nsE :: Cond.initialized nsE :: (nsW own ic).filter vx_no, vx_ot w = true)
    (hU : vx_Zq Bundle.tN "UNASSIGNED_STACK" Bundle.steD A s s.heap) (hN : vx_Zq Bundle.tN "SUPPRESSED_SENTINEL" Bundle.listD A s s.heap) (hS : va_S A s.heap H locs) (hsize : ls.size = c.maxLocals)
    (d0 : decode cc pc = .ok (.new ik, 3)) (d3 : decode cc (pc + 3) = .ok (.dup, 1)) (d4 : (q = pc + 6 ∧ decode cc (pc + 4) = .ok (.ldc is, 2)) ∨ (q = pc + 7 ∧ decode cc (pc + 4) = .ok (.ldc_w is, 3))) (d6 : decode cc q = .ok (.invokespecial ic, 3)) (d9 : decode cc (q + 3) = .ok (.athrow, 1))
    (hout : ∀ x ∈ c.exceptionTable.toList, covers x (q + 3) = false)
    (hRframes : 5 < R.frames) (hRlocals : (rest.map fun v => v.category).sum + 82 ≤ R.locals) (hRcells : cells + 1 ≤ R.cells) (hRslots : slots + 6 ≤ R.slots) (hlocks : meth.locks = false)
    (hx : ∀ t : State, s.vm.Alike t.vm → H.size ≤ t.heap.size → (∀ q : Nat, q < H.size → t.heap[q]? = H[q]?) → XC nsE s t)
    (hf : ∀ z ∈ locs, free z.base) (hc : cells + 1 ≤ mc) (hs : slots + 6 ≤ ms) :
    W p l e R s m args below meth c H locs cells slots (vx_MQ below Qc XC args s mc ms free) (F0 m pc ls rest) := by
  intro T hT X
  have htr : e.platform.stackTraces = false := (show e.platform.stackTraces = l.stackTraces by rw [X.admits.platform]).trans hl
  have Y := vx_rebase X (R' := { frames := R.frames, locals := R.locals, cells := 1, slots := 6 }) (Nat.le_refl _) (Nat.le_refl _) hRcells hRslots
  obtain ⟨s', hA⟩ : ∃ z, z = (T.setVm s.vm).setFrames (.invoking m args :: below) := ⟨_, rfl⟩
  rw [← hA] at Y
  have hvm : s'.vm = s.vm := by rw [hA]; rfl
  have hhp : s'.heap = H := by rw [hA]; exact hT
  have hW0 : s.WarmedH s'.vm := by rw [hvm]; exact State.WarmedH.refl s
  have hat' : ∀ w ∈ (nsW own ic).filter vx_no, w.before args s' = true := fun w hw => vx_ot_at hW0 hvm.symm (hgood w (List.mem_cons_of_mem _ (List.mem_cons_of_mem _ hw))) (hat w hw)
  have hk' : (Cond.classLink own ik nsE).before args s' = true := vx_ot_at hW0 hvm.symm (hgood _ List.mem_cons_self) hk
  have hini' : (Cond.initialized nsE).before args s' = true := vx_ot_at hW0 hvm.symm (hgood _ (List.mem_cons_of_mem _ List.mem_cons_self)) hini
  have hU' : vx_Zq Bundle.tN "UNASSIGNED_STACK" Bundle.steD A s' s'.heap := by rw [hhp]; exact vx_Zq.moved hW0.alike (hU.kept hS.2.1)
  have hN' : vx_Zq Bundle.tN "SUPPRESSED_SENTINEL" Bundle.listD A s' s'.heap := by rw [hhp]; exact vx_Zq.moved hW0.alike (hN.kept hS.2.1)
  have h : ∀ w ∈ nsW own ic, w.before args s' = true := vx_own hat' (vx_isRefq hU'.1) (vx_isRefq hN'.1) hU'.2.word hN'.2.word
  have hown' : s'.vm.findClass own = some m.cls := by rw [hvm]; exact hown
  have hins : (Cond.instantiable nsE 6).before args s' = true := h _ (nsW_B (nsB_at 0 rfl))
  obtain ⟨vm₁, cX, kX, hfX, hkX, -, -, X₁, st1⟩ := Y.newCold hexec (own := own) (C := nsE) (index := ik) (n := 6) hown' hk' hins hini'
    (g := F0 m pc ls rest) rfl (by rw [hb]; exact d0) (Nat.le_refl _) (Nat.le_refl _)
  generalize hT1 : (T.setVm vm₁).pushCell { cls := cX, slots := kX.instanceTypes.map defaultValue, vm := .none } = T1 at X₁ st1
  have hcat : (Value.ref T.heap.size).category = 1 := rfl
  have hcellA : T1.heap[T.heap.size]? = some (freshCell cX kX) := by rw [← hT1]; exact State.heap_pushCell_size _ _
  have d3' : decode c.code (pc + 3) = .ok (.dup, 1) := by rw [hb]; exact d3
  have hstr' : vk_R own is text sa s' := vk_R.warm hW0 hstr
  obtain ⟨U, hsteps, hrun, hend, hW, hsame, ce, hce, hOc, hOv⟩ := ns_ctor X₁ hexec htr (own := own) (ic := ic) hown' h (fun x hx => nomatch hx) hfX hkX hcellA (by rw [hhp, hT]; exact Nat.le_refl _) (msg := .ref sa) rfl
    (g := { method := m, pc := q, locals := ls, stack := .ref sa :: .ref T.heap.size :: .ref T.heap.size :: rest, locked := none }) rfl hsize rfl rfl (rest := rest) rfl
    (by rw [hb]; exact d6) (by rw [hb]; exact d9) hout hRframes (by simp only [List.map_cons, List.sum_cons, hcat]; show 2 * 0 + _ + _ ≤ _; omega) hlocks
  obtain ⟨f1, f2⟩ := vx_frame hsame
  rw [hhp] at f1 f2
  have hWs : s.WarmedH U.vm := State.WarmedH.trans hW0 hW
  have hcl : s.vm.findClass nsE = some ce.cls := by rw [hvm] at hOc; exact hOc
  have hall : s.sameButNew ({ U with vm := s.vm } : State) locs mc ms := by
    subst hA
    obtain ⟨e1, e2⟩ := hsame
    rw [State.setFrames_setFrames] at e1
    have h2 : (T.setVm s.vm).sameButNew ({ U with vm := s.vm } : State) [] (0 + 1) (0 + 6) := ⟨e1, e2⟩
    have h3 := X.same.trans h2
    rw [List.append_nil] at h3
    exact h3.mono hc hs
  refine ⟨U, ?_, .threw T.heap.size, hrun, hend, Or.inr ⟨T.heap.size, rfl, nsE, ce, locs, hx U hWs.alike f1 (fun q hq => f2 q hq (fun z hz => nomatch hz)), hce, hOv, hcl, hWs, hall, hf⟩⟩
  refine st1 _ ?_
  show Steps p.tables e below (T1.setTop { method := m, pc := pc + 3, locals := ls, stack := .ref T.heap.size :: rest, locked := none }) _
  jvm_step X₁.here [X₁.here.top, hexec, d3', Value.category]
  rcases d4 with ⟨rfl, d4⟩ | ⟨rfl, d4⟩
  · have d4' : decode c.code (pc + 4) = .ok (.ldc is, 2) := by rw [hb]; exact d4
    exact X₁.ldcString hexec (own := own) (text := text) (index := is) (a := sa) hown' hstr'.1 hstr'.2
      (g := { method := m, pc := pc + 4, locals := ls, stack := .ref T.heap.size :: .ref T.heap.size :: rest, locked := none }) rfl d4' _ hsteps
  · have d4' : decode c.code (pc + 4) = .ok (.ldc_w is, 3) := by rw [hb]; exact d4
    exact X₁.ldcStringW hexec (own := own) (text := text) (index := is) (a := sa) hown' hstr'.1 hstr'.2
      (g := { method := m, pc := pc + 4, locals := ls, stack := .ref T.heap.size :: .ref T.heap.size :: rest, locked := none }) rfl d4' _ hsteps
end NseeW
theorem ns_words {own : String} {ic : Nat} : ∀ w ∈ (nsW own ic).filter vx_no, w = .methodLink own ic (Bundle.initS nsE) ∨ w ∈ WT ∨ w ∈ WN := by
  intro w hw
  obtain ⟨h1, h2⟩ := List.mem_filter.mp hw
  have k : ∀ w ∈ (nsX ++ thrB nsE).filter vx_no, w ∈ WT ∨ w ∈ WN := wt_or [18, 845, 854, 859, 862, 864, 846, 847, 32, 33, 848, 853, 860, 880, 835, 881, 837, 882, 839, 849, 851, 841, 876, 877, 879, 841, 1069, 1070, 1071, 870, 827, 870, 871, 872, 873, 829, 873, 874, 875, 876, 831, 1059, 1060, 1061, 858, 1062, 1063, 1064, 1065, 844, 843, 1066] (by decide +kernel) (by decide +kernel)
  rcases List.mem_append.mp h1 with h | h
  · exact Or.inr (k w (List.mem_filter.mpr ⟨List.mem_append_left _ h, h2⟩))
  · rcases List.mem_cons.mp h with h | h
    · exact Or.inl h
    · exact Or.inr (k w (List.mem_filter.mpr ⟨List.mem_append_right _ h, h2⟩))
section NseeA
variable {Γ : GA} {M : MT} {d : Nat} {o0 : Nat × Int} {S0 S : AS} {uc us pc q : Nat} {ls : List (Option AV)} {st : List AV}
theorem AW.throw3g {ik is ic j : Nat} {tx : String} (hL9 : Cond.classLink M.1.cls ik nsE ∈ WT) (hN : Cond.initialized nsE ∈ WT) (hj : strT[j]? = some (M.1.cls, is, tx)) (hM : Cond.methodLink M.1.cls ic (Bundle.initS nsE) ∈ WT)
    (d0 : decode M.2.1 pc = .ok (.new ik, 3)) (d3 : decode M.2.1 (pc + 3) = .ok (.dup, 1)) (d4 : (q = pc + 6 ∧ decode M.2.1 (pc + 4) = .ok (.ldc is, 2)) ∨ (q = pc + 7 ∧ decode M.2.1 (pc + 4) = .ok (.ldc_w is, 3))) (d6 : decode M.2.1 q = .ok (.invokespecial ic, 3)) (d9 : decode M.2.1 (q + 3) = .ok (.athrow, 1))
    (hh : M.2.2.2.2 = []) (hd : 8 ≤ d) (hst : st.length ≤ 4) (ho : o0.1 = 3) (hS0 : S0 = S) (hu1 : 1 ≤ uc) (hu2 : 6 ≤ us) : AW Γ M d o0 S0 uc us pc ls st S := by
  intro p e R s m args below meth c mc ms C H locs cells slots lr hP hS hc hL
  subst hS0
  have hrm := C.rm
  have h2 := aV_sum (Γ := Γ) st
  refine ns_throw C.x C.b C.f C.o (C.w _ hL9) (C.w _ hN) (C.q.2.1 j _ hj) (fun w hw => ?_) (fun w hw => ?_) C.q.2.2.2.1.1 C.q.2.2.2.1.2.1 hS (by rw [C.l]; exact hL.1) d0 d3 d4 d6 d9 (fun x hx => ?_) (by omega) (by omega) (by omega) (by omega) C.k (fun t hW hz hq => ⟨⟨by rw [ho]; exact Nat.succ_pos 2, by rw [ho]; rfl, ?_⟩, ?_⟩) hS.2.2 (by omega) (by omega)
  · rcases ns_words w hw with rfl | h | h
    · exact C.w _ hM
    · exact C.w _ h
    · exact wn_before C h
  · rcases List.mem_cons.mp hw with rfl | hw
    · exact wt_ot hL9
    · rcases List.mem_cons.mp hw with rfl | hw
      · exact wt_ot hN
      · rcases ns_words w hw with rfl | h | h
        · exact wt_ot hM
        · exact wt_ot h
        · exact wn_ot h
  · rw [C.t, hh] at hx; cases hx
  · exact ⟨fun k2 q2 hk2 => (hP.1 k2 q2 hk2).kept (hq _ ((hP.1 k2 q2 hk2).lt)), Nat.le_trans hP.2 hz⟩
  · exact ⟨Nat.le_trans hS.1 hz, fun q g1 g2 => (hq q (Nat.lt_of_lt_of_le g1 hS.1)).trans (hS.2.1 q g1 g2)⟩
theorem AW.throw3 {ik is ic j : Nat} {tx : String} (hL9 : Cond.classLink M.1.cls ik nsE ∈ WT) (hN : Cond.initialized nsE ∈ WT) (hj : strT[j]? = some (M.1.cls, is, tx)) (hM : Cond.methodLink M.1.cls ic (Bundle.initS nsE) ∈ WT)
    (d0 : decode M.2.1 pc = .ok (.new ik, 3)) (d3 : decode M.2.1 (pc + 3) = .ok (.dup, 1)) (d4 : decode M.2.1 (pc + 4) = .ok (.ldc is, 2)) (d6 : decode M.2.1 (pc + 6) = .ok (.invokespecial ic, 3)) (d9 : decode M.2.1 (pc + 9) = .ok (.athrow, 1))
    (hh : M.2.2.2.2 = []) (hd : 8 ≤ d) (hst : st.length ≤ 4) (ho : o0.1 = 3) (hS0 : S0 = S) (hu1 : 1 ≤ uc) (hu2 : 6 ≤ us) : AW Γ M d o0 S0 uc us pc ls st S :=
  AW.throw3g (q := pc + 6) hL9 hN hj hM d0 d3 (Or.inl ⟨rfl, d4⟩) d6 d9 hh hd hst ho hS0 hu1 hu2
theorem AW.throw3W {ik is ic j : Nat} {tx : String} (hL9 : Cond.classLink M.1.cls ik nsE ∈ WT) (hN : Cond.initialized nsE ∈ WT) (hj : strT[j]? = some (M.1.cls, is, tx)) (hM : Cond.methodLink M.1.cls ic (Bundle.initS nsE) ∈ WT)
    (d0 : decode M.2.1 pc = .ok (.new ik, 3)) (d3 : decode M.2.1 (pc + 3) = .ok (.dup, 1)) (d4 : decode M.2.1 (pc + 4) = .ok (.ldc_w is, 3)) (d6 : decode M.2.1 (pc + 7) = .ok (.invokespecial ic, 3)) (d9 : decode M.2.1 (pc + 10) = .ok (.athrow, 1))
    (hh : M.2.2.2.2 = []) (hd : 8 ≤ d) (hst : st.length ≤ 4) (ho : o0.1 = 3) (hS0 : S0 = S) (hu1 : 1 ≤ uc) (hu2 : 6 ≤ us) : AW Γ M d o0 S0 uc us pc ls st S :=
  AW.throw3g (q := pc + 7) hL9 hN hj hM d0 d3 (Or.inr ⟨rfl, d4⟩) d6 d9 hh hd hst ho hS0 hu1 hu2
end NseeA
