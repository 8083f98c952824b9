/-! ===== CALLS, RETURNS, A METHOD'S START ===== -/
section AWc
variable {Γ : GA} {M M' : MT} {d d' mc' ms' : Nat} {o0 o1 : Nat × Int} {S0 S1 S : AS} {uc us uc' us' pc n idx : Nat} {ls : List (Option AV)} {st as : List AV}
theorem aV_cat2 (v : AV) : (aV Γ v).category ≤ 2 := by
  rcases lv_cat (aV Γ v) with h | h <;> omega
theorem aV_sum : ∀ (l : List AV), ((l.map (aV Γ)).map fun v => v.category).sum ≤ 2 * l.length
  | [] => by simp
  | v :: l => by
    have h := aV_sum l
    have h2 := aV_cat2 (Γ := Γ) v
    simp only [List.map_cons, List.sum_cons, List.length_cons] at h ⊢
    omega
theorem aCode_nil (h : M'.2.2.2.2 = []) : aCode M' = Cond.code M'.1 M'.2.1 M'.2.2.1 M'.2.2.2.1 := by
  unfold aCode; rw [h]
theorem gin {pre : List Cond} (h : ∀ w ∈ pre, w ∈ WT) (hC : aCode M' ∈ WT) : GoodIn WT (pre ++ aWs M') := by
  have h2 : ∀ w ∈ pre ++ aWs M', w ∈ WT := by
    intro w hw
    rcases List.mem_append.mp hw with q | q
    · exact h w q
    · rcases List.mem_cons.mp q with rfl | q
      · exact hC
      · exact q
  exact fun w hw => ⟨h2 w hw, wt_good (h2 w hw)⟩
theorem ginW (hC : aCode M' ∈ WT) : GoodIn WT (aWs M') := gin (pre := []) (fun _ h => nomatch h) hC
theorem in4 {a b c e : Cond} (h1 : a ∈ WT) (h2 : b ∈ WT) (h3 : c ∈ WT) (h4 : e ∈ WT) : ∀ w ∈ ([a, b, c, e] : List Cond), w ∈ WT := by
  intro w hw
  simp only [List.mem_cons, List.not_mem_nil, or_false] at hw
  rcases hw with rfl | rfl | rfl | rfl <;> assumption
theorem in3 {a b c : Cond} (h1 : a ∈ WT) (h2 : b ∈ WT) (h3 : c ∈ WT) : ∀ w ∈ ([a, b, c] : List Cond), w ∈ WT := by
  intro w hw
  simp only [List.mem_cons, List.not_mem_nil, or_false] at hw
  rcases hw with rfl | rfl | rfl <;> assumption
/-- where a call that returns or throws leads -/
theorem AW.run (hr : ∀ (p : Program) (e : Env) (R : Room) (s : State) (m : MethodId) (args : Array Value) (below : List Frame) (meth : Method) (c : Code), aCx Γ M d p R s m args meth c → ∀ (H : Heap) (locs : List Loc) (cells slots : Nat) (lr : Array Slot), aP Γ S H → va_S (aA Γ) s.heap H locs → (cells + mc' ≤ R.cells ∧ slots + ms' ≤ R.slots) → lr.size = M.2.2.1 → (S.1 < 85 → H.size = gO Γ + S.1) →
      ∃ (rest0 : List Value) (a0 : Array Value), rest0 = st.map (aV Γ) ∧ vx_Run p (gl Γ) e R s m args below meth c H locs cells slots mc' ms' (F0 m pc lr (as.map (aV Γ))) rest0 (aQc Γ M'.2.2.2.1 o1 S1 a0) (aXc Γ o1 S1) (aA Γ))
    (hmc : S1.1 < 85 → S.1 < 85 ∧ S.1 + mc' = S1.1) (hu1 : mc' + uc' ≤ uc) (hu2 : ms' + us' ≤ us) (hn : pc + 3 = n)
    (k0 : o1.1 = 0 → AW Γ M d o0 S0 uc' us' n ls (rS M'.2.2.2.1 o1.2 ++ st) S1)
    (kx : 0 < o1.1 → AX Γ M d o0 S0 uc' us' pc ls o1.1 S1) : AW Γ M d o0 S0 uc us pc ls as S := by
  intro p e R s m args below meth c mc ms C H locs cells slots lr hP hS hc hL
  subst hn
  intro T hT X
  have hsz : S.1 < 85 → H.size = gO Γ + S.1 := fun h => by
    have q1 := X.heapSize
    have q2 := hc.2.2.2.2 h
    have q3 := hP.2
    rw [hT] at q1
    omega
  have hE : S1.1 < 85 → s.heap.size + (cells + mc') = gO Γ + S1.1 := fun h => by
    have q1 := hmc h
    have q2 := hc.2.2.2.2 q1.1
    omega
  obtain ⟨rest0, a0, rfl, run⟩ := hr p e R s m args below meth c C H locs cells slots lr hP hS ⟨by omega, by omega⟩ hL.1 hsz
  rcases run T hT X with ⟨v, st0, t, T', L, h0, X', hL', e1, e2, ⟨⟨hv, hz, hp⟩, hF⟩, hgo⟩ | ⟨q, st0, t, T', L, E, ce, h0, X', hL', e1, e2, ⟨⟨hz, hEx, hp⟩, hF⟩, hce, hcv, hcl, hst⟩
  · obtain ⟨-, -, hS'⟩ := vx_keep h0 e1 hS (fun q _ h => h) (fun q h => h) hL' hF
    have k2 := k0 hz p e R s m args below meth c mc ms C T'.heap (locs ++ L) (cells + mc') (slots + ms') lr (by rw [e1]; exact hp) hS' ⟨by omega, by omega, hc.2.2.1, hc.2.2.2.1, hE⟩ hL
    obtain ⟨t2, a1, b1⟩ := k2 T' rfl X'
    refine ⟨t2, hgo t2 ?_, b1⟩
    cases hv
    rw [List.map_append, ← rV_S] at a1
    exact a1
  · obtain ⟨-, -, hS'⟩ := vx_keep h0 e1 hS (fun q _ h => h) (fun q h => h) hL' hF
    subst hEx
    have k2 := kx hz p e R s m args below meth c mc ms C T'.heap (locs ++ L) (cells + mc') (slots + ms') lr q ce (st.map (aV Γ)) (by rw [e1]; exact hp) hS' ⟨by omega, by omega, hc.2.2.1, hc.2.2.2.1, hE⟩ hL (by rw [e1]; exact hce) hcv hcl
    obtain ⟨t2, a1, b1⟩ := k2 T' rfl X'
    exact ⟨t2, hst.trans a1, b1⟩
/-- a callee's size and answer -/
def fitM (M' : MT) (n : Nat) : Prop := M'.1.cls ≠ "java/lang/invoke/MethodHandle" ∧ M'.1.cls ≠ "java/lang/invoke/VarHandle" ∧ (parseMethodDescriptor M'.1.desc).map (fun d => d.parameters.length) = some n
theorem aB_of {p R s m args meth c} {H : Heap} {locs : List Loc} {U : State} (C : aCx Γ M d p R s m args meth c) (hP : aP Γ S H) (hS : va_S (aA Γ) s.heap H locs) (hU : U.heap = H) (hW : s.WarmedH U.vm) (hz : S.1 < 85 → H.size = gO Γ + S.1) : aB Γ S U :=
  ⟨by rw [hU]; exact hP.1, by rw [hU]; exact hP.2, va_K.moved hW.alike C.K, C.q.go hW (fun q h1 h2 => by rw [hU]; exact hS.2.1 q h1 h2), by rw [hU]; exact hz⟩
theorem AW.callV {k c N : Nat} {T : u_T} (hM : AM Γ M' d' mc' ms' (vR k :: as) S o1 S1) (hly : ly k = (c, N)) (hk : k < S.1) (hcl : vwCl[c]? = some (M'.1.cls, T, N)) (hc20 : c < 20)
    (hl : Cond.methodLink M.1.cls idx M'.1 ∈ WT) (hI : Cond.instanceMethod M'.1 ∈ WT) (hS9 : Cond.selects M'.1.cls M'.1 M'.1 ∈ WT) (hN : Cond.initialized M'.1.cls ∈ WT) (hC : aCode M' ∈ WT) (hh : M'.2.2.2.2 = []) (hfit : fitM M' as.length) (hml : M'.2.2.1 ≤ 45) (hd' : d' + 1 ≤ d) (hst : st.length ≤ 4)
    (hd : decode M.2.1 pc = .ok (.invokevirtual idx, 3)) (hn : pc + 3 = n) (hmc : S1.1 < 85 → S.1 < 85 ∧ S.1 + mc' = S1.1) (hu1 : mc' + uc' ≤ uc) (hu2 : ms' + us' ≤ us)
    (k0 : o1.1 = 0 → AW Γ M d o0 S0 uc' us' n ls (rS M'.2.2.2.1 o1.2 ++ st) S1) (kx : 0 < o1.1 → AX Γ M d o0 S0 uc' us' pc ls o1.1 S1) : AW Γ M d o0 S0 uc us pc ls (as.reverse ++ vR k :: st) S := by
  refine AW.run (M' := M') (o1 := o1) (S1 := S1) (fun p e R s m args below meth c9 C H locs cells slots lr hP hS hc hls hsz => ?_) hmc hu1 hu2 hn k0 kx
  have hat := aW_at Γ S hk
  rw [aE_obj Γ S.1 S.2 hly hc20] at hat
  have hrm := C.rm
  refine ⟨_, (Value.ref (gO Γ + k) :: as.map (aV Γ)).toArray, rfl, vx_runV (As := as.map (aV Γ)) (b := gO Γ + k) ⟨C.x, C.b, C.l, C.o, C.w⟩ hM
    (cwV as.length C.w (gin (in4 hl hI hS9 hN) hC) (by rw [aWs, aCode_nil hh]) rfl rfl ⟨rfl, hfit.1, hfit.2.1, hfit.2.2⟩ ⟨by show d' + 1 ≤ R.frames; omega, by show 8 + (M'.2.2.1 + 11) + 64 * d' ≤ R.locals; omega⟩)
    ⟨aB_blind Γ S _, va_recv C.K hP.1 hcl hat, fun U hU hW => ⟨by rw [List.map_cons, aV_R], aB_of C hP hS hU hW hsz⟩⟩ rfl (by simp) hls (by simp [List.map_append, aV_R]) (lv_room (Nat.le_trans (aV_sum st) (by omega))) (by rw [← C.b] at hd; rw [← C.b]; exact hd) hc⟩
theorem AW.callO {j : Nat} (hM : AM Γ M' d' mc' ms' (vO j :: as) S o1 S1) (hj : j < strN) (hcl : M'.1.cls = "java/lang/String")
    (hl : Cond.methodLink M.1.cls idx M'.1 ∈ WT) (hI : Cond.instanceMethod M'.1 ∈ WT) (hS9 : Cond.selects M'.1.cls M'.1 M'.1 ∈ WT) (hN : Cond.initialized M'.1.cls ∈ WT) (hC : aCode M' ∈ WT) (hh : M'.2.2.2.2 = []) (hfit : fitM M' as.length) (hml : M'.2.2.1 ≤ 45) (hd' : d' + 1 ≤ d) (hst : st.length ≤ 4)
    (hd : decode M.2.1 pc = .ok (.invokevirtual idx, 3)) (hn : pc + 3 = n) (hmc : S1.1 < 85 → S.1 < 85 ∧ S.1 + mc' = S1.1) (hu1 : mc' + uc' ≤ uc) (hu2 : ms' + us' ≤ us)
    (k0 : o1.1 = 0 → AW Γ M d o0 S0 uc' us' n ls (rS M'.2.2.2.1 o1.2 ++ st) S1) (kx : 0 < o1.1 → AX Γ M d o0 S0 uc' us' pc ls o1.1 S1) : AW Γ M d o0 S0 uc us pc ls (as.reverse ++ vO j :: st) S := by
  refine AW.run (M' := M') (o1 := o1) (S1 := S1) (fun p e R s m args below meth c9 C H locs cells slots lr hP hS hc hls hsz => ?_) hmc hu1 hu2 hn k0 kx
  have hrm := C.rm
  obtain ⟨cell, q1, q2, q3, -⟩ := (C.q.2.2.1 j hj).1.kept hS.2.1
  refine ⟨_, (Value.ref (gS Γ j) :: as.map (aV Γ)).toArray, rfl, vx_runV (As := as.map (aV Γ)) (b := gS Γ j) ⟨C.x, C.b, C.l, C.o, C.w⟩ hM
    (cwV as.length C.w (gin (in4 hl hI hS9 hN) hC) (by rw [aWs, aCode_nil hh]) rfl rfl ⟨rfl, hfit.1, hfit.2.1, hfit.2.2⟩ ⟨by show d' + 1 ≤ R.frames; omega, by show 8 + (M'.2.2.1 + 11) + 64 * d' ≤ R.locals; omega⟩)
    ⟨aB_blind Γ S _, ⟨cell, q1, q2, by rw [hcl]; exact q3⟩, fun U hU hW => ⟨by rw [List.map_cons, aV_O], aB_of C hP hS hU hW hsz⟩⟩ rfl (by simp) hls (by simp [List.map_append, aV_O]) (lv_room (Nat.le_trans (aV_sum st) (by omega))) (by rw [← C.b] at hd; rw [← C.b]; exact hd) hc⟩
theorem AW.callS (hM : AM Γ M' d' mc' ms' as S o1 S1) (hcl : M'.1.cls = M.1.cls)
    (hl : Cond.methodLink M.1.cls idx M'.1 ∈ WT) (hI : Cond.static M'.1 ∈ WT) (hN : Cond.initialized M.1.cls ∈ WT) (hC : aCode M' ∈ WT) (hh : M'.2.2.2.2 = []) (hfit : fitM M' as.length) (hml : M'.2.2.1 ≤ 45) (hd' : d' + 1 ≤ d) (hst : st.length ≤ 4)
    (hd : decode M.2.1 pc = .ok (.invokestatic idx, 3)) (hn : pc + 3 = n) (hmc : S1.1 < 85 → S.1 < 85 ∧ S.1 + mc' = S1.1) (hu1 : mc' + uc' ≤ uc) (hu2 : ms' + us' ≤ us)
    (k0 : o1.1 = 0 → AW Γ M d o0 S0 uc' us' n ls (rS M'.2.2.2.1 o1.2 ++ st) S1) (kx : 0 < o1.1 → AX Γ M d o0 S0 uc' us' pc ls o1.1 S1) : AW Γ M d o0 S0 uc us pc ls (as.reverse ++ st) S := by
  refine AW.run (M' := M') (o1 := o1) (S1 := S1) (fun p e R s m args below meth c9 C H locs cells slots lr hP hS hc hls hsz => ?_) hmc hu1 hu2 hn k0 kx
  have hrm := C.rm
  refine ⟨_, (as.map (aV Γ)).toArray, rfl, vx_runS (As := as.map (aV Γ)) ⟨C.x, C.b, C.l, C.o, C.w⟩ hM
    (cwS as.length C.w (gin (in3 hl hI hN) hC) (by rw [aWs, aCode_nil hh]) rfl rfl ⟨hcl, hfit.1, hfit.2.1, hfit.2.2⟩ ⟨by show d' + 1 ≤ R.frames; omega, by show 8 + (M'.2.2.1 + 11) + 64 * d' ≤ R.locals; omega⟩)
    ⟨aB_blind Γ S _, fun U hU hW => ⟨rfl, aB_of C hP hS hU hW hsz⟩⟩ rfl (by simp) hls (by simp [List.map_append]) (lv_room (Nat.le_trans (aV_sum st) (by omega))) (by rw [← C.b] at hd; rw [← C.b]; exact hd) hc⟩
/-! returns -/
theorem AW.iret {v : Int} {S : AS} (hr : M.2.2.2.1 = some .int) (ho : o0 = (0, v)) (hS0 : S0 = S) (hd : decode M.2.1 pc = .ok (.ireturn, 1)) : AW Γ M d o0 S0 uc us pc ls [vI v] S := by
  intro p e R s m args below meth c mc ms C H locs cells slots lr hP hS hc hL
  subst ho; subst hS0
  refine W.widen (k := mc) (n := ms) (by omega) (by omega) ?_
  refine vx_ret ?_
  exact W.iret (v := Int32.ofInt v) C.x C.b (by rw [C.r, hr]) (fun t ht hW => ⟨⟨by rw [hr]; rfl, rfl, by rw [ht]; exact hP⟩, hS.F ht⟩) hS.2.2 hd C.k
theorem AW.lret {v : Int} {S : AS} (hr : M.2.2.2.1 = some .long) (ho : o0 = (0, v)) (hS0 : S0 = S) (hd : decode M.2.1 pc = .ok (.lreturn, 1)) : AW Γ M d o0 S0 uc us pc ls [vL v] S := by
  intro p e R s m args below meth c mc ms C H locs cells slots lr hP hS hc hL
  subst ho; subst hS0
  refine W.widen (k := mc) (n := ms) (by omega) (by omega) ?_
  refine vx_ret ?_
  exact W.lret (v := Int64.ofInt v) C.x C.b (by rw [C.r, hr]) (fun t ht hW => ⟨⟨by rw [hr]; rfl, rfl, by rw [ht]; exact hP⟩, hS.F ht⟩) hS.2.2 hd C.k
theorem AW.vret {S : AS} (hr : M.2.2.2.1 = none) (ho : o0 = (0, 0)) (hS0 : S0 = S) (hd : decode M.2.1 pc = .ok (.return_, 1)) : AW Γ M d o0 S0 uc us pc ls [] S := by
  intro p e R s m args below meth c mc ms C H locs cells slots lr hP hS hc hL
  subst ho; subst hS0
  refine W.widen (k := mc) (n := ms) (by omega) (by omega) ?_
  refine vx_ret ?_
  exact W.vret C.x C.b (by rw [C.r, hr]) (fun t ht hW => ⟨⟨by rw [hr]; rfl, rfl, by rw [ht]; exact hP⟩, hS.F ht⟩) hS.2.2 hd C.k
theorem W_bret {p : Program} {l : Launch} {e : Env} {R : Room} {s : State} {m : MethodId} {args : Array Value} {below : List Frame} {meth : Method} {c : Code} {H : Heap} {locs : List Loc} {cells slots : Nat} {cc : ByteArray} {Qc : Array Value → State → Outcome → State → Prop} {free : Addr → Prop} {v w : Int32} {ty : FieldType} (hexec : p.tables.exec = Jvm.exec) (hb : c.code = cc) (hr : meth.sig.returnType = some ty) (hn : narrow ty (.int v) = .int w)
    (hq : ∀ t : State, t.heap = H → s.WarmedH t.vm → Qc args s (.returned (some (.int w))) t) (hf : ∀ q ∈ locs, free q.base)
    {pc : Nat} {ls : Array Slot} (hdg : decode cc pc = .ok (.ireturn, 1)) (hlocks : meth.locks = false) : W p l e R s m args below meth c H locs cells slots (MQ below Qc args s cells slots free) (F0 m pc ls [.int v]) := by
  intro T hT X
  obtain ⟨fs, hret, hrun, hended, hW, hframe⟩ := X.leave (v := some (.int w)) (hlocks := hlocks) (fun h => by rw [hr] at h; cases h)
  have hmeth' : T.vm.method? m = some meth := X.method'
  refine ⟨T.setFrames fs, ?_, .returned (some (.int w)), hrun, hended, hq _ hT hW, locs, ⟨⟨_, rfl⟩, hW, hframe⟩, hf⟩
  jvm_step X.here [X.here.top, hexec, hb, hdg, hmeth', hr, hn]
  (try refine ⟨rfl, ?_⟩); (try refine ⟨rfl, ?_⟩)
  first | (intro acts; rw [hret _ acts rfl rfl rfl]) | rw [hret _ _ rfl rfl rfl]
  exact Steps.refl _
theorem AW.zret {v w : Int} {S : AS} (hr : M.2.2.2.1 = some .boolean) (hw : wZ v = w) (ho : o0 = (0, w)) (hS0 : S0 = S) (hd : decode M.2.1 pc = .ok (.ireturn, 1)) : AW Γ M d o0 S0 uc us pc ls [vI v] S := by
  intro p e R s m args below meth c mc ms C H locs cells slots lr hP hS hc hL
  subst hw; subst ho; subst hS0
  refine W.widen (k := mc) (n := ms) (by omega) (by omega) ?_
  refine vx_ret ?_
  exact W_bret (v := Int32.ofInt v) (w := Int32.ofInt (wZ v)) C.x C.b (by rw [C.r, hr]) (by rw [show Int32.ofInt (wZ v) = vp_nar .boolean (Int32.ofInt v) from ofI_toInt _]; rfl) (fun t ht hW => ⟨⟨by rw [hr]; rfl, rfl, by rw [ht]; exact hP⟩, hS.F ht⟩) hS.2.2 hd C.k
/-! a method's start -/
def aEnt : List AV → List (Option AV)
  | [] => []
  | (1, x) :: l => some (1, x) :: none :: aEnt l
  | v :: l => some v :: aEnt l
theorem aEnt_mem : ∀ (as : List AV) (o i : Nat) (v : AV), (aEnt as)[i]? = some (some v) → (o + i, aV Γ v) ∈ lv_args o (as.map (aV Γ))
  | [], o, i, v, h => by simp [aEnt] at h
  | (1, x) :: l, o, 0, v, h => by
    simp only [aEnt, List.getElem?_cons_zero, Option.some.injEq] at h
    subst h
    exact List.mem_cons_self
  | (1, x) :: l, o, 1, v, h => by simp [aEnt] at h
  | (1, x) :: l, o, i + 2, v, h => by
    simp only [aEnt, List.getElem?_cons_succ] at h
    have h2 := aEnt_mem l (o + 2) i v h
    refine List.mem_cons_of_mem _ ?_
    show (o + (i + 2), aV Γ v) ∈ lv_args (if (aV Γ (1, x)).category = 2 then o + 2 else o + 1) (l.map (aV Γ))
    rw [if_pos (show (aV Γ (1, x)).category = 2 from rfl), show o + (i + 2) = o + 2 + i by omega]
    exact h2
  | (0, x) :: l, o, 0, v, h | (2, x) :: l, o, 0, v, h | (m + 3, x) :: l, o, 0, v, h => by
    simp only [aEnt, List.getElem?_cons_zero, Option.some.injEq] at h
    subst h
    exact List.mem_cons_self
  | (0, x) :: l, o, i + 1, v, h | (2, x) :: l, o, i + 1, v, h | (m + 3, x) :: l, o, i + 1, v, h => by
    simp only [aEnt, List.getElem?_cons_succ] at h
    have h2 := aEnt_mem l (o + 1) i v h
    refine List.mem_cons_of_mem _ ?_
    first
      | (show (o + (i + 1), aV Γ v) ∈ lv_args (if (aV Γ (0, x)).category = 2 then o + 2 else o + 1) (l.map (aV Γ))
         rw [if_neg (fun q => by have := aV_cat q; cases this), show o + (i + 1) = o + 1 + i by omega]
         exact h2)
      | (show (o + (i + 1), aV Γ v) ∈ lv_args (if (aV Γ (2, x)).category = 2 then o + 2 else o + 1) (l.map (aV Γ))
         rw [if_neg (fun q => by have := aV_cat q; cases this), show o + (i + 1) = o + 1 + i by omega]
         exact h2)
      | (show (o + (i + 1), aV Γ v) ∈ lv_args (if (aV Γ (m + 3, x)).category = 2 then o + 2 else o + 1) (l.map (aV Γ))
         rw [if_neg (fun q => by have := aV_cat q; cases this), show o + (i + 1) = o + 1 + i by omega]
         exact h2)
theorem aEnt_len : ∀ (as : List AV), (lg_sl (as.map (aV Γ))).length ≤ (aEnt as).length
  | [] => by simp [lg_sl, aEnt]
  | (1, x) :: l => by
    have h := aEnt_len l
    simp only [lg_sl, List.map_cons, List.flatMap_cons, aEnt, List.length_append, List.length_cons] at h ⊢
    have : (if (aV Γ (1, x)).category = 2 then [Slot.val (aV Γ (1, x)), .second] else [.val (aV Γ (1, x))]).length ≤ 2 := by split <;> simp
    omega
  | (0, x) :: l | (2, x) :: l | (m + 3, x) :: l => by
    have h := aEnt_len l
    simp only [lg_sl, List.map_cons, List.flatMap_cons, aEnt, List.length_append, List.length_cons] at h ⊢
    rw [if_neg (fun q => by have := aV_cat q; cases this)]
    simp only [List.length_cons, List.length_nil]
    omega
theorem AM.of {mc ms : Nat} (hf : plainName M.1.cls = true) (hh : M.2.2.2.2 = []) (hI : aCode M ∈ WT) (hlen : (aEnt as).length ≤ M.2.2.1) (hst : (gl Γ).stackTraces = false)
    (k : AW Γ M d o0 S0 mc ms 0 (aEnt as) [] S) : AM Γ M d mc ms as S o0 S0 := by
  refine vx_ofW (cc := M.2.1) (maxL := M.2.2.1) (ret := M.2.2.2.1) hf (by rw [aWs, aCode_nil hh]) ?_
  intro p e s m args below meth c s₁ B hml ht hv
  obtain ⟨rfl, hP, hz, hK, hok, hsz⟩ := hv
  have hts0 := atoms_spec (ws := aWs M) B.pre
  have hts : ∀ w ∈ WT, w.before (as.map (aV Γ)).toArray s = true := fun w hw => hts0 w (List.mem_cons_of_mem _ hw)
  have hl := lv_entry (as.map (aV Γ)) (n := M.2.2.1) (Nat.le_trans (aEnt_len (Γ := Γ) as) hlen)
  rw [lg_entry_eq]
  refine k p e _ s m _ below meth c mc ms ⟨⟨B.exec, B.bytes, hml, B.returns, findClass_of_methodNamed B.named, B.notSynchronized, ?_, fun hi => ?_⟩, ⟨hts, hK, hok, by omega, hst⟩, Nat.le_refl _, Nat.le_refl _⟩ s.heap [] 0 0 _ ⟨hP, hz⟩ va_S.rf ⟨by omega, by omega, Nat.le_refl _, Nat.le_refl _, fun h => by have := hsz h; omega⟩ ⟨hl.1, hl.2.1, fun q hq => hl.2.2 q ?_⟩
  · rw [hh]
    show c.exceptionTable.toList = []
    cases hq : c.exceptionTable.toList with
    | nil => rfl
    | cons a b => exact (ht a (by rw [hq]; exact List.mem_cons_self)).elim
  · have h9 := (name_of_methodNamed B.named B.method).1
    rw [h9]; exact hi
  · obtain ⟨v, h1, h2⟩ := aLl_mem.mp hq
    have h3 := aEnt_mem (Γ := Γ) as 0 q.1 v h1
    rw [Nat.zero_add, ← h2] at h3
    exact h3
end AWc
