/-! ===== CONSTRUCTORS, NEW CELLS, TEXTS, MATH, THROWS ===== -/
section AWm
variable {Γ : GA} {M M' : MT} {d d' mc' ms' : Nat} {o0 o1 : Nat × Int} {S0 S1 S : AS} {uc us uc' us' pc n idx : Nat} {ls : List (Option AV)} {st as : List AV} {nc : Nat} {σ : SG}
theorem AW.callI {k c N : Nat} {T : u_T} (hM : AM Γ M' d' mc' ms' (vR k :: as) S o1 S1)
    (hl : Cond.methodLink M.1.cls idx M'.1 ∈ WT) (hI : Cond.instanceMethod M'.1 ∈ WT) (hN : Cond.initialized M'.1.cls ∈ WT) (hC : aCode M' ∈ WT) (hh : M'.2.2.2.2 = []) (hret : M'.2.2.2.1 = none) (hini : M'.1.name = "<init>") (hfit : fitM M' as.length) (hml : M'.2.2.1 ≤ 45) (hd' : d' + 1 ≤ d) (hst : st.length ≤ 4)
    (hd : decode M.2.1 pc = .ok (.invokespecial idx, 3)) (hn : pc + 3 = n) (hmc : S1.1 < 85 → S.1 < 85 ∧ S.1 + mc' = S1.1) (hu1 : mc' + uc' ≤ uc) (hu2 : ms' + us' ≤ us)
    (k0 : o1.1 = 0 → AW Γ M d o0 S0 uc' us' n ls (rS M'.2.2.2.1 o1.2 ++ st) S1) (kx : 0 < o1.1 → AX Γ M d o0 S0 uc' us' pc ls o1.1 S1) : AW Γ M d o0 S0 uc us pc ls (as.reverse ++ vR k :: st) S := by
  refine AW.run (M' := M') (o1 := o1) (S1 := S1) (fun p e R s m args below meth c9 C H locs cells slots lr hP hS hc hls hsz => ?_) hmc hu1 hu2 hn k0 kx
  have hrm := C.rm
  have hco := aCode_nil hh
  rw [hret] at hco
  refine ⟨_, (Value.ref (gO Γ + k) :: as.map (aV Γ)).toArray, rfl, vx_runI (As := as.map (aV Γ)) (b := gO Γ + k) ⟨C.x, C.b, C.l, C.o, C.w⟩ hM
    (cwI as.length C.w (ginW hC) (by rw [aWs, hco]) rfl rfl (C.w _ hN) (C.w _ hl) (C.w _ hI) hini ⟨hfit.1, hfit.2.1, hfit.2.2⟩ ⟨by show d' + 1 ≤ R.frames; omega, by show 8 + (M'.2.2.1 + 11) + 64 * d' ≤ R.locals; omega⟩)
    ⟨aB_blind Γ S _, fun U hU hW => ⟨by rw [List.map_cons, aV_R], aB_of C hP hS hU hW hsz⟩⟩ rfl (by simp) hls (by simp [List.map_append, aV_R]) (lv_room (Nat.le_trans (aV_sum st) (by omega))) (by rw [← C.b] at hd; rw [← C.b]; exact hd) hc⟩
theorem AW.callN {k c N : Nat} {T : u_T} {host : String} (hM : AM Γ M' d' mc' ms' (vR k :: as) S o1 S1)
    (hl : Cond.methodLinkNest M.1.cls idx M'.1 host ∈ WN) (hI : Cond.instanceMethod M'.1 ∈ WT) (hN : Cond.initialized M'.1.cls ∈ WT) (hC : aCode M' ∈ WT) (hh : M'.2.2.2.2 = []) (hret : M'.2.2.2.1 = none) (hini : M'.1.name = "<init>") (hfit : fitM M' as.length) (hml : M'.2.2.1 ≤ 45) (hd' : d' + 1 ≤ d) (hst : st.length ≤ 4)
    (hd : decode M.2.1 pc = .ok (.invokespecial idx, 3)) (hn : pc + 3 = n) (hmc : S1.1 < 85 → S.1 < 85 ∧ S.1 + mc' = S1.1) (hu1 : mc' + uc' ≤ uc) (hu2 : ms' + us' ≤ us)
    (k0 : o1.1 = 0 → AW Γ M d o0 S0 uc' us' n ls (rS M'.2.2.2.1 o1.2 ++ st) S1) (kx : 0 < o1.1 → AX Γ M d o0 S0 uc' us' pc ls o1.1 S1) : AW Γ M d o0 S0 uc us pc ls (as.reverse ++ vR k :: st) S := by
  refine AW.run (M' := M') (o1 := o1) (S1 := S1) (fun p e R s m args below meth c9 C H locs cells slots lr hP hS hc hls hsz => ?_) hmc hu1 hu2 hn k0 kx
  have hrm := C.rm
  have hco := aCode_nil hh
  rw [hret] at hco
  refine ⟨_, (Value.ref (gO Γ + k) :: as.map (aV Γ)).toArray, rfl, vx_runIN (As := as.map (aV Γ)) (b := gO Γ + k) ⟨C.x, C.b, C.l, C.o, C.w⟩ hM
    ⟨va_cnB as.length C.w (ginW hC) (by rw [aWs, hco]) rfl rfl (C.q.2.2.2.2.1 _ hl) (C.w _ hN) ⟨hfit.1, hfit.2.1, hfit.2.2⟩ ⟨by show d' + 1 ≤ R.frames; omega, by show 8 + (M'.2.2.1 + 11) + 64 * d' ≤ R.locals; omega⟩, hini, C.w _ hI⟩
    ⟨aB_blind Γ S _, fun U hU hW => ⟨by rw [List.map_cons, aV_R], aB_of C hP hS hU hW hsz⟩⟩ rfl (by simp) hls (by simp [List.map_append, aV_R]) (lv_room (Nat.le_trans (aV_sum st) (by omega))) (by rw [← C.b] at hd; rw [← C.b]; exact hd) hc⟩
theorem AW.objInit {k : Nat} (hl : Cond.methodLink M.1.cls idx Lib.objectInit ∈ WT) (hI : Cond.instanceMethod Lib.objectInit ∈ WT) (hC : Cond.code Lib.objectInit ⟨#[0xb1]⟩ 1 none ∈ WT) (hd1 : 1 ≤ d) (hst : st.length ≤ 4) (hd : decode M.2.1 pc = .ok (.invokespecial idx, 3)) (hn : pc + 3 = n)
    (kk : AW Γ M d o0 S0 uc us n ls st S) : AW Γ M d o0 S0 uc us pc ls (vR k :: st) S := by
  intro p e R s m args below meth c mc ms C H locs cells slots lr hP hS hc hL
  subst hn
  have hrm := C.rm
  have h2 := aV_sum (Γ := Γ) st
  have k2 := kk p e R s m args below meth c mc ms C H locs cells slots lr hP hS hc hL
  simp only [List.map_cons, aV_R]
  refine W.objInit C.x C.b C.o (C.w _ hl) (C.w _ hI) (C.w _ hC) rfl (by rw [C.l]; exact hL.1) rfl hd (by omega) (by show 2 * 0 + ((st.map (aV Γ)).map fun v => v.category).sum + 12 ≤ R.locals; omega) ?_
  exact k2
/-! new cells -/
theorem W_sz {p : Program} {l : Launch} {e : Env} {R : Room} {s : State} {m : MethodId} {args : Array Value} {below : List Frame} {meth : Method} {c : Code} {H : Heap} {locs : List Loc} {cells slots : Nat} {Q : State → Prop} {g : JFrame} (h : H.size ≤ s.heap.size + cells → W p l e R s m args below meth c H locs cells slots Q g) : W p l e R s m args below meth c H locs cells slots Q g := by
  intro T hT X
  exact h (by rw [← hT]; exact X.heapSize) T hT X
theorem aE_n {Γ : GA} {n n' : Nat} (σ : SG) (h1 : n < 85) (h2 : n' < 85) : aE Γ n σ = aE Γ n' σ := by
  funext k
  have e : ∀ c, aF Γ n σ c k = aF Γ n' σ c k := fun c => funext fun j => by
    unfold aF
    rw [if_neg (by omega), if_neg (by omega)]
  unfold aE
  simp only [e]
/-- an object's slots when it is new -/
def nwO (σ : SG) (n c : Nat) : SG := fun a b => if a = n then (if fk c b = 2 then -1 else 0) else σ a b
def nwA (σ : SG) (n : Nat) (x : Int) : SG := fun a b => if a = n then x else σ a b
theorem aE_else {Γ : GA} {n k : Nat} {σ σ' : SG} (h : σ' k = σ k) : aE Γ n σ' k = aE Γ n σ k := by
  have e : ∀ c, aF Γ n σ' c k = aF Γ n σ c k := fun c => funext fun j => by unfold aF; rw [h]
  unfold aE
  simp only [e, h]
/-- one cell more -/
theorem aP_new {σ' : SG} {H H1 : Heap} (h1 : nc + 1 < 85) (hP : aP Γ (nc, σ) H) (hz : H.size = gO Γ + nc) (z1 : H1.size = H.size + 1) (o1 : ∀ q, q < H.size → H1[q]? = H[q]?) (hσ : ∀ k, k < nc → σ' k = σ k) (hat : va_at (gD Γ) vwCl (gO Γ + nc, aE Γ (nc + 1) σ' nc) H1) : aP Γ (nc + 1, σ') H1 := by
  refine ⟨fun k q hk => ?_, by show gO Γ + (nc + 1) ≤ H1.size; omega⟩
  have hk1 : k < nc + 1 := by
    have := (List.getElem?_eq_some_iff.mp hk).1
    simpa [aW] using this
  rw [aW_at Γ (nc + 1, σ') hk1] at hk
  cases hk
  by_cases hkn : k = nc
  · subst hkn; exact hat
  · have hlt : k < nc := by omega
    have h8 := hP.1 k _ (aW_at Γ (nc, σ) hlt)
    have e1 : aE Γ (nc + 1) σ' k = aE Γ nc σ k := by rw [aE_else (hσ k hlt), aE_n σ (n := nc + 1) (n' := nc) h1 (by omega)]
    show va_at (gD Γ) vwCl (gO Γ + k, aE Γ (nc + 1) σ' k) H1
    rw [e1]
    exact h8.kept (o1 _ (by show gO Γ + k < H.size; omega))
theorem AW.new {c N j : Nat} {C nm ds : String} {fin : Bool} (hf : FF c N j C nm ds fin) (hly : ly nc = (c, N)) (hnc : nc + 1 < 85) (hcl : Cond.classLink M.1.cls idx C ∈ WT) (hins : Cond.instantiable C N ∈ WT) (hini : Cond.initialized C ∈ WT) (hty : ∀ j, j < N → defaultValue (tyA c j) = aV Γ (fk c j, if fk c j = 2 then -1 else 0)) (hd : decode M.2.1 pc = .ok (.new idx, 3)) (hn : pc + 3 = n) (hu1 : 1 + uc' ≤ uc) (hu2 : N + us' ≤ us)
    (kk : AW Γ M d o0 S0 uc' us' n ls (vR nc :: st) (nc + 1, nwO σ nc c)) : AW Γ M d o0 S0 uc us pc ls st (nc, σ) := by
  intro p e R s m args below meth c9 mc ms C9 H locs cells slots lr hP hS hc hL
  subst hn
  refine W_sz (fun hsz => ?_)
  have hz : H.size = gO Γ + nc := by
    have q1 : s.heap.size + cells = gO Γ + nc := hc.2.2.2.2 (show nc < 85 by omega)
    have q2 : gO Γ + nc ≤ H.size := hP.2
    omega
  obtain ⟨T, h1, h2, h3, h4, h5, h6, h7⟩ := hf
  have hKn := C9.K.1 c _ h1
  refine W.newcK C9.x C9.b C9.o (C9.w _ hcl) (C9.w _ hins) (C9.w _ hini) rfl hd (by omega) (by omega) hKn.2.1 hz fun H1 kC hkC e1 z1 o1 => ?_
  have e1' : H1[gO Γ + nc]? = some (blank _ kC) := e1
  have hob := (u_born (tyA c) C9.w h2 hKn hkC e1' h5)
  have k2 := kk p e R s m args below meth c9 mc ms C9 H1 locs (cells + 1) (slots + N) lr (aP_new (σ' := nwO σ nc c) hnc hP hz (by rw [z1, hz]) (fun q hq => o1 q (by omega)) (fun k hk => funext fun b => if_neg (by omega)) ?_)
    ⟨Nat.le_trans hS.1 (by omega), fun q g1 g2 => (o1 q (by have := hS.1; omega)).trans (hS.2.1 q g1 g2), hS.2.2⟩ ⟨by omega, by omega, hc.2.2.1, hc.2.2.2.1, fun _ => by have q1 : s.heap.size + cells = gO Γ + nc := hc.2.2.2.2 (show nc < 85 by omega); show s.heap.size + (cells + 1) = gO Γ + (nc + 1); omega⟩ hL
  · simp only [List.map_cons, aV_R] at k2
    exact k2
  · rw [aE_obj Γ (nc + 1) _ hly h7]
    refine ⟨_, h1, hob.to (fun j hj => ?_)⟩
    show defaultValue (tyA c j) = vp_V ((List.range N).map (aF Γ (nc + 1) (nwO σ nc c) c nc)) j
    rw [hty j hj]
    unfold vp_V
    rw [List.getD_eq_getElem?_getD, aF_at Γ (nc + 1) (nwO σ nc c) c nc N hj]
    show _ = aF Γ (nc + 1) (nwO σ nc c) c nc j
    unfold aF
    rw [if_neg (show ¬ nc + 1 = 85 by omega)]
    show _ = aV Γ (fk c j, nwO σ nc c nc j)
    rw [show nwO σ nc c nc j = if fk c j = 2 then -1 else 0 from if_pos rfl]
theorem AW.newa {at9 : ArrayType} {ty : FieldType} {x : Int} {N : Nat} {e0 : va_E} {t0 : Nat} (hty : newarray.typeOf at9 = ty) (hw : Cond.arrayClass (newarray.typeOf at9) ∈ WT) (hN : w32 x = (N : Int)) (hb : N * componentBytes ty ≤ 536870912) (hnc : nc + 1 < 85)
    (ht0 : ∃ cA, (gT Γ)[t0]? = some (cA, ty) ∧ ∀ H1 : Heap, H1[gO Γ + nc]? = some (arrV cA N (fun _ => defaultValue ty)) → va_at (gD Γ) vwCl (gO Γ + nc, aE Γ (nc + 1) (nwA σ nc 0) nc) H1) (hnm : ∀ C, ty ≠ .object C) (hd : decode M.2.1 pc = .ok (.newarray at9, 2)) (hn : pc + 2 = n) (hu1 : 1 + uc' ≤ uc) (hu2 : N + us' ≤ us)
    (kk : AW Γ M d o0 S0 uc' us' n ls (vR nc :: st) (nc + 1, nwA σ nc 0)) : AW Γ M d o0 S0 uc us pc ls (vI x :: st) (nc, σ) := by
  intro p e R s m args below meth c9 mc ms C9 H locs cells slots lr hP hS hc hL
  subst hn
  refine W_sz (fun hsz => ?_)
  have hz : H.size = gO Γ + nc := by
    have q1 : s.heap.size + cells = gO Γ + nc := hc.2.2.2.2 (show nc < 85 by omega)
    have q2 : gO Γ + nc ≤ H.size := hP.2
    omega
  have hx0 : ¬ Int32.ofInt x < 0 := fun q => by have := ofI_lt0.mp q; omega
  have hxN : (Int32.ofInt x).toNatClampNeg = N := by rw [clamp_ofI (by omega), hN]; rfl
  obtain ⟨cA, hA, hat⟩ := ht0
  simp only [List.map_cons, aV_I]
  refine va_newaK C9.x C9.b (C9.w _ hw) rfl hd rfl hx0 hxN (by rw [hty]; exact hb) (by omega) (by omega) hz fun H1 cB e1 z1 o1 hAr hNm => ?_
  have hcA : cB = cA := by
    have h9 := (C9.K.2 t0 _ hA).2
    have h10 : s.vm.findClass ("[" ++ ty.toString) = some cA := by
      cases ty with
      | object C => exact absurd rfl (hnm C)
      | _ => exact h9
    rw [hty, h10] at hNm
    exact (Option.some.inj hNm).symm
  subst hcA
  rw [hty] at e1
  have k2 := kk p e R s m args below meth c9 mc ms C9 H1 locs (cells + 1) (slots + N) lr (aP_new (σ' := nwA σ nc 0) hnc hP hz (by rw [z1, hz]) (fun q hq => o1 q (by omega)) (fun k hk => funext fun b => if_neg (by omega)) (hat H1 e1))
    ⟨Nat.le_trans hS.1 (by omega), fun q g1 g2 => (o1 q (by have := hS.1; omega)).trans (hS.2.1 q g1 g2), hS.2.2⟩ ⟨by omega, by omega, hc.2.2.1, hc.2.2.2.1, fun _ => by have q1 : s.heap.size + cells = gO Γ + nc := hc.2.2.2.2 (show nc < 85 by omega); show s.heap.size + (cells + 1) = gO Γ + (nc + 1); omega⟩ hL
  simp only [List.map_cons, aV_R] at k2
  exact k2
/-! texts -/
theorem AW.ldcS {j : Nat} {tx : String} (hj : strT[j]? = some (M.1.cls, idx, tx)) (hd : decode M.2.1 pc = .ok (.ldc idx, 2)) (hn : pc + 2 = n) (kk : AW Γ M d o0 S0 uc us n ls (vO j :: st) S) : AW Γ M d o0 S0 uc us pc ls st S := by
  intro p e R s m args below meth c mc ms C H locs cells slots lr hP hS hc hL
  subst hn
  have k2 := kk p e R s m args below meth c mc ms C H locs cells slots lr hP hS hc hL
  simp only [List.map_cons, aV_O] at k2 ⊢
  exact va_ldcS C.x C.b C.o (C.q.2.1 j _ hj) hd k2
theorem AW.ldcSW {j : Nat} {tx : String} (hj : strT[j]? = some (M.1.cls, idx, tx)) (hd : decode M.2.1 pc = .ok (.ldc_w idx, 3)) (hn : pc + 3 = n) (kk : AW Γ M d o0 S0 uc us n ls (vO j :: st) S) : AW Γ M d o0 S0 uc us pc ls st S := by
  intro p e R s m args below meth c mc ms C H locs cells slots lr hP hS hc hL
  subst hn
  have k2 := kk p e R s m args below meth c mc ms C H locs cells slots lr hP hS hc hL
  simp only [List.map_cons, aV_O] at k2 ⊢
  have hZ := C.q.2.1 j _ hj
  intro T hT X
  obtain ⟨t, a1, b1⟩ := k2 T hT X
  exact ⟨t, X.ldcStringW C.x C.o (text := tx) (a := gS Γ j) hZ.1 hZ.2 (g := F0 m pc lr (st.map (aV Γ))) rfl (by rw [C.b]; exact hd) t a1, b1⟩
/-! Math -/
theorem mx_ofI (x y : Int) : (if Int32.ofInt x < Int32.ofInt y then Int32.ofInt y else Int32.ofInt x) = Int32.ofInt (mx32 x y) := by
  unfold mx32
  by_cases h : w32 x < w32 y
  · rw [if_pos h, if_pos (ofI_lt.mpr h)]
  · rw [if_neg h, if_neg (fun q => h (ofI_lt.mp q))]
theorem mn_ofI (x y : Int) : (if Int32.ofInt y < Int32.ofInt x then Int32.ofInt y else Int32.ofInt x) = Int32.ofInt (mn32 x y) := by
  unfold mn32
  by_cases h : w32 y < w32 x
  · rw [if_pos h, if_pos (ofI_lt.mpr h)]
  · rw [if_neg h, if_neg (fun q => h (ofI_lt.mp q))]
theorem ab_ofI (x : Int) : (if 0 ≤ Int32.ofInt x then Int32.ofInt x else 0 - Int32.ofInt x) = Int32.ofInt (ab32 x) := by
  unfold ab32
  by_cases h : 0 ≤ w32 x
  · rw [if_pos h, if_pos (ofI_ge0.mpr h)]
  · rw [if_neg h, if_neg (fun q => h (ofI_ge0.mp q)), ← ofI_0, ofI_sub, Int.zero_sub]
theorem mx_ofL (x y : Int) : (if Int64.ofInt y < Int64.ofInt x then Int64.ofInt x else Int64.ofInt y) = Int64.ofInt (mx64 x y) := by
  unfold mx64
  by_cases h : w64 y < w64 x
  · rw [if_pos h, if_pos (ofL_lt.mpr h)]
  · rw [if_neg h, if_neg (fun q => h (ofL_lt.mp q))]
theorem mn_ofL (x y : Int) : (if Int64.ofInt x < Int64.ofInt y then Int64.ofInt x else Int64.ofInt y) = Int64.ofInt (mn64 x y) := by
  unfold mn64
  by_cases h : w64 x < w64 y
  · rw [if_pos h, if_pos (ofL_lt.mpr h)]
  · rw [if_neg h, if_neg (fun q => h (ofL_lt.mp q))]
theorem AW.mmax {x y : Int} (hl : Cond.methodLink M.1.cls idx yJ9_max_7cf53 ∈ WT) (hd1 : 1 ≤ d) (hst : st.length ≤ 20) (hd : decode M.2.1 pc = .ok (.invokestatic idx, 3)) (hn : pc + 3 = n) (kk : AW Γ M d o0 S0 uc us n ls (vI (mx32 x y) :: st) S) : AW Γ M d o0 S0 uc us pc ls (vI y :: vI x :: st) S := by
  intro p e R s m args below meth c mc ms C H locs cells slots lr hP hS hc hL
  subst hn
  have hrm := C.rm
  have h2 := aV_sum (Γ := Γ) st
  have k2 := kk p e R s m args below meth c mc ms C H locs cells slots lr hP hS hc hL
  simp only [List.map_cons, aV_I] at k2 ⊢
  exact va_mmax C.x C.b (by rw [C.l]; exact hL.1.symm) C.o (C.w _ hl) (C.w _ wT_J9_max_7cf53) (C.w _ wN_java_lang_Math) (C.w _ wC_J9_max_7cf53) (by omega) (by omega) (by omega) (by omega) hd (by rw [mx_ofI]; exact k2)
theorem AW.mmin {x y : Int} (hl : Cond.methodLink M.1.cls idx yJ9_min_7cf53 ∈ WT) (hd1 : 1 ≤ d) (hst : st.length ≤ 20) (hd : decode M.2.1 pc = .ok (.invokestatic idx, 3)) (hn : pc + 3 = n) (kk : AW Γ M d o0 S0 uc us n ls (vI (mn32 x y) :: st) S) : AW Γ M d o0 S0 uc us pc ls (vI y :: vI x :: st) S := by
  intro p e R s m args below meth c mc ms C H locs cells slots lr hP hS hc hL
  subst hn
  have hrm := C.rm
  have h2 := aV_sum (Γ := Γ) st
  have k2 := kk p e R s m args below meth c mc ms C H locs cells slots lr hP hS hc hL
  simp only [List.map_cons, aV_I] at k2 ⊢
  exact va_mmin C.x C.b (by rw [C.l]; exact hL.1.symm) C.o (C.w _ hl) (C.w _ wT_J9_min_7cf53) (C.w _ wN_java_lang_Math) (C.w _ wC_J9_min_7cf53) (by omega) (by omega) (by omega) (by omega) hd (by rw [mn_ofI]; exact k2)
theorem AW.mabs {x : Int} (hl : Cond.methodLink M.1.cls idx yJ9_abs_0f7a4 ∈ WT) (hd1 : 1 ≤ d) (hst : st.length ≤ 20) (hd : decode M.2.1 pc = .ok (.invokestatic idx, 3)) (hn : pc + 3 = n) (kk : AW Γ M d o0 S0 uc us n ls (vI (ab32 x) :: st) S) : AW Γ M d o0 S0 uc us pc ls (vI x :: st) S := by
  intro p e R s m args below meth c mc ms C H locs cells slots lr hP hS hc hL
  subst hn
  have hrm := C.rm
  have h2 := aV_sum (Γ := Γ) st
  have k2 := kk p e R s m args below meth c mc ms C H locs cells slots lr hP hS hc hL
  simp only [List.map_cons, aV_I] at k2 ⊢
  exact va_mabs C.x C.b (by rw [C.l]; exact hL.1.symm) C.o (C.w _ hl) (C.w _ wT_J9_abs_0f7a4) (C.w _ wN_java_lang_Math) (C.w _ wC_J9_abs_0f7a4) (by omega) (by omega) (by omega) (by omega) hd (by rw [ab_ofI]; exact k2)
theorem AW.lmax {x y : Int} (hl : Cond.methodLink M.1.cls idx yJ9_max_f86c9 ∈ WT) (hd1 : 1 ≤ d) (hst : st.length ≤ 20) (hd : decode M.2.1 pc = .ok (.invokestatic idx, 3)) (hn : pc + 3 = n) (kk : AW Γ M d o0 S0 uc us n ls (vL (mx64 x y) :: st) S) : AW Γ M d o0 S0 uc us pc ls (vL y :: vL x :: st) S := by
  intro p e R s m args below meth c mc ms C H locs cells slots lr hP hS hc hL
  subst hn
  have hrm := C.rm
  have h2 := aV_sum (Γ := Γ) st
  have k2 := kk p e R s m args below meth c mc ms C H locs cells slots lr hP hS hc hL
  simp only [List.map_cons, aV_L] at k2 ⊢
  exact va_mmax_long C.x C.b (by rw [C.l]; exact hL.1.symm) C.o (C.w _ hl) (C.w _ wT_J9_max_f86c9) (C.w _ wN_java_lang_Math) (C.w _ wC_J9_max_f86c9) (by omega) (by omega) (by omega) (by omega) hd (by rw [mx_ofL]; exact k2)
theorem AW.lmin {x y : Int} (hl : Cond.methodLink M.1.cls idx yJ9_min_f86c9 ∈ WT) (hd1 : 1 ≤ d) (hst : st.length ≤ 20) (hd : decode M.2.1 pc = .ok (.invokestatic idx, 3)) (hn : pc + 3 = n) (kk : AW Γ M d o0 S0 uc us n ls (vL (mn64 y x) :: st) S) : AW Γ M d o0 S0 uc us pc ls (vL y :: vL x :: st) S := by
  intro p e R s m args below meth c mc ms C H locs cells slots lr hP hS hc hL
  subst hn
  have hrm := C.rm
  have h2 := aV_sum (Γ := Γ) st
  have k2 := kk p e R s m args below meth c mc ms C H locs cells slots lr hP hS hc hL
  simp only [List.map_cons, aV_L] at k2 ⊢
  exact va_mmin_long C.x C.b (by rw [C.l]; exact hL.1.symm) C.o (C.w _ hl) (C.w _ wT_J9_min_f86c9) (C.w _ wN_java_lang_Math) (C.w _ wC_J9_min_f86c9) (by omega) (by omega) (by omega) (by omega) hd (by rw [mn_ofL]; exact k2)
/-! throws -/
theorem AX.out {k : Nat} (hh : M.2.2.2.2 = []) (hk : 0 < k) (ho : o0.1 = k) (hS0 : S0 = S) : AX Γ M d o0 S0 uc us pc ls k S := by
  intro p e R s m args below meth c mc ms C H locs cells slots lr q ce rest hP hS hc hL hce hcv hcl
  subst hS0
  refine vx_out (E := exN k) (ce := ce) (fun x hx => ?_) C.k hce hcv hcl (fun t ht hW => ⟨⟨by rw [ho]; exact hk, by rw [ho], by rw [ht]; exact hP⟩, hS.F ht⟩) hS.2.2 (by omega) (by omega)
  rw [C.t, hh] at hx
  cases hx
def exNames : List String := ["java/lang/RuntimeException", "java/lang/Exception"]
/-- the words of a throw -/
def thrW (X : String) : Prop := Bundle.fit X = true ∧ ∀ (own : String) (ic : Nat) (w : Cond), w ∈ vx_atS own ic X exNames → w = .methodLink own ic (Bundle.initS X) ∨ w ∈ WT ∨ w ∈ WN
theorem wn_before {Γ : GA} {M : MT} {d : Nat} {p R s m args meth c} (C : aCx Γ M d p R s m args meth c) {w : Cond} (h : w ∈ WN) : w.before args s = true := by
  have h1 := (List.mem_filter.mp h).2
  simp only [nW, Bool.and_eq_true] at h1
  exact va_tabs h1.1 rfl (C.q.2.2.2.2.1 w h)
theorem wt_ot {w : Cond} (h : w ∈ WT) : vx_ot w = true := by
  unfold vx_ot
  rw [(List.mem_filter.mp h).2, Bool.or_true]
theorem wn_ot {w : Cond} (h : w ∈ WN) : vx_ot w = true := by
  have h1 := (List.mem_filter.mp h).2
  simp only [nW, Bool.and_eq_true] at h1
  unfold vx_ot
  rw [h1.1, Bool.true_or]
theorem AW.throw {k ik is ic j : Nat} {tx : String} (hk : 0 < k) (hX : thrW (exN k)) (hL9 : Cond.classLink M.1.cls ik (exN k) ∈ WT) (hN : Cond.initialized (exN k) ∈ WT) (hj : strT[j]? = some (M.1.cls, is, tx)) (hM : Cond.methodLink M.1.cls ic (Bundle.initS (exN k)) ∈ WT)
    (d0 : decode M.2.1 pc = .ok (.new ik, 3)) (d3 : decode M.2.1 (pc + 3) = .ok (.dup, 1)) (d4 : decode M.2.1 (pc + 4) = .ok (.ldc is, 2)) (d6 : decode M.2.1 (pc + 6) = .ok (.invokespecial ic, 3)) (d9 : decode M.2.1 (pc + 9) = .ok (.athrow, 1))
    (hh : M.2.2.2.2 = []) (hd : 8 ≤ d) (hst : st.length ≤ 4) (ho : o0.1 = k) (hS0 : S0 = S) (hu1 : 1 ≤ uc) (hu2 : 6 ≤ us) : AW Γ M d o0 S0 uc us pc ls st S := by
  intro p e R s m args below meth c mc ms C H locs cells slots lr hP hS hc hL
  subst hS0
  have hrm := C.rm
  have h2 := aV_sum (Γ := Γ) st
  refine vx_throwS (names := exNames) C.x C.b C.f C.o hX.1 (by decide +kernel) (C.w _ hL9) (C.w _ hN) (C.q.2.1 j _ hj) (fun w hw => ?_) (fun w hw => ?_) C.q.2.2.2.1.1 C.q.2.2.2.1.2.1 hS (by rw [C.l]; exact hL.1) d0 d3 d4 d6 d9 (fun x hx => ?_) (by show 2 + 3 < R.frames; omega) (by show _ + (13 * (2 + 1) + 43) ≤ R.locals; omega) (by omega) (by omega) C.k (fun t hW hz hq => ⟨⟨by rw [ho]; exact hk, by rw [ho], ?_⟩, ?_⟩) hS.2.2 (by omega) (by omega)
  · rcases hX.2 _ _ w hw with rfl | h | h
    · exact C.w _ hM
    · exact C.w _ h
    · exact wn_before C h
  · rcases List.mem_cons.mp hw with rfl | hw
    · exact wt_ot hL9
    · rcases List.mem_cons.mp hw with rfl | hw
      · exact wt_ot hN
      · rcases hX.2 _ _ w hw with rfl | h | h
        · exact wt_ot hM
        · exact wt_ot h
        · exact wn_ot h
  · rw [C.t, hh] at hx; cases hx
  · exact ⟨fun k2 q2 hk2 => (hP.1 k2 q2 hk2).kept (hq _ ((hP.1 k2 q2 hk2).lt)), Nat.le_trans hP.2 hz⟩
  · exact ⟨Nat.le_trans hS.1 hz, fun q g1 g2 => (hq q (Nat.lt_of_lt_of_le g1 hS.1)).trans (hS.2.1 q g1 g2)⟩
theorem AW.throwW {k ik is ic j : Nat} {tx : String} (hk : 0 < k) (hX : thrW (exN k)) (hL9 : Cond.classLink M.1.cls ik (exN k) ∈ WT) (hN : Cond.initialized (exN k) ∈ WT) (hj : strT[j]? = some (M.1.cls, is, tx)) (hM : Cond.methodLink M.1.cls ic (Bundle.initS (exN k)) ∈ WT)
    (d0 : decode M.2.1 pc = .ok (.new ik, 3)) (d3 : decode M.2.1 (pc + 3) = .ok (.dup, 1)) (d4 : decode M.2.1 (pc + 4) = .ok (.ldc_w is, 3)) (d7 : decode M.2.1 (pc + 7) = .ok (.invokespecial ic, 3)) (d10 : decode M.2.1 (pc + 10) = .ok (.athrow, 1))
    (hh : M.2.2.2.2 = []) (hd : 8 ≤ d) (hst : st.length ≤ 4) (ho : o0.1 = k) (hS0 : S0 = S) (hu1 : 1 ≤ uc) (hu2 : 6 ≤ us) : AW Γ M d o0 S0 uc us pc ls st S := by
  intro p e R s m args below meth c mc ms C H locs cells slots lr hP hS hc hL
  subst hS0
  have hrm := C.rm
  have h2 := aV_sum (Γ := Γ) st
  refine vx_throwSW (names := exNames) C.x C.b C.f C.o hX.1 (by decide +kernel) (C.w _ hL9) (C.w _ hN) (C.q.2.1 j _ hj) (fun w hw => ?_) (fun w hw => ?_) C.q.2.2.2.1.1 C.q.2.2.2.1.2.1 hS (by rw [C.l]; exact hL.1) d0 d3 d4 d7 d10 (fun x hx => ?_) (by show 2 + 3 < R.frames; omega) (by show _ + (13 * (2 + 1) + 43) ≤ R.locals; omega) (by omega) (by omega) C.k (fun t hW hz hq => ⟨⟨by rw [ho]; exact hk, by rw [ho], ?_⟩, ?_⟩) hS.2.2 (by omega) (by omega)
  · rcases hX.2 _ _ w hw with rfl | h | h
    · exact C.w _ hM
    · exact C.w _ h
    · exact wn_before C h
  · rcases List.mem_cons.mp hw with rfl | hw
    · exact wt_ot hL9
    · rcases List.mem_cons.mp hw with rfl | hw
      · exact wt_ot hN
      · rcases hX.2 _ _ w hw with rfl | h | h
        · exact wt_ot hM
        · exact wt_ot h
        · exact wn_ot h
  · rw [C.t, hh] at hx; cases hx
  · exact ⟨fun k2 q2 hk2 => (hP.1 k2 q2 hk2).kept (hq _ ((hP.1 k2 q2 hk2).lt)), Nat.le_trans hP.2 hz⟩
  · exact ⟨Nat.le_trans hS.1 hz, fun q g1 g2 => (hq q (Nat.lt_of_lt_of_le g1 hS.1)).trans (hS.2.1 q g1 g2)⟩
end AWm
