/-! ===== FIELDS AND ROWS OF THE CELLS ===== -/
theorem aE_obj (Γ : GA) (n : Nat) (σ : SG) {k c N : Nat} (h : ly k = (c, N)) (hc : c < 20) : aE Γ n σ k = .inr (c, (List.range N).map (aF Γ n σ c k)) := by
  unfold aE
  rw [h]
  match c, hc with
  | 0, _ | 1, _ | 2, _ | 3, _ | 4, _ | 5, _ | 6, _ | 7, _ | 8, _ | 9, _ | 10, _ | 11, _ | 12, _ | 13, _ | 14, _ | 15, _ | 16, _ | 17, _ | 18, _ | 19, _ => rfl
  | m + 20, q => exact absurd q (by omega)
theorem aE_20 (Γ : GA) (n : Nat) (σ : SG) {k N : Nat} (h : ly k = (20, N)) : aE Γ n σ k = .inl (gC Γ 0, (N, .inl fun i => Int32.ofInt (σ k i))) := by unfold aE; rw [h] <;> rfl
theorem aE_21 (Γ : GA) (n : Nat) (σ : SG) {k N : Nat} (h : ly k = (21, N)) : aE Γ n σ k = .inl (gC Γ 1, (N, .inr (.inl fun i => Int64.ofInt (σ k i)))) := by unfold aE; rw [h] <;> rfl
theorem aE_22 (Γ : GA) (n : Nat) (σ : SG) {k N : Nat} (h : ly k = (22, N)) : aE Γ n σ k = .inl (gC Γ 2, (N, .inl fun i => Int32.ofInt (σ k i))) := by unfold aE; rw [h] <;> rfl
theorem aE_23 (Γ : GA) (n : Nat) (σ : SG) {k N : Nat} (h : ly k = (23, N)) : aE Γ n σ k = .inl (gC Γ 3, (N, .inl fun i => Int32.ofInt (σ k i))) := by unfold aE; rw [h] <;> rfl
theorem aE_24 (Γ : GA) (n : Nat) (σ : SG) {k N : Nat} (h : ly k = (24, N)) : aE Γ n σ k = .inl (gC Γ 4, (N, .inr (.inr (.inr (.inr fun i => if σ k i < 0 then none else some (gO Γ + (σ k i).toNat)))))) := by unfold aE; rw [h] <;> rfl
theorem aE_put (Γ : GA) (n : Nat) (σ : SG) {k c N j : Nat} {x : Int} (h : ly k = (c, N)) (hc : c < 20) (hx : (if n = 85 then fx c k j else none) = none) : aE Γ n (up σ k j x) k = .inr (c, ((List.range N).map (aF Γ n σ c k)).set j (aV Γ (fk c j, x))) := by
  rw [aE_obj Γ n _ h hc]
  congr 2
  apply List.ext_getElem?
  intro i
  by_cases hi : i < N
  · by_cases hij : i = j
    · subst hij
      rw [List.getElem?_set_self (by simpa using hi)]
      simp only [List.getElem?_map, List.getElem?_range hi, Option.map_some]
      show some (aF Γ n (up σ k i x) c k i) = _
      unfold aF
      rw [hx]
      show some (aV Γ (fk c i, up σ k i x k i)) = _
      rw [up_same]
    · rw [List.getElem?_set_ne (fun q => hij q.symm)]
      simp only [List.getElem?_map, List.getElem?_range hi, Option.map_some]
      show some (aF Γ n (up σ k j x) c k i) = some (aF Γ n σ c k i)
      unfold aF
      rw [up_else σ x (fun q => hij q.2)]
  · rw [List.getElem?_eq_none (by simp; omega), List.getElem?_eq_none (by simp; omega)]
theorem upd_i (σ : SG) (k j : Nat) (x : Int) : upd (fun i => Int32.ofInt (σ k i)) j (Int32.ofInt x) = fun i => Int32.ofInt (up σ k j x k i) := by
  funext i
  unfold upd
  by_cases h : i = j
  · subst h; rw [if_pos rfl, up_same]
  · rw [if_neg h, up_else σ x (fun q => h q.2)]
theorem upd_l (σ : SG) (k j : Nat) (x : Int) : vp_updL (fun i => Int64.ofInt (σ k i)) j (Int64.ofInt x) = fun i => Int64.ofInt (up σ k j x k i) := by
  funext i
  unfold vp_updL
  by_cases h : i = j
  · subst h; rw [if_pos rfl, up_same]
  · rw [if_neg h, up_else σ x (fun q => h q.2)]
/-- a field: class c of N fields, the j-th -/
def FF (c N j : Nat) (C nm ds : String) (fin : Bool) : Prop := ∃ T : u_T, vwCl[c]? = some (C, T, N) ∧ (∀ w ∈ u_ws C T N, w ∈ WT) ∧ j < N ∧ T j = (C, nm, ds, fin) ∧ (∀ k, k < N → parseFieldDescriptor (T k).2.2.1 = some (tyA c k)) ∧ (∀ a, a < N → ∀ b, b < N → a ≠ b → (T a).2.1 ≠ (T b).2.1) ∧ c < 20
section AWh
variable {Γ : GA} {M : MT} {d : Nat} {o0 : Nat × Int} {S0 : AS} {uc us pc n : Nat} {ls ls' : List (Option AV)} {st : List AV} {nc : Nat} {σ : SG}
theorem aF_at (Γ : GA) (n : Nat) (σ : SG) (c k N : Nat) {j : Nat} (hj : j < N) : ((List.range N).map (aF Γ n σ c k))[j]? = some (aF Γ n σ c k j) := by
  simp only [List.getElem?_map, List.getElem?_range hj, Option.map_some]
theorem AW.getV {c N j k idx : Nat} {C nm ds : String} {fin : Bool} {v : AV} (hf : FF c N j C nm ds fin) (hw : Cond.fieldLink M.1.cls idx C nm ds ∈ WT) (hly : ly k = (c, N)) (hk : k < nc) (hv : aF Γ nc σ c k j = aV Γ v) (hd : decode M.2.1 pc = .ok (.getfield idx, 3)) (hn : pc + 3 = n) (kk : AW Γ M d o0 S0 uc us n ls (v :: st) (nc, σ)) : AW Γ M d o0 S0 uc us pc ls (vR k :: st) (nc, σ) := by
  intro p e R s m args below meth c9 mc ms C9 H locs cells slots lr hP hS hc hL
  subst hn
  obtain ⟨T, h1, h2, h3, h4, h5, h6, h7⟩ := hf
  have hat := aW_at Γ (nc, σ) hk
  rw [aE_obj Γ nc σ hly h7] at hat
  have k2 := kk p e R s m args below meth c9 mc ms C9 H locs cells slots lr hP hS hc hL
  simp only [List.map_cons, aV_R] at k2 ⊢
  exact va_get (T := T) C9.x C9.b C9.w h2 C9.o C9.K hP.1 k hat h1 j h3 (by rw [h4]; exact C9.w _ hw) (fun x hx => by rw [h4] at hx ⊢; exact hx) (v := aV Γ v) (by rw [aF_at Γ nc σ c k N h3, hv]) hd k2
theorem aF_I {c k j : Nat} (hfk : fk c j = 0) (hx : (if nc = 85 then fx c k j else none) = none) : aF Γ nc σ c k j = aV Γ (vI (σ k j)) := by
  unfold aF; rw [hx, hfk]
theorem aF_R {c k j t : Nat} (hx : (if nc = 85 then fx c k j else none) = some t) : aF Γ nc σ c k j = aV Γ (vR t) := by
  unfold aF; rw [hx, aV_R]
theorem aF_Q {c k j t : Nat} (hfk : fk c j = 2) (hx : (if nc = 85 then fx c k j else none) = none) (hv : σ k j = (t : Int)) : aF Γ nc σ c k j = aV Γ (vR t) := by
  unfold aF; rw [hx, hfk, hv]
theorem AW.getI {c N j k idx : Nat} {C nm ds : String} {fin : Bool} (hf : FF c N j C nm ds fin) (hw : Cond.fieldLink M.1.cls idx C nm ds ∈ WT) (hly : ly k = (c, N)) (hk : k < nc) (hfk : fk c j = 0) (hx : (if nc = 85 then fx c k j else none) = none) (hd : decode M.2.1 pc = .ok (.getfield idx, 3)) (hn : pc + 3 = n) (kk : AW Γ M d o0 S0 uc us n ls (vI (σ k j) :: st) (nc, σ)) : AW Γ M d o0 S0 uc us pc ls (vR k :: st) (nc, σ) :=
  AW.getV hf hw hly hk (aF_I hfk hx) hd hn kk
theorem AW.getR {c N j k t idx : Nat} {C nm ds : String} {fin : Bool} (hf : FF c N j C nm ds fin) (hw : Cond.fieldLink M.1.cls idx C nm ds ∈ WT) (hly : ly k = (c, N)) (hk : k < nc) (hx : (if nc = 85 then fx c k j else none) = some t) (hd : decode M.2.1 pc = .ok (.getfield idx, 3)) (hn : pc + 3 = n) (kk : AW Γ M d o0 S0 uc us n ls (vR t :: st) (nc, σ)) : AW Γ M d o0 S0 uc us pc ls (vR k :: st) (nc, σ) :=
  AW.getV hf hw hly hk (aF_R hx) hd hn kk
theorem AW.getQ {c N j k t idx : Nat} {C nm ds : String} {fin : Bool} (hf : FF c N j C nm ds fin) (hw : Cond.fieldLink M.1.cls idx C nm ds ∈ WT) (hly : ly k = (c, N)) (hk : k < nc) (hfk : fk c j = 2) (hx : (if nc = 85 then fx c k j else none) = none) (hv : σ k j = (t : Int)) (hd : decode M.2.1 pc = .ok (.getfield idx, 3)) (hn : pc + 3 = n) (kk : AW Γ M d o0 S0 uc us n ls (vR t :: st) (nc, σ)) : AW Γ M d o0 S0 uc us pc ls (vR k :: st) (nc, σ) :=
  AW.getV hf hw hly hk (aF_Q hfk hx hv) hd hn kk
theorem AW.putV {c N j k idx : Nat} {C nm ds : String} {fin : Bool} {v : AV} (hf : FF c N j C nm ds fin) (hw : Cond.fieldLink M.1.cls idx C nm ds ∈ WT) (hly : ly k = (c, N)) (hk : k < nc) (hx : (if nc = 85 then fx c k j else none) = none) (hv : v.1 = fk c j) (hfin : fin = false ∨ (fin = true ∧ M.1.name = "<init>" ∧ C = M.1.cls)) (hnar : narrow (tyA c j) (aV Γ v) = aV Γ v) (hfit : fits (tyA c j) (aV Γ v) = true) (hd : decode M.2.1 pc = .ok (.putfield idx, 3)) (hn : pc + 3 = n) (kk : AW Γ M d o0 S0 uc us n ls st (nc, up σ k j v.2)) : AW Γ M d o0 S0 uc us pc ls (v :: vR k :: st) (nc, σ) := by
  intro p e R s m args below meth c9 mc ms C9 H locs cells slots lr hP hS hc hL
  subst hn
  obtain ⟨T, h1, h2, h3, h4, h5, h6, h7⟩ := hf
  have hat := aW_at Γ (nc, σ) hk
  rw [aE_obj Γ nc σ hly h7] at hat
  have hup := aW_up Γ (j := j) (v := v.2) hk (aE_put Γ nc σ hly h7 hx)
  have hve : (fk c j, v.2) = v := by rw [← hv]
  rw [hve] at hup
  have k2 := fun (H1 : Heap) (locs1 : List Loc) (a1 : va_P (gD Γ) vwCl ((aW Γ (nc, σ)).set k (gO Γ + k, .inr (c, ((List.range N).map (aF Γ nc σ c k)).set j (aV Γ v)))) H1) (a3 : va_S (aA Γ) s.heap H1 locs1) (a4 : gO Γ + nc ≤ H1.size) => kk p e R s m args below meth c9 mc ms C9 H1 locs1 cells slots lr ⟨by rw [← hup]; exact a1, a4⟩ a3 hc hL
  simp only [List.map_cons, aV_R] at k2 ⊢
  have hz : ∀ H1 : Heap, va_P (gD Γ) vwCl ((aW Γ (nc, σ)).set k (gO Γ + k, .inr (c, ((List.range N).map (aF Γ nc σ c k)).set j (aV Γ v)))) H1 → gO Γ + nc ≤ H1.size := by
    intro H1 h
    have hn1 : nc - 1 < nc := by omega
    have h8 : (aW Γ (nc, up σ k j v.2))[nc - 1]? = some (gO Γ + (nc - 1), aE Γ nc (up σ k j v.2) (nc - 1)) := aW_at Γ (nc, up σ k j v.2) hn1
    rw [← hup] at h8
    have := (h _ _ h8).lt
    show gO Γ + nc ≤ H1.size
    have e9 : (gO Γ + (nc - 1)) < H1.size := this
    omega
  rcases hfin with hfin | ⟨hfin, hi1, hi2⟩
  · exact va_put (T := T) C9.x C9.b C9.w h2 (tyA c) h5 h6 C9.o C9.K hP.1 (aW_D Γ (nc, σ)) hS k hat h1 j h3 (by rw [h4]; exact C9.w _ hw) (fun x hx => by rw [h4] at hx ⊢; exact hx) (by rw [h4]; exact hfin) (h5 j h3) hnar hfit (by simpa using h3) hd (fun H1 locs1 a1 _ a3 => k2 H1 locs1 a1 a3 (hz H1 a1))
  · exact va_putF (T := T) C9.x C9.b C9.w h2 (tyA c) h5 h6 C9.o C9.K hP.1 (aW_D Γ (nc, σ)) hS k hat h1 j h3 (by rw [h4]; exact C9.w _ hw) (fun x hx => by rw [h4] at hx ⊢; exact hx) (by rw [h4]; exact hfin) (C9.i hi1) (by rw [h4]; exact hi2) (h5 j h3) hnar hfit (by simpa using h3) hd (fun H1 locs1 a1 _ a3 => k2 H1 locs1 a1 a3 (hz H1 a1))
theorem aP_size {S : AS} {H : Heap} (h : va_P (gD Γ) vwCl (aW Γ S) H) (h0 : 0 < S.1) : gO Γ + S.1 ≤ H.size := by
  have h8 := aW_at Γ S (k := S.1 - 1) (by omega)
  have e9 : (gO Γ + (S.1 - 1)) < H.size := (h _ _ h8).lt
  omega

theorem AW.iald {k N : Nat} {i : Int} (hly : ly k = (20, N)) (hk : k < nc) (hi : 0 ≤ w32 i ∧ w32 i < (N : Int)) (hd : decode M.2.1 pc = .ok (.iaload, 1)) (hn : pc + 1 = n) (kk : AW Γ M d o0 S0 uc us n ls (vI (σ k (w32 i).toNat) :: st) (nc, σ)) : AW Γ M d o0 S0 uc us pc ls (vI i :: vR k :: st) (nc, σ) := by
  intro p e R s m args below meth c9 mc ms C9 H locs cells slots lr hP hS hc hL
  subst hn
  have hat := aW_at Γ (nc, σ) hk
  rw [aE_20 Γ nc σ hly] at hat
  have k2 := kk p e R s m args below meth c9 mc ms C9 H locs cells slots lr hP hS hc hL
  simp only [List.map_cons, aV_I, aV_L, aV_R] at k2 ⊢
  exact va_iald C9.x C9.b C9.K hP.1 k 0 hat rfl (in_ofI hi) hd (by rw [clamp_ofI hi.1]; exact k2)
theorem AW.lald {k N : Nat} {i : Int} (hly : ly k = (21, N)) (hk : k < nc) (hi : 0 ≤ w32 i ∧ w32 i < (N : Int)) (hd : decode M.2.1 pc = .ok (.laload, 1)) (hn : pc + 1 = n) (kk : AW Γ M d o0 S0 uc us n ls (vL (σ k (w32 i).toNat) :: st) (nc, σ)) : AW Γ M d o0 S0 uc us pc ls (vI i :: vR k :: st) (nc, σ) := by
  intro p e R s m args below meth c9 mc ms C9 H locs cells slots lr hP hS hc hL
  subst hn
  have hat := aW_at Γ (nc, σ) hk
  rw [aE_21 Γ nc σ hly] at hat
  have k2 := kk p e R s m args below meth c9 mc ms C9 H locs cells slots lr hP hS hc hL
  simp only [List.map_cons, aV_I, aV_L, aV_R] at k2 ⊢
  exact va_lald C9.x C9.b C9.K hP.1 k 1 hat rfl (in_ofI hi) hd (by rw [clamp_ofI hi.1]; exact k2)
theorem AW.bald {k N : Nat} {i : Int} (hly : ly k = (22, N)) (hk : k < nc) (hi : 0 ≤ w32 i ∧ w32 i < (N : Int)) (hd : decode M.2.1 pc = .ok (.baload, 1)) (hn : pc + 1 = n) (kk : AW Γ M d o0 S0 uc us n ls (vI (σ k (w32 i).toNat) :: st) (nc, σ)) : AW Γ M d o0 S0 uc us pc ls (vI i :: vR k :: st) (nc, σ) := by
  intro p e R s m args below meth c9 mc ms C9 H locs cells slots lr hP hS hc hL
  subst hn
  have hat := aW_at Γ (nc, σ) hk
  rw [aE_22 Γ nc σ hly] at hat
  have k2 := kk p e R s m args below meth c9 mc ms C9 H locs cells slots lr hP hS hc hL
  simp only [List.map_cons, aV_I, aV_L, aV_R] at k2 ⊢
  exact va_bald C9.x C9.b C9.K hP.1 k 2 hat rfl (in_ofI hi) hd (by rw [clamp_ofI hi.1]; exact k2)
theorem AW.zald {k N : Nat} {i : Int} (hly : ly k = (23, N)) (hk : k < nc) (hi : 0 ≤ w32 i ∧ w32 i < (N : Int)) (hd : decode M.2.1 pc = .ok (.baload, 1)) (hn : pc + 1 = n) (kk : AW Γ M d o0 S0 uc us n ls (vI (σ k (w32 i).toNat) :: st) (nc, σ)) : AW Γ M d o0 S0 uc us pc ls (vI i :: vR k :: st) (nc, σ) := by
  intro p e R s m args below meth c9 mc ms C9 H locs cells slots lr hP hS hc hL
  subst hn
  have hat := aW_at Γ (nc, σ) hk
  rw [aE_23 Γ nc σ hly] at hat
  have k2 := kk p e R s m args below meth c9 mc ms C9 H locs cells slots lr hP hS hc hL
  simp only [List.map_cons, aV_I, aV_L, aV_R] at k2 ⊢
  exact va_zald C9.x C9.b C9.K hP.1 k 3 hat rfl (in_ofI hi) hd (by rw [clamp_ofI hi.1]; exact k2)
theorem AW.aald {k N t : Nat} {i : Int} (hly : ly k = (24, N)) (hk : k < nc) (hi : 0 ≤ w32 i ∧ w32 i < (N : Int)) (hv : σ k (w32 i).toNat = (t : Int)) (hd : decode M.2.1 pc = .ok (.aaload, 1)) (hn : pc + 1 = n) (kk : AW Γ M d o0 S0 uc us n ls (vR t :: st) (nc, σ)) : AW Γ M d o0 S0 uc us pc ls (vI i :: vR k :: st) (nc, σ) := by
  intro p e R s m args below meth c9 mc ms C9 H locs cells slots lr hP hS hc hL
  subst hn
  have hat := aW_at Γ (nc, σ) hk
  rw [aE_24 Γ nc σ hly] at hat
  have k2 := kk p e R s m args below meth c9 mc ms C9 H locs cells slots lr hP hS hc hL
  simp only [List.map_cons, aV_I, aV_L, aV_R] at k2 ⊢
  refine va_aldq C9.x C9.b C9.K hP.1 k 4 hat rfl (in_ofI hi) hd ?_
  rw [clamp_ofI hi.1, hv, if_neg (by omega)]
  exact k2
theorem AW.iast {k N : Nat} {i x : Int} (hly : ly k = (20, N)) (hk : k < nc) (hi : 0 ≤ w32 i ∧ w32 i < (N : Int)) (hd : decode M.2.1 pc = .ok (.iastore, 1)) (hn : pc + 1 = n) (kk : AW Γ M d o0 S0 uc us n ls st (nc, up σ k (w32 i).toNat (x))) : AW Γ M d o0 S0 uc us pc ls (vI x :: vI i :: vR k :: st) (nc, σ) := by
  intro p e R s m args below meth c9 mc ms C9 H locs cells slots lr hP hS hc hL
  subst hn
  have hat := aW_at Γ (nc, σ) hk
  rw [aE_20 Γ nc σ hly] at hat
  have hup := aW_up Γ (j := (w32 i).toNat) (v := x) hk (aE_20 Γ nc (up σ k (w32 i).toNat (x)) hly)
  simp only [List.map_cons, aV_I, aV_L, aV_R]
  refine va_iast C9.x C9.b C9.K hP.1 (aW_D Γ (nc, σ)) hS k 0 hat rfl (in_ofI hi) hd (fun H1 locs1 a1 _ a3 => ?_)
  rw [clamp_ofI hi.1, upd_i, hup] at a1
  exact kk p e R s m args below meth c9 mc ms C9 H1 locs1 cells slots lr ⟨a1, aP_size a1 (Nat.lt_of_le_of_lt (Nat.zero_le _) hk)⟩ a3 hc hL
theorem AW.last {k N : Nat} {i x : Int} (hly : ly k = (21, N)) (hk : k < nc) (hi : 0 ≤ w32 i ∧ w32 i < (N : Int)) (hd : decode M.2.1 pc = .ok (.lastore, 1)) (hn : pc + 1 = n) (kk : AW Γ M d o0 S0 uc us n ls st (nc, up σ k (w32 i).toNat (x))) : AW Γ M d o0 S0 uc us pc ls (vL x :: vI i :: vR k :: st) (nc, σ) := by
  intro p e R s m args below meth c9 mc ms C9 H locs cells slots lr hP hS hc hL
  subst hn
  have hat := aW_at Γ (nc, σ) hk
  rw [aE_21 Γ nc σ hly] at hat
  have hup := aW_up Γ (j := (w32 i).toNat) (v := x) hk (aE_21 Γ nc (up σ k (w32 i).toNat (x)) hly)
  simp only [List.map_cons, aV_I, aV_L, aV_R]
  refine va_last C9.x C9.b C9.K hP.1 (aW_D Γ (nc, σ)) hS k 1 hat rfl (in_ofI hi) hd (fun H1 locs1 a1 _ a3 => ?_)
  rw [clamp_ofI hi.1, upd_l, hup] at a1
  exact kk p e R s m args below meth c9 mc ms C9 H1 locs1 cells slots lr ⟨a1, aP_size a1 (Nat.lt_of_le_of_lt (Nat.zero_le _) hk)⟩ a3 hc hL
theorem AW.bast {k N : Nat} {i x : Int} (hly : ly k = (22, N)) (hk : k < nc) (hi : 0 ≤ w32 i ∧ w32 i < (N : Int)) (hd : decode M.2.1 pc = .ok (.bastore, 1)) (hn : pc + 1 = n) (kk : AW Γ M d o0 S0 uc us n ls st (nc, up σ k (w32 i).toNat (w8 x))) : AW Γ M d o0 S0 uc us pc ls (vI x :: vI i :: vR k :: st) (nc, σ) := by
  intro p e R s m args below meth c9 mc ms C9 H locs cells slots lr hP hS hc hL
  subst hn
  have hat := aW_at Γ (nc, σ) hk
  rw [aE_22 Γ nc σ hly] at hat
  have hup := aW_up Γ (j := (w32 i).toNat) (v := w8 x) hk (aE_22 Γ nc (up σ k (w32 i).toNat (w8 x)) hly)
  simp only [List.map_cons, aV_I, aV_L, aV_R]
  refine va_bast C9.x C9.b C9.K hP.1 (aW_D Γ (nc, σ)) hS k 2 hat rfl (in_ofI hi) hd (fun H1 locs1 a1 _ a3 => ?_)
  rw [clamp_ofI hi.1, show vp_nar .byte (Int32.ofInt x) = Int32.ofInt (w8 x) from (ofI_toInt _).symm, upd_i, hup] at a1
  exact kk p e R s m args below meth c9 mc ms C9 H1 locs1 cells slots lr ⟨a1, aP_size a1 (Nat.lt_of_le_of_lt (Nat.zero_le _) hk)⟩ a3 hc hL
theorem AW.zast {k N : Nat} {i x : Int} (hly : ly k = (23, N)) (hk : k < nc) (hi : 0 ≤ w32 i ∧ w32 i < (N : Int)) (hd : decode M.2.1 pc = .ok (.bastore, 1)) (hn : pc + 1 = n) (kk : AW Γ M d o0 S0 uc us n ls st (nc, up σ k (w32 i).toNat (wZ x))) : AW Γ M d o0 S0 uc us pc ls (vI x :: vI i :: vR k :: st) (nc, σ) := by
  intro p e R s m args below meth c9 mc ms C9 H locs cells slots lr hP hS hc hL
  subst hn
  have hat := aW_at Γ (nc, σ) hk
  rw [aE_23 Γ nc σ hly] at hat
  have hup := aW_up Γ (j := (w32 i).toNat) (v := wZ x) hk (aE_23 Γ nc (up σ k (w32 i).toNat (wZ x)) hly)
  simp only [List.map_cons, aV_I, aV_L, aV_R]
  refine va_zast C9.x C9.b C9.K hP.1 (aW_D Γ (nc, σ)) hS k 3 hat rfl (in_ofI hi) hd (fun H1 locs1 a1 _ a3 => ?_)
  rw [clamp_ofI hi.1, show vp_nar .boolean (Int32.ofInt x) = Int32.ofInt (wZ x) from (ofI_toInt _).symm, upd_i, hup] at a1
  exact kk p e R s m args below meth c9 mc ms C9 H1 locs1 cells slots lr ⟨a1, aP_size a1 (Nat.lt_of_le_of_lt (Nat.zero_le _) hk)⟩ a3 hc hL
theorem AW.alen20 {k N : Nat} {x : Int} (hly : ly k = (20, N)) (hk : k < nc) (hx : (N : Int) = x) (hd : decode M.2.1 pc = .ok (.arraylength, 1)) (hn : pc + 1 = n) (kk : AW Γ M d o0 S0 uc us n ls (vI x :: st) (nc, σ)) : AW Γ M d o0 S0 uc us pc ls (vR k :: st) (nc, σ) := by
  intro p e R s m args below meth c9 mc ms C9 H locs cells slots lr hP hS hc hL
  subst hn
  have hat := aW_at Γ (nc, σ) hk
  subst hx
  rw [aE_20 Γ nc σ hly] at hat
  have k2 := kk p e R s m args below meth c9 mc ms C9 H locs cells slots lr hP hS hc hL
  simp only [List.map_cons, aV_I, aV_L, aV_R] at k2 ⊢
  exact va_alen C9.x C9.b C9.K hP.1 k 0 hat rfl (v := Int32.ofInt (N : Int)) rfl hd k2
theorem AW.alen21 {k N : Nat} {x : Int} (hly : ly k = (21, N)) (hk : k < nc) (hx : (N : Int) = x) (hd : decode M.2.1 pc = .ok (.arraylength, 1)) (hn : pc + 1 = n) (kk : AW Γ M d o0 S0 uc us n ls (vI x :: st) (nc, σ)) : AW Γ M d o0 S0 uc us pc ls (vR k :: st) (nc, σ) := by
  intro p e R s m args below meth c9 mc ms C9 H locs cells slots lr hP hS hc hL
  subst hn
  have hat := aW_at Γ (nc, σ) hk
  subst hx
  rw [aE_21 Γ nc σ hly] at hat
  have k2 := kk p e R s m args below meth c9 mc ms C9 H locs cells slots lr hP hS hc hL
  simp only [List.map_cons, aV_I, aV_L, aV_R] at k2 ⊢
  exact va_alen C9.x C9.b C9.K hP.1 k 1 hat rfl (v := Int32.ofInt (N : Int)) rfl hd k2
theorem AW.alen22 {k N : Nat} {x : Int} (hly : ly k = (22, N)) (hk : k < nc) (hx : (N : Int) = x) (hd : decode M.2.1 pc = .ok (.arraylength, 1)) (hn : pc + 1 = n) (kk : AW Γ M d o0 S0 uc us n ls (vI x :: st) (nc, σ)) : AW Γ M d o0 S0 uc us pc ls (vR k :: st) (nc, σ) := by
  intro p e R s m args below meth c9 mc ms C9 H locs cells slots lr hP hS hc hL
  subst hn
  have hat := aW_at Γ (nc, σ) hk
  subst hx
  rw [aE_22 Γ nc σ hly] at hat
  have k2 := kk p e R s m args below meth c9 mc ms C9 H locs cells slots lr hP hS hc hL
  simp only [List.map_cons, aV_I, aV_L, aV_R] at k2 ⊢
  exact va_alen C9.x C9.b C9.K hP.1 k 2 hat rfl (v := Int32.ofInt (N : Int)) rfl hd k2
theorem AW.alen23 {k N : Nat} {x : Int} (hly : ly k = (23, N)) (hk : k < nc) (hx : (N : Int) = x) (hd : decode M.2.1 pc = .ok (.arraylength, 1)) (hn : pc + 1 = n) (kk : AW Γ M d o0 S0 uc us n ls (vI x :: st) (nc, σ)) : AW Γ M d o0 S0 uc us pc ls (vR k :: st) (nc, σ) := by
  intro p e R s m args below meth c9 mc ms C9 H locs cells slots lr hP hS hc hL
  subst hn
  have hat := aW_at Γ (nc, σ) hk
  subst hx
  rw [aE_23 Γ nc σ hly] at hat
  have k2 := kk p e R s m args below meth c9 mc ms C9 H locs cells slots lr hP hS hc hL
  simp only [List.map_cons, aV_I, aV_L, aV_R] at k2 ⊢
  exact va_alen C9.x C9.b C9.K hP.1 k 3 hat rfl (v := Int32.ofInt (N : Int)) rfl hd k2
theorem AW.alen24 {k N : Nat} {x : Int} (hly : ly k = (24, N)) (hk : k < nc) (hx : (N : Int) = x) (hd : decode M.2.1 pc = .ok (.arraylength, 1)) (hn : pc + 1 = n) (kk : AW Γ M d o0 S0 uc us n ls (vI x :: st) (nc, σ)) : AW Γ M d o0 S0 uc us pc ls (vR k :: st) (nc, σ) := by
  intro p e R s m args below meth c9 mc ms C9 H locs cells slots lr hP hS hc hL
  subst hn
  have hat := aW_at Γ (nc, σ) hk
  subst hx
  rw [aE_24 Γ nc σ hly] at hat
  have k2 := kk p e R s m args below meth c9 mc ms C9 H locs cells slots lr hP hS hc hL
  simp only [List.map_cons, aV_I, aV_L, aV_R] at k2 ⊢
  exact va_alen C9.x C9.b C9.K hP.1 k 4 hat rfl (v := Int32.ofInt (N : Int)) rfl hd k2
theorem AW.slen {x : Int} (hx : (gL Γ : Int) = x) (hd : decode M.2.1 pc = .ok (.arraylength, 1)) (hn : pc + 1 = n) {S : AS} (kk : AW Γ M d o0 S0 uc us n ls (vI x :: st) S) : AW Γ M d o0 S0 uc us pc ls (vO 100 :: st) S := by
  intro p e R s m args below meth c9 mc ms C9 H locs cells slots lr hP hS hc hL
  subst hn
  subst hx
  have k2 := kk p e R s m args below meth c9 mc ms C9 H locs cells slots lr hP hS hc hL
  simp only [List.map_cons, aV_I, aV_O] at k2 ⊢
  have q := C9.q.1
  exact va_slen C9.x C9.b q.1 (Nat.lt_of_lt_of_le q.2 C9.B) (fun z => Nat.not_le.mpr q.2 z) hS hd k2
theorem AW.sald {i : Int} (hi : 0 ≤ w32 i ∧ w32 i < (gL Γ : Int)) (hd : decode M.2.1 pc = .ok (.iaload, 1)) (hn : pc + 1 = n) {S : AS} (kk : AW Γ M d o0 S0 uc us n ls (vI (gX Γ (w32 i).toNat).toInt :: st) S) : AW Γ M d o0 S0 uc us pc ls (vI i :: vO 100 :: st) S := by
  intro p e R s m args below meth c9 mc ms C9 H locs cells slots lr hP hS hc hL
  subst hn
  have k2 := kk p e R s m args below meth c9 mc ms C9 H locs cells slots lr hP hS hc hL
  simp only [List.map_cons, aV_I, aV_O, ofI_toInt] at k2 ⊢
  have q := C9.q.1
  exact va_sld C9.x C9.b q.1 (Nat.lt_of_lt_of_le q.2 C9.B) (fun z => Nat.not_le.mpr q.2 z) hS (in_ofI hi) hd (by rw [clamp_ofI hi.1]; exact k2)
end AWh
