/-! ===== all that is made: rows for new cells, the constructors, the state behind them (printed by wip/whole/gen/make.py) ===== -/
theorem wn_t {w : Cond} (i : Nat) (h : tables_1[i]? = some w) (g : nW w = true) : w ∈ WN := List.mem_filter.mpr ⟨List.mem_of_getElem? h, g⟩
theorem nwA_at (σ : SG) (n : Nat) (x : Int) : nwA σ n x n = fun _ => x := funext fun _ => if_pos rfl
theorem na_20 {Γ : GA} {nc N : Nat} {σ : SG} (h : ly nc = (20, N)) : ∃ cA, (gT Γ)[0]? = some (cA, FieldType.int) ∧ ∀ H1 : Heap, H1[gO Γ + nc]? = some (arrV cA N (fun _ => defaultValue .int)) → va_at (gD Γ) vwCl (gO Γ + nc, aE Γ (nc + 1) (nwA σ nc 0) nc) H1 := by
  refine ⟨gC Γ 0, rfl, fun H1 e => ?_⟩
  rw [aE_20 Γ (nc + 1) _ h]
  show H1[gO Γ + nc]? = some (vp_cell _ _)
  rw [e, vp_cell_i, nwA_at]
  exact congrArg (fun v => some (arrV _ N fun _ => v)) (congrArg Value.int ofI_0.symm)
theorem na_22 {Γ : GA} {nc N : Nat} {σ : SG} (h : ly nc = (22, N)) : ∃ cA, (gT Γ)[2]? = some (cA, FieldType.byte) ∧ ∀ H1 : Heap, H1[gO Γ + nc]? = some (arrV cA N (fun _ => defaultValue .byte)) → va_at (gD Γ) vwCl (gO Γ + nc, aE Γ (nc + 1) (nwA σ nc 0) nc) H1 := by
  refine ⟨gC Γ 2, rfl, fun H1 e => ?_⟩
  rw [aE_22 Γ (nc + 1) _ h]
  show H1[gO Γ + nc]? = some (vp_cell _ _)
  rw [e, vp_cell_i, nwA_at]
  exact congrArg (fun v => some (arrV _ N fun _ => v)) (congrArg Value.int ofI_0.symm)
theorem na_23 {Γ : GA} {nc N : Nat} {σ : SG} (h : ly nc = (23, N)) : ∃ cA, (gT Γ)[3]? = some (cA, FieldType.boolean) ∧ ∀ H1 : Heap, H1[gO Γ + nc]? = some (arrV cA N (fun _ => defaultValue .boolean)) → va_at (gD Γ) vwCl (gO Γ + nc, aE Γ (nc + 1) (nwA σ nc 0) nc) H1 := by
  refine ⟨gC Γ 3, rfl, fun H1 e => ?_⟩
  rw [aE_23 Γ (nc + 1) _ h]
  show H1[gO Γ + nc]? = some (vp_cell _ _)
  rw [e, vp_cell_i, nwA_at]
  exact congrArg (fun v => some (arrV _ N fun _ => v)) (congrArg Value.int ofI_0.symm)
theorem na_21' {Γ : GA} {nc N n : Nat} {σ : SG} (h : ly nc = (21, N)) : ∃ cA, (gT Γ)[1]? = some (cA, FieldType.long) ∧ ∀ H1 : Heap, H1[gO Γ + nc]? = some (arrV cA N (fun _ => defaultValue .long)) → va_at (gD Γ) vwCl (gO Γ + nc, aE Γ n (nwA σ nc 0) nc) H1 := by
  refine ⟨gC Γ 1, rfl, fun H1 e => ?_⟩
  rw [aE_21 Γ n _ h]
  show H1[gO Γ + nc]? = some (vp_cell _ _)
  rw [e, vp_cell_l, nwA_at]
  exact congrArg (fun v => some (arrV _ N fun _ => v)) (congrArg Value.long ofL_0.symm)
theorem na_21 {Γ : GA} {nc N : Nat} {σ : SG} (h : ly nc = (21, N)) : ∃ cA, (gT Γ)[1]? = some (cA, FieldType.long) ∧ ∀ H1 : Heap, H1[gO Γ + nc]? = some (arrV cA N (fun _ => defaultValue .long)) → va_at (gD Γ) vwCl (gO Γ + nc, aE Γ (nc + 1) (nwA σ nc 0) nc) H1 := na_21' h
section AWk
variable {Γ : GA} {M : MT} {d : Nat} {o0 : Nat × Int} {S0 : AS} {uc us uc' us' pc n idx : Nat} {ls : List (Option AV)} {st : List AV} {nc : Nat} {σ : SG}
theorem AW.anew {x : Int} {N : Nat} (hcl : Cond.classLink M.1.cls idx RX9 ∈ WT) (hly : ly nc = (24, N)) (hN : w32 x = (N : Int)) (hb : N * 4 ≤ 536870912) (hnc : nc + 1 < 85) (hd : decode M.2.1 pc = .ok (.anewarray idx, 3)) (hn : pc + 3 = n) (hu1 : 1 + uc' ≤ uc) (hu2 : N + us' ≤ us)
    (kk : AW Γ M d o0 S0 uc' us' n ls (vR nc :: st) (nc + 1, nwA σ nc (-1))) : AW Γ M d o0 S0 uc us pc ls (vI x :: st) (nc, σ) := by
  intro p e R s m args below meth c9 mc ms C9 H locs cells slots lr hP hS hc hL
  subst hn
  refine W_sz (fun hsz => ?_)
  have hz : H.size = gO Γ + nc := by
    have q1 : s.heap.size + cells = gO Γ + nc := hc.2.2.2.2 (show nc < 85 by omega)
    have q2 : gO Γ + nc ≤ H.size := hP.2
    omega
  have hx0 : ¬ Int32.ofInt x < 0 := fun q => by have := ofI_lt0.mp q; omega
  have hxN : (Int32.ofInt x).toNatClampNeg = N := by rw [clamp_ofI (by omega), hN]; rfl
  simp only [List.map_cons, aV_I]
  refine W.anew C9.x C9.b C9.o (C9.w _ hcl) (va_AO.use C9.q.2.2.2.2.2.2) rfl hd rfl hx0 (by rw [hxN]; exact hb) (by omega) (by rw [hxN]; omega) fun cA kA comp f1 f2 f3 f4 => ?_
  have hcA : cA = gC Γ 4 := by
    obtain ⟨kB, comp', g1, g2, g3, g4⟩ := (C9.K.2 4 (gC Γ 4, .object RX9) rfl).2
    exact Option.some.inj (f1.symm.trans g4)
  subst hcA
  rw [hxN]
  generalize hH1 : H.push ({ cls := gC Γ 4, slots := Array.replicate N .null, vm := .none } : Cell) = H1
  have z1 : H1.size = H.size + 1 := by rw [← hH1, Array.size_push]
  have e1 : H1[H.size]? = some (arrV (gC Γ 4) N (fun _ => .null)) := by rw [← hH1, Array.getElem?_push_size, ← arrV_new]
  have o1 : ∀ q : Nat, q < H.size → H1[q]? = H[q]? := fun q hq => by rw [← hH1, Array.getElem?_push, if_neg (Nat.ne_of_lt hq)]
  have k2 := kk p e R s m args below meth c9 mc ms C9 H1 locs (cells + 1) (slots + N) lr (aP_new (σ' := nwA σ nc (-1)) hnc hP hz (by rw [z1]) (fun q hq => o1 q (by omega)) (fun k hk => funext fun b => if_neg (by omega)) ?_)
    ⟨Nat.le_trans hS.1 (by omega), fun q g1 g2 => (o1 q (by have := hS.1; omega)).trans (hS.2.1 q g1 g2), hS.2.2⟩ ⟨by omega, by omega, hc.2.2.1, hc.2.2.2.1, fun _ => by have q1 : s.heap.size + cells = gO Γ + nc := hc.2.2.2.2 (show nc < 85 by omega); show s.heap.size + (cells + 1) = gO Γ + (nc + 1); omega⟩ hL
  · simp only [List.map_cons, aV_R] at k2
    rw [← hz] at k2
    exact k2
  · rw [aE_24 Γ (nc + 1) _ hly]
    show H1[gO Γ + nc]? = some (vp_cell _ _)
    rw [← hz, e1, vp_cell_q, nwA_at]
    rfl
theorem upd_q (σ : SG) (k j : Nat) (t : Nat) (g : Nat) : va_up (fun i => if σ k i < 0 then none else some (g + (σ k i).toNat)) j (some (g + t)) = fun i => if up σ k j (t : Int) k i < 0 then none else some (g + (up σ k j (t : Int) k i).toNat) := by
  funext i
  by_cases h : i = j
  · subst h
    rw [va_up_self]
    have e : up σ k i (t : Int) k i = (t : Int) := if_pos ⟨rfl, rfl⟩
    rw [e, if_neg (by omega), Int.toNat_natCast]
  · rw [va_up_ne _ _ h]
    have e : up σ k j (t : Int) k i = σ k i := up_else σ _ (fun q => h q.2)
    rw [e]
theorem AW.aast {k N t : Nat} {i : Int} (hly : ly k = (24, N)) (hk : k < nc) (hi : 0 ≤ w32 i ∧ w32 i < (N : Int)) (hlt : ly t = (9, 15)) (ht : t < nc) (hd : decode M.2.1 pc = .ok (.aastore, 1)) (hn : pc + 1 = n) (kk : AW Γ M d o0 S0 uc us n ls st (nc, up σ k (w32 i).toNat (t : Int))) : AW Γ M d o0 S0 uc us pc ls (vR t :: vI i :: vR k :: st) (nc, σ) := by
  intro p e R s m args below meth c9 mc ms C9 H locs cells slots lr hP hS hc hL
  subst hn
  have hat := aW_at Γ (nc, σ) hk
  rw [aE_24 Γ nc σ hly] at hat
  have hav := aW_at Γ (nc, σ) ht
  rw [aE_obj Γ nc σ hlt (by decide)] at hav
  have hup := aW_up Γ (j := (w32 i).toNat) (v := (t : Int)) hk (aE_24 Γ nc (up σ k (w32 i).toNat (t : Int)) hly)
  simp only [List.map_cons, aV_I, aV_R]
  refine va_astq C9.x C9.b C9.K hP.1 (aW_D Γ (nc, σ)) hS k 4 t 9 (r := (RX9, TX9, 15)) hat rfl hav vc_9 (in_ofI hi) hd (fun H1 locs1 a1 _ a3 => ?_)
  rw [clamp_ofI hi.1, upd_q, hup] at a1
  exact kk p e R s m args below meth c9 mc ms C9 H1 locs1 cells slots lr ⟨a1, aP_size a1 (Nat.lt_of_le_of_lt (Nat.zero_le _) hk)⟩ a3 hc hL
/-! the last cell: from then on the final references stand -/
def fixOK (σ : SG) : Bool := (List.range 84).all fun k => (List.range (ly k).2).all fun j => match fx (ly k).1 k j with
  | none => true
  | some t => decide (σ k j = (t : Int)) && fk (ly k).1 j == 2
theorem aE_fix {σ : SG} (h : fixOK σ = true) {k : Nat} (hk : k < 84) : aE Γ 85 σ k = aE Γ 84 σ k := by
  have h1 := List.all_eq_true.mp h k (List.mem_range.mpr hk)
  have key : (List.range (ly k).2).map (aF Γ 85 σ (ly k).1 k) = (List.range (ly k).2).map (aF Γ 84 σ (ly k).1 k) := by
    refine List.map_congr_left fun j hj => ?_
    have h2 := List.all_eq_true.mp h1 j hj
    unfold aF
    rw [if_pos rfl, if_neg (by decide)]
    cases hf : fx (ly k).1 k j with
    | none => rfl
    | some t =>
      rw [hf] at h2
      simp only [Bool.and_eq_true, decide_eq_true_eq, beq_iff_eq] at h2
      show Value.ref (gO Γ + t) = aV Γ (fk (ly k).1 j, σ k j)
      rw [h2.1, h2.2]
      exact (aV_R Γ t).symm
  unfold aE
  generalize hq : ly k = q at key
  obtain ⟨c, N⟩ := q
  simp only at key ⊢
  split <;> first | rfl | (rw [key])
theorem AW.newaL {at9 : ArrayType} {x : Int} {N : Nat} (hfix : fixOK σ = true) (hat9 : at9 = .long) (hw : Cond.arrayClass .long ∈ WT) (hly : ly 84 = (21, N)) (hN : w32 x = (N : Int)) (hb : N * 8 ≤ 536870912) (hd : decode M.2.1 pc = .ok (.newarray at9, 2)) (hn : pc + 2 = n) (hu1 : 1 + uc' ≤ uc) (hu2 : N + us' ≤ us)
    (kk : AW Γ M d o0 S0 uc' us' n ls (vR 84 :: st) (85, nwA σ 84 0)) : AW Γ M d o0 S0 uc us pc ls (vI x :: st) (84, σ) := by
  intro p e R s m args below meth c9 mc ms C9 H locs cells slots lr hP hS hc hL
  subst hn
  subst hat9
  refine W_sz (fun hsz => ?_)
  have hz : H.size = gO Γ + 84 := by
    have q1 : s.heap.size + cells = gO Γ + 84 := hc.2.2.2.2 (show (84 : Nat) < 85 from by decide)
    have q2 : gO Γ + 84 ≤ H.size := hP.2
    omega
  have hx0 : ¬ Int32.ofInt x < 0 := fun q => by have := ofI_lt0.mp q; omega
  have hxN : (Int32.ofInt x).toNatClampNeg = N := by rw [clamp_ofI (by omega), hN]; rfl
  obtain ⟨cA, hA, hat⟩ := na_21' (Γ := Γ) (nc := 84) (n := 85) (σ := σ) hly
  simp only [List.map_cons, aV_I]
  refine va_newaK (atype := .long) C9.x C9.b (C9.w _ hw) rfl hd rfl hx0 hxN hb (by omega) (by omega) hz fun H1 cB e1 z1 o1 hAr hNm => ?_
  have hcA : cB = cA := Option.some.inj (hNm.symm.trans (C9.K.2 1 _ hA).2)
  subst hcA
  have hPn : aP Γ (85, nwA σ 84 0) H1 := by
    refine ⟨fun k q hk => ?_, by show gO Γ + 85 ≤ H1.size; omega⟩
    have hk1 : k < 85 := by
      have := (List.getElem?_eq_some_iff.mp hk).1
      simpa [aW] using this
    rw [aW_at Γ (85, nwA σ 84 0) hk1] at hk
    cases hk
    by_cases hkn : k = 84
    · subst hkn; exact hat H1 e1
    · have hlt : k < 84 := by omega
      have h8 := hP.1 k _ (aW_at Γ (84, σ) hlt)
      have e2 : aE Γ 85 (nwA σ 84 0) k = aE Γ 84 σ k := by rw [aE_else (σ := σ) (funext fun b => if_neg (by omega)), aE_fix hfix hlt]
      show va_at (gD Γ) vwCl (gO Γ + k, aE Γ 85 (nwA σ 84 0) k) H1
      rw [e2]
      exact h8.kept (o1 _ (by show gO Γ + k < gO Γ + 84; omega))
  have k2 := kk p e R s m args below meth c9 mc ms C9 H1 locs (cells + 1) (slots + N) lr hPn
    ⟨Nat.le_trans hS.1 (by omega), fun q g1 g2 => (o1 q (by have := hS.1; omega)).trans (hS.2.1 q g1 g2), hS.2.2⟩ ⟨by omega, by omega, hc.2.2.1, hc.2.2.2.1, fun q => absurd (show (85 : Nat) < 85 from q) (by decide)⟩ hL
  simp only [List.map_cons, aV_R] at k2
  exact k2
end AWk
theorem oI : Cond.instanceMethod Lib.objectInit ∈ WT := wt_t 32 (by decide +kernel) rfl
theorem oC : Cond.code Lib.objectInit ⟨#[0xb1]⟩ 1 none ∈ WT := wt_t 33 (by decide +kernel) rfl
theorem wQ_X11_9 : Cond.methodLinkNest RX11 9 yX6_init "WaveRight" ∈ WN := wn_t 36 (by decide +kernel) (by decide +kernel)
theorem wQ_X11_18 : Cond.methodLinkNest RX11 18 yX2_init "WaveRight" ∈ WN := wn_t 88 (by decide +kernel) (by decide +kernel)
theorem wQ_X11_25 : Cond.methodLinkNest RX11 25 yX10_init "WaveRight" ∈ WN := wn_t 136 (by decide +kernel) (by decide +kernel)
theorem wQ_X1_11 : Cond.methodLinkNest RX1 11 yX6_init "WaveRight" ∈ WN := wn_t 208 (by decide +kernel) (by decide +kernel)
theorem wQ_X1_20 : Cond.methodLinkNest RX1 20 yX2_init "WaveRight" ∈ WN := wn_t 210 (by decide +kernel) (by decide +kernel)
theorem wQ_X1_33 : Cond.methodLinkNest RX1 33 yX5_init "WaveRight" ∈ WN := wn_t 215 (by decide +kernel) (by decide +kernel)
theorem dv_0 (Γ : GA) : ∀ j, j < 10 → defaultValue (tyA 0 j) = aV Γ (fk 0 j, if fk 0 j = 2 then -1 else 0)
  | 0, _ => rfl
  | 1, _ => rfl
  | 2, _ => congrArg Value.int ofI_0.symm
  | 3, _ => congrArg Value.int ofI_0.symm
  | 4, _ => congrArg Value.int ofI_0.symm
  | 5, _ => congrArg Value.int ofI_0.symm
  | 6, _ => congrArg Value.int ofI_0.symm
  | 7, _ => congrArg Value.int ofI_0.symm
  | 8, _ => rfl
  | 9, _ => rfl
  | j + 10, h => absurd h (by omega)
theorem dv_1 (Γ : GA) : ∀ j, j < 16 → defaultValue (tyA 1 j) = aV Γ (fk 1 j, if fk 1 j = 2 then -1 else 0)
  | 0, _ => rfl
  | 1, _ => rfl
  | 2, _ => rfl
  | 3, _ => rfl
  | 4, _ => rfl
  | 5, _ => rfl
  | 6, _ => congrArg Value.int ofI_0.symm
  | 7, _ => congrArg Value.int ofI_0.symm
  | 8, _ => congrArg Value.int ofI_0.symm
  | 9, _ => congrArg Value.int ofI_0.symm
  | 10, _ => congrArg Value.int ofI_0.symm
  | 11, _ => congrArg Value.int ofI_0.symm
  | 12, _ => congrArg Value.int ofI_0.symm
  | 13, _ => congrArg Value.int ofI_0.symm
  | 14, _ => congrArg Value.int ofI_0.symm
  | 15, _ => congrArg Value.int ofI_0.symm
  | j + 16, h => absurd h (by omega)
theorem dv_2 (Γ : GA) : ∀ j, j < 12 → defaultValue (tyA 2 j) = aV Γ (fk 2 j, if fk 2 j = 2 then -1 else 0)
  | 0, _ => rfl
  | 1, _ => rfl
  | 2, _ => congrArg Value.int ofI_0.symm
  | 3, _ => rfl
  | 4, _ => rfl
  | 5, _ => rfl
  | 6, _ => congrArg Value.int ofI_0.symm
  | 7, _ => rfl
  | 8, _ => rfl
  | 9, _ => congrArg Value.int ofI_0.symm
  | 10, _ => congrArg Value.int ofI_0.symm
  | 11, _ => congrArg Value.int ofI_0.symm
  | j + 12, h => absurd h (by omega)
theorem dv_3 (Γ : GA) : ∀ j, j < 2 → defaultValue (tyA 3 j) = aV Γ (fk 3 j, if fk 3 j = 2 then -1 else 0)
  | 0, _ => rfl
  | 1, _ => rfl
  | j + 2, h => absurd h (by omega)
theorem dv_4 (Γ : GA) : ∀ j, j < 5 → defaultValue (tyA 4 j) = aV Γ (fk 4 j, if fk 4 j = 2 then -1 else 0)
  | 0, _ => rfl
  | 1, _ => rfl
  | 2, _ => congrArg Value.int ofI_0.symm
  | 3, _ => rfl
  | 4, _ => rfl
  | j + 5, h => absurd h (by omega)
theorem dv_5 (Γ : GA) : ∀ j, j < 3 → defaultValue (tyA 5 j) = aV Γ (fk 5 j, if fk 5 j = 2 then -1 else 0)
  | 0, _ => rfl
  | 1, _ => congrArg Value.int ofI_0.symm
  | 2, _ => congrArg Value.int ofI_0.symm
  | j + 3, h => absurd h (by omega)
theorem dv_6 (Γ : GA) : ∀ j, j < 9 → defaultValue (tyA 6 j) = aV Γ (fk 6 j, if fk 6 j = 2 then -1 else 0)
  | 0, _ => rfl
  | 1, _ => rfl
  | 2, _ => rfl
  | 3, _ => rfl
  | 4, _ => rfl
  | 5, _ => congrArg Value.int ofI_0.symm
  | 6, _ => congrArg Value.int ofI_0.symm
  | 7, _ => congrArg Value.int ofI_0.symm
  | 8, _ => congrArg Value.int ofI_0.symm
  | j + 9, h => absurd h (by omega)
theorem dv_7 (Γ : GA) : ∀ j, j < 4 → defaultValue (tyA 7 j) = aV Γ (fk 7 j, if fk 7 j = 2 then -1 else 0)
  | 0, _ => rfl
  | 1, _ => rfl
  | 2, _ => congrArg Value.int ofI_0.symm
  | 3, _ => congrArg Value.int ofI_0.symm
  | j + 4, h => absurd h (by omega)
theorem dv_8 (Γ : GA) : ∀ j, j < 1 → defaultValue (tyA 8 j) = aV Γ (fk 8 j, if fk 8 j = 2 then -1 else 0)
  | 0, _ => rfl
  | j + 1, h => absurd h (by omega)
theorem dv_9 (Γ : GA) : ∀ j, j < 15 → defaultValue (tyA 9 j) = aV Γ (fk 9 j, if fk 9 j = 2 then -1 else 0)
  | 0, _ => congrArg Value.int ofI_0.symm
  | 1, _ => rfl
  | 2, _ => congrArg Value.int ofI_0.symm
  | 3, _ => congrArg Value.int ofI_0.symm
  | 4, _ => congrArg Value.int ofI_0.symm
  | 5, _ => congrArg Value.int ofI_0.symm
  | 6, _ => congrArg Value.int ofI_0.symm
  | 7, _ => congrArg Value.int ofI_0.symm
  | 8, _ => congrArg Value.int ofI_0.symm
  | 9, _ => congrArg Value.int ofI_0.symm
  | 10, _ => congrArg Value.int ofI_0.symm
  | 11, _ => congrArg Value.int ofI_0.symm
  | 12, _ => congrArg Value.int ofI_0.symm
  | 13, _ => congrArg Value.int ofI_0.symm
  | 14, _ => congrArg Value.int ofI_0.symm
  | j + 15, h => absurd h (by omega)
theorem dv_10 (Γ : GA) : ∀ j, j < 6 → defaultValue (tyA 10 j) = aV Γ (fk 10 j, if fk 10 j = 2 then -1 else 0)
  | 0, _ => rfl
  | 1, _ => congrArg Value.int ofI_0.symm
  | 2, _ => congrArg Value.int ofI_0.symm
  | 3, _ => congrArg Value.int ofI_0.symm
  | 4, _ => congrArg Value.int ofI_0.symm
  | 5, _ => congrArg Value.int ofI_0.symm
  | j + 6, h => absurd h (by omega)
theorem dv_11 (Γ : GA) : ∀ j, j < 10 → defaultValue (tyA 11 j) = aV Γ (fk 11 j, if fk 11 j = 2 then -1 else 0)
  | 0, _ => rfl
  | 1, _ => rfl
  | 2, _ => rfl
  | 3, _ => rfl
  | 4, _ => rfl
  | 5, _ => congrArg Value.int ofI_0.symm
  | 6, _ => rfl
  | 7, _ => rfl
  | 8, _ => rfl
  | 9, _ => rfl
  | j + 10, h => absurd h (by omega)
theorem dv_12 (Γ : GA) : ∀ j, j < 54 → defaultValue (tyA 12 j) = aV Γ (fk 12 j, if fk 12 j = 2 then -1 else 0)
  | 0, _ => congrArg Value.int ofI_0.symm
  | 1, _ => rfl
  | 2, _ => congrArg Value.int ofI_0.symm
  | 3, _ => rfl
  | 4, _ => congrArg Value.int ofI_0.symm
  | 5, _ => congrArg Value.int ofI_0.symm
  | 6, _ => congrArg Value.int ofI_0.symm
  | 7, _ => congrArg Value.int ofI_0.symm
  | 8, _ => congrArg Value.int ofI_0.symm
  | 9, _ => rfl
  | 10, _ => rfl
  | 11, _ => congrArg Value.int ofI_0.symm
  | 12, _ => congrArg Value.int ofI_0.symm
  | 13, _ => congrArg Value.int ofI_0.symm
  | 14, _ => rfl
  | 15, _ => rfl
  | 16, _ => rfl
  | 17, _ => rfl
  | 18, _ => congrArg Value.int ofI_0.symm
  | 19, _ => congrArg Value.int ofI_0.symm
  | 20, _ => congrArg Value.int ofI_0.symm
  | 21, _ => congrArg Value.int ofI_0.symm
  | 22, _ => rfl
  | 23, _ => congrArg Value.int ofI_0.symm
  | 24, _ => rfl
  | 25, _ => congrArg Value.int ofI_0.symm
  | 26, _ => congrArg Value.int ofI_0.symm
  | 27, _ => congrArg Value.int ofI_0.symm
  | 28, _ => congrArg Value.int ofI_0.symm
  | 29, _ => congrArg Value.int ofI_0.symm
  | 30, _ => congrArg Value.int ofI_0.symm
  | 31, _ => congrArg Value.int ofI_0.symm
  | 32, _ => congrArg Value.int ofI_0.symm
  | 33, _ => congrArg Value.int ofI_0.symm
  | 34, _ => congrArg Value.int ofI_0.symm
  | 35, _ => congrArg Value.int ofI_0.symm
  | 36, _ => congrArg Value.int ofI_0.symm
  | 37, _ => congrArg Value.int ofI_0.symm
  | 38, _ => rfl
  | 39, _ => rfl
  | 40, _ => rfl
  | 41, _ => rfl
  | 42, _ => rfl
  | 43, _ => rfl
  | 44, _ => rfl
  | 45, _ => rfl
  | 46, _ => rfl
  | 47, _ => rfl
  | 48, _ => rfl
  | 49, _ => rfl
  | 50, _ => rfl
  | 51, _ => rfl
  | 52, _ => rfl
  | 53, _ => rfl
  | j + 54, h => absurd h (by omega)
def L_X0_init : List (Nat × Instr × Nat) := [(0, .aload_n 0, 1), (1, .invokespecial 3, 3), (4, .aload_n 0, 1), (5, .bipush 20, 2), (7, .newarray .int, 2), (9, .putfield 9, 3), (12, .aload_n 0, 1), (13, .bipush 20, 2), (15, .newarray .int, 2), (17, .putfield 15, 3), (20, .aload_n 0, 1), (21, .aload_n 1, 1), (22, .putfield 18, 3), (25, .aload_n 0, 1), (26, .aload_n 2, 1), (27, .putfield 22, 3), (30, .return_, 1)]
theorem D_X0_init : dOK cX0_init L_X0_init = true := by decide +kernel
theorem ft_X0_init : fitM mX0_init 2 := ⟨by decide +kernel, by decide +kernel, by decide +kernel⟩
def L_X10_init : List (Nat × Instr × Nat) := [(0, .aload_n 0, 1), (1, .invokespecial 3, 3), (4, .aload_n 0, 1), (5, .sipush 400, 3), (8, .newarray .int, 2), (10, .putfield 9, 3), (13, .return_, 1)]
theorem D_X10_init : dOK cX10_init L_X10_init = true := by decide +kernel
theorem ft_X10_init : fitM mX10_init 0 := ⟨by decide +kernel, by decide +kernel, by decide +kernel⟩
def L_X11_init : List (Nat × Instr × Nat) := [(0, .aload_n 0, 1), (1, .invokespecial 1, 3), (4, .aload_n 0, 1), (5, .new 7, 3), (8, .dup, 1), (9, .invokespecial 9, 3), (12, .putfield 10, 3), (15, .aload_n 0, 1), (16, .new 16, 3), (19, .dup, 1), (20, .invokespecial 18, 3), (23, .putfield 19, 3), (26, .aload_n 0, 1), (27, .new 23, 3), (30, .dup, 1), (31, .invokespecial 25, 3), (34, .putfield 26, 3), (37, .aload_n 0, 1), (38, .new 30, 3), (41, .dup, 1), (42, .aload_n 0, 1), (43, .getfield 26, 3), (46, .aload_n 0, 1), (47, .getfield 10, 3), (50, .invokespecial 32, 3), (53, .putfield 35, 3), (56, .aload_n 0, 1), (57, .new 39, 3), (60, .dup, 1), (61, .aload_n 0, 1), (62, .getfield 26, 3), (65, .aload_n 0, 1), (66, .getfield 19, 3), (69, .invokespecial 41, 3), (72, .putfield 44, 3), (75, .aload_n 0, 1), (76, .iconst (-1), 1), (77, .putfield 48, 3), (80, .aload_n 0, 1), (81, .new 52, 3), (84, .dup, 1), (85, .invokespecial 54, 3), (88, .putfield 55, 3), (91, .aload_n 0, 1), (92, .new 59, 3), (95, .dup, 1), (96, .aload_n 0, 1), (97, .getfield 55, 3), (100, .invokespecial 61, 3), (103, .putfield 64, 3), (106, .aload_n 0, 1), (107, .new 68, 3), (110, .dup, 1), (111, .aload_n 0, 1), (112, .getfield 55, 3), (115, .aload_n 0, 1), (116, .getfield 64, 3), (119, .invokespecial 70, 3), (122, .putfield 73, 3), (125, .aload_n 0, 1), (126, .new 77, 3), (129, .dup, 1), (130, .aload_n 0, 1), (131, .getfield 55, 3), (134, .invokespecial 79, 3), (137, .putfield 80, 3), (140, .return_, 1)]
theorem D_X11_init : dOK cX11_init L_X11_init = true := by decide +kernel
theorem ft_X11_init : fitM mX11_init 0 := ⟨by decide +kernel, by decide +kernel, by decide +kernel⟩
def L_X12_init : List (Nat × Instr × Nat) := [(0, .aload_n 0, 1), (1, .invokespecial 3, 3), (4, .aload_n 0, 1), (5, .sipush 400, 3), (8, .newarray .byte, 2), (10, .putfield 9, 3), (13, .aload_n 0, 1), (14, .iconst 5, 1), (15, .newarray .int, 2), (17, .putfield 13, 3), (20, .aload_n 0, 1), (21, .iconst (-1), 1), (22, .putfield 17, 3), (25, .aload_n 0, 1), (26, .sipush 144, 3), (29, .newarray .int, 2), (31, .putfield 21, 3), (34, .aload_n 0, 1), (35, .sipush 144, 3), (38, .newarray .int, 2), (40, .putfield 24, 3), (43, .aload_n 0, 1), (44, .sipush 900, 3), (47, .newarray .int, 2), (49, .putfield 27, 3), (52, .aload_n 0, 1), (53, .sipush 900, 3), (56, .newarray .int, 2), (58, .putfield 30, 3), (61, .aload_n 0, 1), (62, .bipush 40, 2), (64, .newarray .int, 2), (66, .putfield 33, 3), (69, .aload_n 0, 1), (70, .bipush 40, 2), (72, .newarray .int, 2), (74, .putfield 36, 3), (77, .aload_n 0, 1), (78, .iconst (-1), 1), (79, .putfield 39, 3), (82, .aload_n 0, 1), (83, .bipush 8, 2), (85, .newarray .int, 2), (87, .putfield 42, 3), (90, .aload_n 0, 1), (91, .sipush 400, 3), (94, .newarray .long, 2), (96, .putfield 45, 3), (99, .aload_n 0, 1), (100, .iconst (-1), 1), (101, .putfield 49, 3), (104, .aload_n 0, 1), (105, .iconst 1, 1), (106, .putfield 52, 3), (109, .aload_n 0, 1), (110, .iconst 5, 1), (111, .newarray .int, 2), (113, .putfield 56, 3), (116, .aload_n 0, 1), (117, .iconst 5, 1), (118, .newarray .int, 2), (120, .putfield 59, 3), (123, .aload_n 0, 1), (124, .iconst 5, 1), (125, .newarray .int, 2), (127, .putfield 62, 3), (130, .aload_n 0, 1), (131, .iconst 5, 1), (132, .newarray .int, 2), (134, .putfield 65, 3), (137, .aload_n 0, 1), (138, .iconst 5, 1), (139, .newarray .int, 2), (141, .putfield 68, 3), (144, .aload_n 0, 1), (145, .iconst 5, 1), (146, .newarray .int, 2), (148, .putfield 71, 3), (151, .aload_n 0, 1), (152, .iconst 5, 1), (153, .newarray .int, 2), (155, .putfield 74, 3), (158, .aload_n 0, 1), (159, .iconst 5, 1), (160, .newarray .int, 2), (162, .putfield 77, 3), (165, .aload_n 0, 1), (166, .iconst 5, 1), (167, .newarray .int, 2), (169, .putfield 80, 3), (172, .aload_n 0, 1), (173, .bipush 6, 2), (175, .newarray .int, 2), (177, .putfield 83, 3), (180, .aload_n 0, 1), (181, .iconst 5, 1), (182, .newarray .boolean, 2), (184, .putfield 86, 3), (187, .aload_n 0, 1), (188, .sipush 700, 3), (191, .newarray .int, 2), (193, .putfield 90, 3), (196, .aload_n 0, 1), (197, .iconst 5, 1), (198, .newarray .int, 2), (200, .putfield 93, 3), (203, .aload_n 0, 1), (204, .iconst 3, 1), (205, .newarray .int, 2), (207, .putfield 96, 3), (210, .aload_n 0, 1), (211, .bipush 20, 2), (213, .newarray .int, 2), (215, .putfield 99, 3), (218, .aload_n 0, 1), (219, .bipush 20, 2), (221, .newarray .int, 2), (223, .putfield 102, 3), (226, .return_, 1)]
theorem D_X12_init : dOK cX12_init L_X12_init = true := by decide +kernel
theorem ft_X12_init : fitM mX12_init 0 := ⟨by decide +kernel, by decide +kernel, by decide +kernel⟩
def L_X1_init : List (Nat × Instr × Nat) := [(0, .aload_n 0, 1), (1, .invokespecial 3, 3), (4, .aload_n 0, 1), (5, .new 9, 3), (8, .dup, 1), (9, .invokespecial 11, 3), (12, .putfield 12, 3), (15, .aload_n 0, 1), (16, .new 18, 3), (19, .dup, 1), (20, .invokespecial 20, 3), (23, .putfield 21, 3), (26, .aload_n 0, 1), (27, .iconst 5, 1), (28, .anewarray 25, 3), (31, .putfield 27, 3), (34, .aload_n 0, 1), (35, .new 31, 3), (38, .dup, 1), (39, .invokespecial 33, 3), (42, .putfield 34, 3), (45, .aload_n 0, 1), (46, .bipush 80, 2), (48, .newarray .int, 2), (50, .putfield 38, 3), (53, .aload_n 0, 1), (54, .bipush 6, 2), (56, .newarray .int, 2), (58, .putfield 42, 3), (61, .aload_n 0, 1), (62, .iconst (-1), 1), (63, .putfield 45, 3), (66, .aload_n 0, 1), (67, .iconst 1, 1), (68, .putfield 49, 3), (71, .iconst 0, 1), (72, .istore_n 1, 1), (73, .iload_n 1, 1), (74, .iconst 5, 1), (75, .if_icmp .ge 23, 3), (78, .aload_n 0, 1), (79, .getfield 27, 3), (82, .iload_n 1, 1), (83, .new 25, 3), (86, .dup, 1), (87, .iload_n 1, 1), (88, .invokespecial 53, 3), (91, .aastore, 1), (92, .iinc 1 1, 3), (95, .goto (-22), 3), (98, .return_, 1)]
theorem D_X1_init : dOK cX1_init L_X1_init = true := by decide +kernel
theorem ft_X1_init : fitM mX1_init 0 := ⟨by decide +kernel, by decide +kernel, by decide +kernel⟩
def L_X2_init : List (Nat × Instr × Nat) := [(0, .aload_n 0, 1), (1, .invokespecial 3, 3), (4, .aload_n 0, 1), (5, .sipush 400, 3), (8, .newarray .int, 2), (10, .putfield 9, 3), (13, .aload_n 0, 1), (14, .sipush 400, 3), (17, .newarray .int, 2), (19, .putfield 15, 3), (22, .aload_n 0, 1), (23, .bipush 10, 2), (25, .newarray .boolean, 2), (27, .putfield 18, 3), (30, .aload_n 0, 1), (31, .bipush 11, 2), (33, .newarray .int, 2), (35, .putfield 22, 3), (38, .aload_n 0, 1), (39, .bipush 10, 2), (41, .newarray .int, 2), (43, .putfield 25, 3), (46, .aload_n 0, 1), (47, .bipush 8, 2), (49, .newarray .int, 2), (51, .putfield 28, 3), (54, .aload_n 0, 1), (55, .bipush 24, 2), (57, .newarray .int, 2), (59, .putfield 31, 3), (62, .return_, 1)]
theorem D_X2_init : dOK cX2_init L_X2_init = true := by decide +kernel
theorem ft_X2_init : fitM mX2_init 0 := ⟨by decide +kernel, by decide +kernel, by decide +kernel⟩
def L_X3_init : List (Nat × Instr × Nat) := [(0, .aload_n 0, 1), (1, .invokespecial 3, 3), (4, .aload_n 0, 1), (5, .aload_n 1, 1), (6, .putfield 9, 3), (9, .aload_n 0, 1), (10, .aload_n 2, 1), (11, .putfield 15, 3), (14, .return_, 1)]
theorem D_X3_init : dOK cX3_init L_X3_init = true := by decide +kernel
theorem ft_X3_init : fitM mX3_init 2 := ⟨by decide +kernel, by decide +kernel, by decide +kernel⟩
def L_X4_init : List (Nat × Instr × Nat) := [(0, .aload_n 0, 1), (1, .invokespecial 3, 3), (4, .aload_n 0, 1), (5, .bipush 8, 2), (7, .newarray .int, 2), (9, .putfield 11, 3), (12, .aload_n 0, 1), (13, .bipush 6, 2), (15, .newarray .int, 2), (17, .putfield 15, 3), (20, .aload_n 0, 1), (21, .sipush 448, 3), (24, .newarray .long, 2), (26, .putfield 18, 3), (29, .aload_n 0, 1), (30, .aload_n 1, 1), (31, .putfield 22, 3), (34, .return_, 1)]
theorem D_X4_init : dOK cX4_init L_X4_init = true := by decide +kernel
theorem ft_X4_init : fitM mX4_init 1 := ⟨by decide +kernel, by decide +kernel, by decide +kernel⟩
def L_X5_init : List (Nat × Instr × Nat) := [(0, .aload_n 0, 1), (1, .invokespecial 3, 3), (4, .aload_n 0, 1), (5, .iconst 5, 1), (6, .newarray .int, 2), (8, .putfield 9, 3), (11, .return_, 1)]
theorem D_X5_init : dOK cX5_init L_X5_init = true := by decide +kernel
theorem ft_X5_init : fitM mX5_init 0 := ⟨by decide +kernel, by decide +kernel, by decide +kernel⟩
def L_X6_init : List (Nat × Instr × Nat) := [(0, .aload_n 0, 1), (1, .invokespecial 3, 3), (4, .aload_n 0, 1), (5, .bipush 30, 2), (7, .newarray .int, 2), (9, .putfield 9, 3), (12, .aload_n 0, 1), (13, .iconst 5, 1), (14, .newarray .int, 2), (16, .putfield 15, 3), (19, .aload_n 0, 1), (20, .iconst 5, 1), (21, .newarray .int, 2), (23, .putfield 18, 3), (26, .aload_n 0, 1), (27, .iconst 5, 1), (28, .newarray .int, 2), (30, .putfield 21, 3), (33, .aload_n 0, 1), (34, .bipush 100, 2), (36, .newarray .int, 2), (38, .putfield 24, 3), (41, .aload_n 0, 1), (42, .bipush 30, 2), (44, .putfield 27, 3), (47, .return_, 1)]
theorem D_X6_init : dOK cX6_init L_X6_init = true := by decide +kernel
theorem ft_X6_init : fitM mX6_init 0 := ⟨by decide +kernel, by decide +kernel, by decide +kernel⟩
def L_X7_init : List (Nat × Instr × Nat) := [(0, .aload_n 0, 1), (1, .invokespecial 3, 3), (4, .aload_n 0, 1), (5, .aload_n 1, 1), (6, .putfield 9, 3), (9, .aload_n 0, 1), (10, .aload_n 2, 1), (11, .putfield 15, 3), (14, .return_, 1)]
theorem D_X7_init : dOK cX7_init L_X7_init = true := by decide +kernel
theorem ft_X7_init : fitM mX7_init 2 := ⟨by decide +kernel, by decide +kernel, by decide +kernel⟩
def L_X8_init : List (Nat × Instr × Nat) := [(0, .aload_n 0, 1), (1, .invokespecial 3, 3), (4, .aload_n 0, 1), (5, .aload_n 1, 1), (6, .putfield 9, 3), (9, .return_, 1)]
theorem D_X8_init : dOK cX8_init L_X8_init = true := by decide +kernel
theorem ft_X8_init : fitM mX8_init 1 := ⟨by decide +kernel, by decide +kernel, by decide +kernel⟩
def L_X9_init : List (Nat × Instr × Nat) := [(0, .aload_n 0, 1), (1, .invokespecial 3, 3), (4, .aload_n 0, 1), (5, .sipush 140, 3), (8, .newarray .int, 2), (10, .putfield 11, 3), (13, .aload_n 0, 1), (14, .iconst 1, 1), (15, .putfield 15, 3), (18, .aload_n 0, 1), (19, .iconst (-1), 1), (20, .putfield 19, 3), (23, .aload_n 0, 1), (24, .iload_n 1, 1), (25, .putfield 22, 3), (28, .return_, 1)]
theorem D_X9_init : dOK cX9_init L_X9_init = true := by decide +kernel
theorem ft_X9_init : fitM mX9_init 1 := ⟨by decide +kernel, by decide +kernel, by decide +kernel⟩
def sg_0 : SG := fun _ _ => 0
def sg_1 : SG := nwO sg_0 0 11
def sg_2 : SG := nwO sg_1 1 6
def sg_3 : SG := nwA sg_2 2 0
def sg_4 : SG := up sg_3 1 0 2
def sg_5 : SG := nwA sg_4 3 0
def sg_6 : SG := up sg_5 1 1 3
def sg_7 : SG := nwA sg_6 4 0
def sg_8 : SG := up sg_7 1 2 4
def sg_9 : SG := nwA sg_8 5 0
def sg_10 : SG := up sg_9 1 3 5
def sg_11 : SG := nwA sg_10 6 0
def sg_12 : SG := up sg_11 1 4 6
def sg_13 : SG := up sg_12 1 7 30
def sg_14 : SG := up sg_13 0 0 1
def sg_15 : SG := nwO sg_14 7 2
def sg_16 : SG := nwA sg_15 8 0
def sg_17 : SG := up sg_16 7 0 8
def sg_18 : SG := nwA sg_17 9 0
def sg_19 : SG := up sg_18 7 1 9
def sg_20 : SG := nwA sg_19 10 0
def sg_21 : SG := up sg_20 7 3 10
def sg_22 : SG := nwA sg_21 11 0
def sg_23 : SG := up sg_22 7 4 11
def sg_24 : SG := nwA sg_23 12 0
def sg_25 : SG := up sg_24 7 5 12
def sg_26 : SG := nwA sg_25 13 0
def sg_27 : SG := up sg_26 7 7 13
def sg_28 : SG := nwA sg_27 14 0
def sg_29 : SG := up sg_28 7 8 14
def sg_30 : SG := up sg_29 0 1 7
def sg_31 : SG := nwO sg_30 15 10
def sg_32 : SG := nwA sg_31 16 0
def sg_33 : SG := up sg_32 15 0 16
def sg_34 : SG := up sg_33 0 2 15
def sg_35 : SG := nwO sg_34 17 7
def sg_36 : SG := up sg_35 17 0 15
def sg_37 : SG := up sg_36 17 1 1
def sg_38 : SG := up sg_37 0 3 17
def sg_39 : SG := nwO sg_38 18 3
def sg_40 : SG := up sg_39 18 0 15
def sg_41 : SG := up sg_40 18 1 7
def sg_42 : SG := up sg_41 0 4 18
def sg_43 : SG := up sg_42 0 5 (-1)
def sg_44 : SG := nwO sg_43 19 1
def sg_45 : SG := nwO sg_44 20 6
def sg_46 : SG := nwA sg_45 21 0
def sg_47 : SG := up sg_46 20 0 21
def sg_48 : SG := nwA sg_47 22 0
def sg_49 : SG := up sg_48 20 1 22
def sg_50 : SG := nwA sg_49 23 0
def sg_51 : SG := up sg_50 20 2 23
def sg_52 : SG := nwA sg_51 24 0
def sg_53 : SG := up sg_52 20 3 24
def sg_54 : SG := nwA sg_53 25 0
def sg_55 : SG := up sg_54 20 4 25
def sg_56 : SG := up sg_55 20 7 30
def sg_57 : SG := up sg_56 19 0 20
def sg_58 : SG := nwO sg_57 26 2
def sg_59 : SG := nwA sg_58 27 0
def sg_60 : SG := up sg_59 26 0 27
def sg_61 : SG := nwA sg_60 28 0
def sg_62 : SG := up sg_61 26 1 28
def sg_63 : SG := nwA sg_62 29 0
def sg_64 : SG := up sg_63 26 3 29
def sg_65 : SG := nwA sg_64 30 0
def sg_66 : SG := up sg_65 26 4 30
def sg_67 : SG := nwA sg_66 31 0
def sg_68 : SG := up sg_67 26 5 31
def sg_69 : SG := nwA sg_68 32 0
def sg_70 : SG := up sg_69 26 7 32
def sg_71 : SG := nwA sg_70 33 0
def sg_72 : SG := up sg_71 26 8 33
def sg_73 : SG := up sg_72 19 1 26
def sg_74 : SG := nwA sg_73 34 (-1)
def sg_75 : SG := up sg_74 19 2 34
def sg_76 : SG := nwO sg_75 35 5
def sg_77 : SG := nwA sg_76 36 0
def sg_78 : SG := up sg_77 35 0 36
def sg_79 : SG := up sg_78 19 3 35
def sg_80 : SG := nwA sg_79 37 0
def sg_81 : SG := up sg_80 19 4 37
def sg_82 : SG := nwA sg_81 38 0
def sg_83 : SG := up sg_82 19 5 38
def sg_84 : SG := up sg_83 19 13 (-1)
def sg_85 : SG := up sg_84 19 14 1
def sg_86 : SG := nwO sg_85 39 9
def sg_87 : SG := nwA sg_86 40 0
def sg_88 : SG := up sg_87 39 1 40
def sg_89 : SG := up sg_88 39 5 1
def sg_90 : SG := up sg_89 39 8 (-1)
def sg_91 : SG := up sg_90 39 0 0
def sg_92 : SG := up sg_91 34 0 39
def sg_93 : SG := nwO sg_92 41 9
def sg_94 : SG := nwA sg_93 42 0
def sg_95 : SG := up sg_94 41 1 42
def sg_96 : SG := up sg_95 41 5 1
def sg_97 : SG := up sg_96 41 8 (-1)
def sg_98 : SG := up sg_97 41 0 1
def sg_99 : SG := up sg_98 34 1 41
def sg_100 : SG := nwO sg_99 43 9
def sg_101 : SG := nwA sg_100 44 0
def sg_102 : SG := up sg_101 43 1 44
def sg_103 : SG := up sg_102 43 5 1
def sg_104 : SG := up sg_103 43 8 (-1)
def sg_105 : SG := up sg_104 43 0 2
def sg_106 : SG := up sg_105 34 2 43
def sg_107 : SG := nwO sg_106 45 9
def sg_108 : SG := nwA sg_107 46 0
def sg_109 : SG := up sg_108 45 1 46
def sg_110 : SG := up sg_109 45 5 1
def sg_111 : SG := up sg_110 45 8 (-1)
def sg_112 : SG := up sg_111 45 0 3
def sg_113 : SG := up sg_112 34 3 45
def sg_114 : SG := nwO sg_113 47 9
def sg_115 : SG := nwA sg_114 48 0
def sg_116 : SG := up sg_115 47 1 48
def sg_117 : SG := up sg_116 47 5 1
def sg_118 : SG := up sg_117 47 8 (-1)
def sg_119 : SG := up sg_118 47 0 4
def sg_120 : SG := up sg_119 34 4 47
def sg_121 : SG := up sg_120 0 6 19
def sg_122 : SG := nwO sg_121 49 8
def sg_123 : SG := up sg_122 49 0 19
def sg_124 : SG := up sg_123 0 7 49
def sg_125 : SG := nwO sg_124 50 0
def sg_126 : SG := nwA sg_125 51 0
def sg_127 : SG := up sg_126 50 8 51
def sg_128 : SG := nwA sg_127 52 0
def sg_129 : SG := up sg_128 50 9 52
def sg_130 : SG := up sg_129 50 0 19
def sg_131 : SG := up sg_130 50 1 49
def sg_132 : SG := up sg_131 0 8 50
def sg_133 : SG := nwO sg_132 53 4
def sg_134 : SG := nwA sg_133 54 0
def sg_135 : SG := up sg_134 53 1 54
def sg_136 : SG := nwA sg_135 55 0
def sg_137 : SG := up sg_136 53 3 55
def sg_138 : SG := nwA sg_137 56 0
def sg_139 : SG := up sg_138 53 4 56
def sg_140 : SG := up sg_139 53 0 19
def sg_141 : SG := up sg_140 0 9 53
def sg_142 : SG := nwO sg_141 57 12
def sg_143 : SG := nwA sg_142 58 0
def sg_144 : SG := up sg_143 57 1 58
def sg_145 : SG := nwA sg_144 59 0
def sg_146 : SG := up sg_145 57 3 59
def sg_147 : SG := up sg_146 57 8 (-1)
def sg_148 : SG := nwA sg_147 60 0
def sg_149 : SG := up sg_148 57 9 60
def sg_150 : SG := nwA sg_149 61 0
def sg_151 : SG := up sg_150 57 10 61
def sg_152 : SG := nwA sg_151 62 0
def sg_153 : SG := up sg_152 57 14 62
def sg_154 : SG := nwA sg_153 63 0
def sg_155 : SG := up sg_154 57 15 63
def sg_156 : SG := nwA sg_155 64 0
def sg_157 : SG := up sg_156 57 16 64
def sg_158 : SG := nwA sg_157 65 0
def sg_159 : SG := up sg_158 57 17 65
def sg_160 : SG := up sg_159 57 18 (-1)
def sg_161 : SG := nwA sg_160 66 0
def sg_162 : SG := up sg_161 57 22 66
def sg_163 : SG := nwA sg_162 67 0
def sg_164 : SG := up sg_163 57 24 67
def sg_165 : SG := up sg_164 57 27 (-1)
def sg_166 : SG := up sg_165 57 35 1
def sg_167 : SG := nwA sg_166 68 0
def sg_168 : SG := up sg_167 57 38 68
def sg_169 : SG := nwA sg_168 69 0
def sg_170 : SG := up sg_169 57 39 69
def sg_171 : SG := nwA sg_170 70 0
def sg_172 : SG := up sg_171 57 40 70
def sg_173 : SG := nwA sg_172 71 0
def sg_174 : SG := up sg_173 57 41 71
def sg_175 : SG := nwA sg_174 72 0
def sg_176 : SG := up sg_175 57 42 72
def sg_177 : SG := nwA sg_176 73 0
def sg_178 : SG := up sg_177 57 43 73
def sg_179 : SG := nwA sg_178 74 0
def sg_180 : SG := up sg_179 57 44 74
def sg_181 : SG := nwA sg_180 75 0
def sg_182 : SG := up sg_181 57 45 75
def sg_183 : SG := nwA sg_182 76 0
def sg_184 : SG := up sg_183 57 46 76
def sg_185 : SG := nwA sg_184 77 0
def sg_186 : SG := up sg_185 57 47 77
def sg_187 : SG := nwA sg_186 78 0
def sg_188 : SG := up sg_187 57 48 78
def sg_189 : SG := nwA sg_188 79 0
def sg_190 : SG := up sg_189 57 49 79
def sg_191 : SG := nwA sg_190 80 0
def sg_192 : SG := up sg_191 57 50 80
def sg_193 : SG := nwA sg_192 81 0
def sg_194 : SG := up sg_193 57 51 81
def sg_195 : SG := nwA sg_194 82 0
def sg_196 : SG := up sg_195 57 52 82
def sg_197 : SG := nwA sg_196 83 0
def sg_198 : SG := up sg_197 57 53 83
def sg_199 : SG := nwA sg_198 84 0
set_option maxRecDepth 100000 in
set_option maxHeartbeats 4000000 in
theorem A_X6_init_1 {Γ : GA} (hΓ : (gl Γ).stackTraces = false) : AM Γ mX6_init 2 5 145 [vR 1] (2, sg_2) (0, 0) (7, sg_13) := by
  refine AM.of pl_X6 rfl wC_X6_init (le45 rfl) hΓ ?_
  refine AW.aload_n (n := 1) (dat D_X6_init 0 rfl) rfl rfl ?_
  refine AW.objInit (n := 4) wM_X6_3 oI oC (le45 rfl) (le45 rfl) (dat D_X6_init 1 rfl) rfl ?_
  refine AW.aload_n (n := 5) (dat D_X6_init 2 rfl) rfl rfl ?_
  refine AW.bipush (n := 7) (dat D_X6_init 3 rfl) rfl (by decide) ?_
  refine AW.newa (n := 9) (at9 := .int) (N := 30) (ty := .int) (t0 := 0) (e0 := .inr (0, [])) (uc' := 4) (us' := 115) rfl wY_int (by decide) (le45 rfl) (le45 rfl) (na_20 rfl) (fun C q => by cases q) (dat D_X6_init 4 rfl) rfl (le45 rfl) (le45 rfl) ?_
  change AW _ _ _ _ _ _ _ _ [some (vR 1)] [vR 2, vR 1] (3, sg_3)
  refine AW.putV (n := 12) (v := vR 2) fX6_0 wF_X6_9 rfl (le45 rfl) rfl rfl (Or.inr ⟨rfl, rfl, rfl⟩) (by rw [aV_R]; rfl) (by rw [aV_R]; rfl) (dat D_X6_init 5 rfl) rfl ?_
  change AW _ _ _ _ _ _ _ _ [some (vR 1)] [] (3, sg_4)
  refine AW.aload_n (n := 13) (dat D_X6_init 6 rfl) rfl rfl ?_
  refine AW.iconst (n := 14) (dat D_X6_init 7 rfl) rfl ?_
  refine AW.newa (n := 16) (at9 := .int) (N := 5) (ty := .int) (t0 := 0) (e0 := .inr (0, [])) (uc' := 3) (us' := 110) rfl wY_int (by decide) (le45 rfl) (le45 rfl) (na_20 rfl) (fun C q => by cases q) (dat D_X6_init 8 rfl) rfl (le45 rfl) (le45 rfl) ?_
  change AW _ _ _ _ _ _ _ _ [some (vR 1)] [vR 3, vR 1] (4, sg_5)
  refine AW.putV (n := 19) (v := vR 3) fX6_1 wF_X6_15 rfl (le45 rfl) rfl rfl (Or.inr ⟨rfl, rfl, rfl⟩) (by rw [aV_R]; rfl) (by rw [aV_R]; rfl) (dat D_X6_init 9 rfl) rfl ?_
  change AW _ _ _ _ _ _ _ _ [some (vR 1)] [] (4, sg_6)
  refine AW.aload_n (n := 20) (dat D_X6_init 10 rfl) rfl rfl ?_
  refine AW.iconst (n := 21) (dat D_X6_init 11 rfl) rfl ?_
  refine AW.newa (n := 23) (at9 := .int) (N := 5) (ty := .int) (t0 := 0) (e0 := .inr (0, [])) (uc' := 2) (us' := 105) rfl wY_int (by decide) (le45 rfl) (le45 rfl) (na_20 rfl) (fun C q => by cases q) (dat D_X6_init 12 rfl) rfl (le45 rfl) (le45 rfl) ?_
  change AW _ _ _ _ _ _ _ _ [some (vR 1)] [vR 4, vR 1] (5, sg_7)
  refine AW.putV (n := 26) (v := vR 4) fX6_2 wF_X6_18 rfl (le45 rfl) rfl rfl (Or.inr ⟨rfl, rfl, rfl⟩) (by rw [aV_R]; rfl) (by rw [aV_R]; rfl) (dat D_X6_init 13 rfl) rfl ?_
  change AW _ _ _ _ _ _ _ _ [some (vR 1)] [] (5, sg_8)
  refine AW.aload_n (n := 27) (dat D_X6_init 14 rfl) rfl rfl ?_
  refine AW.iconst (n := 28) (dat D_X6_init 15 rfl) rfl ?_
  refine AW.newa (n := 30) (at9 := .int) (N := 5) (ty := .int) (t0 := 0) (e0 := .inr (0, [])) (uc' := 1) (us' := 100) rfl wY_int (by decide) (le45 rfl) (le45 rfl) (na_20 rfl) (fun C q => by cases q) (dat D_X6_init 16 rfl) rfl (le45 rfl) (le45 rfl) ?_
  change AW _ _ _ _ _ _ _ _ [some (vR 1)] [vR 5, vR 1] (6, sg_9)
  refine AW.putV (n := 33) (v := vR 5) fX6_3 wF_X6_21 rfl (le45 rfl) rfl rfl (Or.inr ⟨rfl, rfl, rfl⟩) (by rw [aV_R]; rfl) (by rw [aV_R]; rfl) (dat D_X6_init 17 rfl) rfl ?_
  change AW _ _ _ _ _ _ _ _ [some (vR 1)] [] (6, sg_10)
  refine AW.aload_n (n := 34) (dat D_X6_init 18 rfl) rfl rfl ?_
  refine AW.bipush (n := 36) (dat D_X6_init 19 rfl) rfl (by decide) ?_
  refine AW.newa (n := 38) (at9 := .int) (N := 100) (ty := .int) (t0 := 0) (e0 := .inr (0, [])) (uc' := 0) (us' := 0) rfl wY_int (by decide) (le45 rfl) (le45 rfl) (na_20 rfl) (fun C q => by cases q) (dat D_X6_init 20 rfl) rfl (le45 rfl) (le45 rfl) ?_
  change AW _ _ _ _ _ _ _ _ [some (vR 1)] [vR 6, vR 1] (7, sg_11)
  refine AW.putV (n := 41) (v := vR 6) fX6_4 wF_X6_24 rfl (le45 rfl) rfl rfl (Or.inr ⟨rfl, rfl, rfl⟩) (by rw [aV_R]; rfl) (by rw [aV_R]; rfl) (dat D_X6_init 21 rfl) rfl ?_
  change AW _ _ _ _ _ _ _ _ [some (vR 1)] [] (7, sg_12)
  refine AW.aload_n (n := 42) (dat D_X6_init 22 rfl) rfl rfl ?_
  refine AW.bipush (n := 44) (dat D_X6_init 23 rfl) rfl (by decide) ?_
  refine AW.putV (n := 47) (v := vI 30) fX6_7 wF_X6_27 rfl (le45 rfl) rfl rfl (Or.inl rfl) rfl rfl (dat D_X6_init 24 rfl) rfl ?_
  change AW _ _ _ _ _ _ _ _ [some (vR 1)] [] (7, sg_13)
  exact AW.vret rfl rfl rfl (dat D_X6_init 25 rfl)
set_option maxRecDepth 100000 in
set_option maxHeartbeats 4000000 in
theorem A_X2_init_7 {Γ : GA} (hΓ : (gl Γ).stackTraces = false) : AM Γ mX2_init 2 7 863 [vR 7] (8, sg_15) (0, 0) (15, sg_29) := by
  refine AM.of pl_X2 rfl wC_X2_init (le45 rfl) hΓ ?_
  refine AW.aload_n (n := 1) (dat D_X2_init 0 rfl) rfl rfl ?_
  refine AW.objInit (n := 4) wM_X2_3 oI oC (le45 rfl) (le45 rfl) (dat D_X2_init 1 rfl) rfl ?_
  refine AW.aload_n (n := 5) (dat D_X2_init 2 rfl) rfl rfl ?_
  refine AW.sipush (n := 8) (dat D_X2_init 3 rfl) rfl (by decide) ?_
  refine AW.newa (n := 10) (at9 := .int) (N := 400) (ty := .int) (t0 := 0) (e0 := .inr (0, [])) (uc' := 6) (us' := 463) rfl wY_int (by decide) (le45 rfl) (le45 rfl) (na_20 rfl) (fun C q => by cases q) (dat D_X2_init 4 rfl) rfl (le45 rfl) (le45 rfl) ?_
  change AW _ _ _ _ _ _ _ _ [some (vR 7)] [vR 8, vR 7] (9, sg_16)
  refine AW.putV (n := 13) (v := vR 8) fX2_0 wF_X2_9 rfl (le45 rfl) rfl rfl (Or.inr ⟨rfl, rfl, rfl⟩) (by rw [aV_R]; rfl) (by rw [aV_R]; rfl) (dat D_X2_init 5 rfl) rfl ?_
  change AW _ _ _ _ _ _ _ _ [some (vR 7)] [] (9, sg_17)
  refine AW.aload_n (n := 14) (dat D_X2_init 6 rfl) rfl rfl ?_
  refine AW.sipush (n := 17) (dat D_X2_init 7 rfl) rfl (by decide) ?_
  refine AW.newa (n := 19) (at9 := .int) (N := 400) (ty := .int) (t0 := 0) (e0 := .inr (0, [])) (uc' := 5) (us' := 63) rfl wY_int (by decide) (le45 rfl) (le45 rfl) (na_20 rfl) (fun C q => by cases q) (dat D_X2_init 8 rfl) rfl (le45 rfl) (le45 rfl) ?_
  change AW _ _ _ _ _ _ _ _ [some (vR 7)] [vR 9, vR 7] (10, sg_18)
  refine AW.putV (n := 22) (v := vR 9) fX2_1 wF_X2_15 rfl (le45 rfl) rfl rfl (Or.inr ⟨rfl, rfl, rfl⟩) (by rw [aV_R]; rfl) (by rw [aV_R]; rfl) (dat D_X2_init 9 rfl) rfl ?_
  change AW _ _ _ _ _ _ _ _ [some (vR 7)] [] (10, sg_19)
  refine AW.aload_n (n := 23) (dat D_X2_init 10 rfl) rfl rfl ?_
  refine AW.bipush (n := 25) (dat D_X2_init 11 rfl) rfl (by decide) ?_
  refine AW.newa (n := 27) (at9 := .boolean) (N := 10) (ty := .boolean) (t0 := 3) (e0 := .inr (0, [])) (uc' := 4) (us' := 53) rfl wY_boolean (by decide) (le45 rfl) (le45 rfl) (na_23 rfl) (fun C q => by cases q) (dat D_X2_init 12 rfl) rfl (le45 rfl) (le45 rfl) ?_
  change AW _ _ _ _ _ _ _ _ [some (vR 7)] [vR 10, vR 7] (11, sg_20)
  refine AW.putV (n := 30) (v := vR 10) fX2_3 wF_X2_18 rfl (le45 rfl) rfl rfl (Or.inr ⟨rfl, rfl, rfl⟩) (by rw [aV_R]; rfl) (by rw [aV_R]; rfl) (dat D_X2_init 13 rfl) rfl ?_
  change AW _ _ _ _ _ _ _ _ [some (vR 7)] [] (11, sg_21)
  refine AW.aload_n (n := 31) (dat D_X2_init 14 rfl) rfl rfl ?_
  refine AW.bipush (n := 33) (dat D_X2_init 15 rfl) rfl (by decide) ?_
  refine AW.newa (n := 35) (at9 := .int) (N := 11) (ty := .int) (t0 := 0) (e0 := .inr (0, [])) (uc' := 3) (us' := 42) rfl wY_int (by decide) (le45 rfl) (le45 rfl) (na_20 rfl) (fun C q => by cases q) (dat D_X2_init 16 rfl) rfl (le45 rfl) (le45 rfl) ?_
  change AW _ _ _ _ _ _ _ _ [some (vR 7)] [vR 11, vR 7] (12, sg_22)
  refine AW.putV (n := 38) (v := vR 11) fX2_4 wF_X2_22 rfl (le45 rfl) rfl rfl (Or.inr ⟨rfl, rfl, rfl⟩) (by rw [aV_R]; rfl) (by rw [aV_R]; rfl) (dat D_X2_init 17 rfl) rfl ?_
  change AW _ _ _ _ _ _ _ _ [some (vR 7)] [] (12, sg_23)
  refine AW.aload_n (n := 39) (dat D_X2_init 18 rfl) rfl rfl ?_
  refine AW.bipush (n := 41) (dat D_X2_init 19 rfl) rfl (by decide) ?_
  refine AW.newa (n := 43) (at9 := .int) (N := 10) (ty := .int) (t0 := 0) (e0 := .inr (0, [])) (uc' := 2) (us' := 32) rfl wY_int (by decide) (le45 rfl) (le45 rfl) (na_20 rfl) (fun C q => by cases q) (dat D_X2_init 20 rfl) rfl (le45 rfl) (le45 rfl) ?_
  change AW _ _ _ _ _ _ _ _ [some (vR 7)] [vR 12, vR 7] (13, sg_24)
  refine AW.putV (n := 46) (v := vR 12) fX2_5 wF_X2_25 rfl (le45 rfl) rfl rfl (Or.inr ⟨rfl, rfl, rfl⟩) (by rw [aV_R]; rfl) (by rw [aV_R]; rfl) (dat D_X2_init 21 rfl) rfl ?_
  change AW _ _ _ _ _ _ _ _ [some (vR 7)] [] (13, sg_25)
  refine AW.aload_n (n := 47) (dat D_X2_init 22 rfl) rfl rfl ?_
  refine AW.bipush (n := 49) (dat D_X2_init 23 rfl) rfl (by decide) ?_
  refine AW.newa (n := 51) (at9 := .int) (N := 8) (ty := .int) (t0 := 0) (e0 := .inr (0, [])) (uc' := 1) (us' := 24) rfl wY_int (by decide) (le45 rfl) (le45 rfl) (na_20 rfl) (fun C q => by cases q) (dat D_X2_init 24 rfl) rfl (le45 rfl) (le45 rfl) ?_
  change AW _ _ _ _ _ _ _ _ [some (vR 7)] [vR 13, vR 7] (14, sg_26)
  refine AW.putV (n := 54) (v := vR 13) fX2_7 wF_X2_28 rfl (le45 rfl) rfl rfl (Or.inr ⟨rfl, rfl, rfl⟩) (by rw [aV_R]; rfl) (by rw [aV_R]; rfl) (dat D_X2_init 25 rfl) rfl ?_
  change AW _ _ _ _ _ _ _ _ [some (vR 7)] [] (14, sg_27)
  refine AW.aload_n (n := 55) (dat D_X2_init 26 rfl) rfl rfl ?_
  refine AW.bipush (n := 57) (dat D_X2_init 27 rfl) rfl (by decide) ?_
  refine AW.newa (n := 59) (at9 := .int) (N := 24) (ty := .int) (t0 := 0) (e0 := .inr (0, [])) (uc' := 0) (us' := 0) rfl wY_int (by decide) (le45 rfl) (le45 rfl) (na_20 rfl) (fun C q => by cases q) (dat D_X2_init 28 rfl) rfl (le45 rfl) (le45 rfl) ?_
  change AW _ _ _ _ _ _ _ _ [some (vR 7)] [vR 14, vR 7] (15, sg_28)
  refine AW.putV (n := 62) (v := vR 14) fX2_8 wF_X2_31 rfl (le45 rfl) rfl rfl (Or.inr ⟨rfl, rfl, rfl⟩) (by rw [aV_R]; rfl) (by rw [aV_R]; rfl) (dat D_X2_init 29 rfl) rfl ?_
  change AW _ _ _ _ _ _ _ _ [some (vR 7)] [] (15, sg_29)
  exact AW.vret rfl rfl rfl (dat D_X2_init 30 rfl)
set_option maxRecDepth 100000 in
set_option maxHeartbeats 4000000 in
theorem A_X10_init_15 {Γ : GA} (hΓ : (gl Γ).stackTraces = false) : AM Γ mX10_init 2 1 400 [vR 15] (16, sg_31) (0, 0) (17, sg_33) := by
  refine AM.of pl_X10 rfl wC_X10_init (le45 rfl) hΓ ?_
  refine AW.aload_n (n := 1) (dat D_X10_init 0 rfl) rfl rfl ?_
  refine AW.objInit (n := 4) wM_X10_3 oI oC (le45 rfl) (le45 rfl) (dat D_X10_init 1 rfl) rfl ?_
  refine AW.aload_n (n := 5) (dat D_X10_init 2 rfl) rfl rfl ?_
  refine AW.sipush (n := 8) (dat D_X10_init 3 rfl) rfl (by decide) ?_
  refine AW.newa (n := 10) (at9 := .int) (N := 400) (ty := .int) (t0 := 0) (e0 := .inr (0, [])) (uc' := 0) (us' := 0) rfl wY_int (by decide) (le45 rfl) (le45 rfl) (na_20 rfl) (fun C q => by cases q) (dat D_X10_init 4 rfl) rfl (le45 rfl) (le45 rfl) ?_
  change AW _ _ _ _ _ _ _ _ [some (vR 15)] [vR 16, vR 15] (17, sg_32)
  refine AW.putV (n := 13) (v := vR 16) fX10_0 wF_X10_9 rfl (le45 rfl) rfl rfl (Or.inr ⟨rfl, rfl, rfl⟩) (by rw [aV_R]; rfl) (by rw [aV_R]; rfl) (dat D_X10_init 5 rfl) rfl ?_
  change AW _ _ _ _ _ _ _ _ [some (vR 15)] [] (17, sg_33)
  exact AW.vret rfl rfl rfl (dat D_X10_init 6 rfl)
set_option maxRecDepth 100000 in
set_option maxHeartbeats 4000000 in
theorem A_X7_init_17 {Γ : GA} (hΓ : (gl Γ).stackTraces = false) : AM Γ mX7_init 2 0 0 [vR 17, vR 15, vR 1] (18, sg_35) (0, 0) (18, sg_37) := by
  refine AM.of pl_X7 rfl wC_X7_init (le45 rfl) hΓ ?_
  refine AW.aload_n (n := 1) (dat D_X7_init 0 rfl) rfl rfl ?_
  refine AW.objInit (n := 4) wM_X7_3 oI oC (le45 rfl) (le45 rfl) (dat D_X7_init 1 rfl) rfl ?_
  refine AW.aload_n (n := 5) (dat D_X7_init 2 rfl) rfl rfl ?_
  refine AW.aload_n (n := 6) (dat D_X7_init 3 rfl) rfl rfl ?_
  refine AW.putV (n := 9) (v := vR 15) fX7_0 wF_X7_9 rfl (le45 rfl) rfl rfl (Or.inr ⟨rfl, rfl, rfl⟩) (by rw [aV_R]; rfl) (by rw [aV_R]; rfl) (dat D_X7_init 4 rfl) rfl ?_
  change AW _ _ _ _ _ _ _ _ [some (vR 17), some (vR 15), some (vR 1)] [] (18, sg_36)
  refine AW.aload_n (n := 10) (dat D_X7_init 5 rfl) rfl rfl ?_
  refine AW.aload_n (n := 11) (dat D_X7_init 6 rfl) rfl rfl ?_
  refine AW.putV (n := 14) (v := vR 1) fX7_1 wF_X7_15 rfl (le45 rfl) rfl rfl (Or.inl rfl) (by rw [aV_R]; rfl) (by rw [aV_R]; rfl) (dat D_X7_init 7 rfl) rfl ?_
  change AW _ _ _ _ _ _ _ _ [some (vR 17), some (vR 15), some (vR 1)] [] (18, sg_37)
  exact AW.vret rfl rfl rfl (dat D_X7_init 8 rfl)
set_option maxRecDepth 100000 in
set_option maxHeartbeats 4000000 in
theorem A_X3_init_18 {Γ : GA} (hΓ : (gl Γ).stackTraces = false) : AM Γ mX3_init 2 0 0 [vR 18, vR 15, vR 7] (19, sg_39) (0, 0) (19, sg_41) := by
  refine AM.of pl_X3 rfl wC_X3_init (le45 rfl) hΓ ?_
  refine AW.aload_n (n := 1) (dat D_X3_init 0 rfl) rfl rfl ?_
  refine AW.objInit (n := 4) wM_X3_3 oI oC (le45 rfl) (le45 rfl) (dat D_X3_init 1 rfl) rfl ?_
  refine AW.aload_n (n := 5) (dat D_X3_init 2 rfl) rfl rfl ?_
  refine AW.aload_n (n := 6) (dat D_X3_init 3 rfl) rfl rfl ?_
  refine AW.putV (n := 9) (v := vR 15) fX3_0 wF_X3_9 rfl (le45 rfl) rfl rfl (Or.inr ⟨rfl, rfl, rfl⟩) (by rw [aV_R]; rfl) (by rw [aV_R]; rfl) (dat D_X3_init 4 rfl) rfl ?_
  change AW _ _ _ _ _ _ _ _ [some (vR 18), some (vR 15), some (vR 7)] [] (19, sg_40)
  refine AW.aload_n (n := 10) (dat D_X3_init 5 rfl) rfl rfl ?_
  refine AW.aload_n (n := 11) (dat D_X3_init 6 rfl) rfl rfl ?_
  refine AW.putV (n := 14) (v := vR 7) fX3_1 wF_X3_15 rfl (le45 rfl) rfl rfl (Or.inl rfl) (by rw [aV_R]; rfl) (by rw [aV_R]; rfl) (dat D_X3_init 7 rfl) rfl ?_
  change AW _ _ _ _ _ _ _ _ [some (vR 18), some (vR 15), some (vR 7)] [] (19, sg_41)
  exact AW.vret rfl rfl rfl (dat D_X3_init 8 rfl)
set_option maxRecDepth 100000 in
set_option maxHeartbeats 4000000 in
theorem A_X6_init_20 {Γ : GA} (hΓ : (gl Γ).stackTraces = false) : AM Γ mX6_init 2 5 145 [vR 20] (21, sg_45) (0, 0) (26, sg_56) := by
  refine AM.of pl_X6 rfl wC_X6_init (le45 rfl) hΓ ?_
  refine AW.aload_n (n := 1) (dat D_X6_init 0 rfl) rfl rfl ?_
  refine AW.objInit (n := 4) wM_X6_3 oI oC (le45 rfl) (le45 rfl) (dat D_X6_init 1 rfl) rfl ?_
  refine AW.aload_n (n := 5) (dat D_X6_init 2 rfl) rfl rfl ?_
  refine AW.bipush (n := 7) (dat D_X6_init 3 rfl) rfl (by decide) ?_
  refine AW.newa (n := 9) (at9 := .int) (N := 30) (ty := .int) (t0 := 0) (e0 := .inr (0, [])) (uc' := 4) (us' := 115) rfl wY_int (by decide) (le45 rfl) (le45 rfl) (na_20 rfl) (fun C q => by cases q) (dat D_X6_init 4 rfl) rfl (le45 rfl) (le45 rfl) ?_
  change AW _ _ _ _ _ _ _ _ [some (vR 20)] [vR 21, vR 20] (22, sg_46)
  refine AW.putV (n := 12) (v := vR 21) fX6_0 wF_X6_9 rfl (le45 rfl) rfl rfl (Or.inr ⟨rfl, rfl, rfl⟩) (by rw [aV_R]; rfl) (by rw [aV_R]; rfl) (dat D_X6_init 5 rfl) rfl ?_
  change AW _ _ _ _ _ _ _ _ [some (vR 20)] [] (22, sg_47)
  refine AW.aload_n (n := 13) (dat D_X6_init 6 rfl) rfl rfl ?_
  refine AW.iconst (n := 14) (dat D_X6_init 7 rfl) rfl ?_
  refine AW.newa (n := 16) (at9 := .int) (N := 5) (ty := .int) (t0 := 0) (e0 := .inr (0, [])) (uc' := 3) (us' := 110) rfl wY_int (by decide) (le45 rfl) (le45 rfl) (na_20 rfl) (fun C q => by cases q) (dat D_X6_init 8 rfl) rfl (le45 rfl) (le45 rfl) ?_
  change AW _ _ _ _ _ _ _ _ [some (vR 20)] [vR 22, vR 20] (23, sg_48)
  refine AW.putV (n := 19) (v := vR 22) fX6_1 wF_X6_15 rfl (le45 rfl) rfl rfl (Or.inr ⟨rfl, rfl, rfl⟩) (by rw [aV_R]; rfl) (by rw [aV_R]; rfl) (dat D_X6_init 9 rfl) rfl ?_
  change AW _ _ _ _ _ _ _ _ [some (vR 20)] [] (23, sg_49)
  refine AW.aload_n (n := 20) (dat D_X6_init 10 rfl) rfl rfl ?_
  refine AW.iconst (n := 21) (dat D_X6_init 11 rfl) rfl ?_
  refine AW.newa (n := 23) (at9 := .int) (N := 5) (ty := .int) (t0 := 0) (e0 := .inr (0, [])) (uc' := 2) (us' := 105) rfl wY_int (by decide) (le45 rfl) (le45 rfl) (na_20 rfl) (fun C q => by cases q) (dat D_X6_init 12 rfl) rfl (le45 rfl) (le45 rfl) ?_
  change AW _ _ _ _ _ _ _ _ [some (vR 20)] [vR 23, vR 20] (24, sg_50)
  refine AW.putV (n := 26) (v := vR 23) fX6_2 wF_X6_18 rfl (le45 rfl) rfl rfl (Or.inr ⟨rfl, rfl, rfl⟩) (by rw [aV_R]; rfl) (by rw [aV_R]; rfl) (dat D_X6_init 13 rfl) rfl ?_
  change AW _ _ _ _ _ _ _ _ [some (vR 20)] [] (24, sg_51)
  refine AW.aload_n (n := 27) (dat D_X6_init 14 rfl) rfl rfl ?_
  refine AW.iconst (n := 28) (dat D_X6_init 15 rfl) rfl ?_
  refine AW.newa (n := 30) (at9 := .int) (N := 5) (ty := .int) (t0 := 0) (e0 := .inr (0, [])) (uc' := 1) (us' := 100) rfl wY_int (by decide) (le45 rfl) (le45 rfl) (na_20 rfl) (fun C q => by cases q) (dat D_X6_init 16 rfl) rfl (le45 rfl) (le45 rfl) ?_
  change AW _ _ _ _ _ _ _ _ [some (vR 20)] [vR 24, vR 20] (25, sg_52)
  refine AW.putV (n := 33) (v := vR 24) fX6_3 wF_X6_21 rfl (le45 rfl) rfl rfl (Or.inr ⟨rfl, rfl, rfl⟩) (by rw [aV_R]; rfl) (by rw [aV_R]; rfl) (dat D_X6_init 17 rfl) rfl ?_
  change AW _ _ _ _ _ _ _ _ [some (vR 20)] [] (25, sg_53)
  refine AW.aload_n (n := 34) (dat D_X6_init 18 rfl) rfl rfl ?_
  refine AW.bipush (n := 36) (dat D_X6_init 19 rfl) rfl (by decide) ?_
  refine AW.newa (n := 38) (at9 := .int) (N := 100) (ty := .int) (t0 := 0) (e0 := .inr (0, [])) (uc' := 0) (us' := 0) rfl wY_int (by decide) (le45 rfl) (le45 rfl) (na_20 rfl) (fun C q => by cases q) (dat D_X6_init 20 rfl) rfl (le45 rfl) (le45 rfl) ?_
  change AW _ _ _ _ _ _ _ _ [some (vR 20)] [vR 25, vR 20] (26, sg_54)
  refine AW.putV (n := 41) (v := vR 25) fX6_4 wF_X6_24 rfl (le45 rfl) rfl rfl (Or.inr ⟨rfl, rfl, rfl⟩) (by rw [aV_R]; rfl) (by rw [aV_R]; rfl) (dat D_X6_init 21 rfl) rfl ?_
  change AW _ _ _ _ _ _ _ _ [some (vR 20)] [] (26, sg_55)
  refine AW.aload_n (n := 42) (dat D_X6_init 22 rfl) rfl rfl ?_
  refine AW.bipush (n := 44) (dat D_X6_init 23 rfl) rfl (by decide) ?_
  refine AW.putV (n := 47) (v := vI 30) fX6_7 wF_X6_27 rfl (le45 rfl) rfl rfl (Or.inl rfl) rfl rfl (dat D_X6_init 24 rfl) rfl ?_
  change AW _ _ _ _ _ _ _ _ [some (vR 20)] [] (26, sg_56)
  exact AW.vret rfl rfl rfl (dat D_X6_init 25 rfl)
set_option maxRecDepth 100000 in
set_option maxHeartbeats 4000000 in
theorem A_X2_init_26 {Γ : GA} (hΓ : (gl Γ).stackTraces = false) : AM Γ mX2_init 2 7 863 [vR 26] (27, sg_58) (0, 0) (34, sg_72) := by
  refine AM.of pl_X2 rfl wC_X2_init (le45 rfl) hΓ ?_
  refine AW.aload_n (n := 1) (dat D_X2_init 0 rfl) rfl rfl ?_
  refine AW.objInit (n := 4) wM_X2_3 oI oC (le45 rfl) (le45 rfl) (dat D_X2_init 1 rfl) rfl ?_
  refine AW.aload_n (n := 5) (dat D_X2_init 2 rfl) rfl rfl ?_
  refine AW.sipush (n := 8) (dat D_X2_init 3 rfl) rfl (by decide) ?_
  refine AW.newa (n := 10) (at9 := .int) (N := 400) (ty := .int) (t0 := 0) (e0 := .inr (0, [])) (uc' := 6) (us' := 463) rfl wY_int (by decide) (le45 rfl) (le45 rfl) (na_20 rfl) (fun C q => by cases q) (dat D_X2_init 4 rfl) rfl (le45 rfl) (le45 rfl) ?_
  change AW _ _ _ _ _ _ _ _ [some (vR 26)] [vR 27, vR 26] (28, sg_59)
  refine AW.putV (n := 13) (v := vR 27) fX2_0 wF_X2_9 rfl (le45 rfl) rfl rfl (Or.inr ⟨rfl, rfl, rfl⟩) (by rw [aV_R]; rfl) (by rw [aV_R]; rfl) (dat D_X2_init 5 rfl) rfl ?_
  change AW _ _ _ _ _ _ _ _ [some (vR 26)] [] (28, sg_60)
  refine AW.aload_n (n := 14) (dat D_X2_init 6 rfl) rfl rfl ?_
  refine AW.sipush (n := 17) (dat D_X2_init 7 rfl) rfl (by decide) ?_
  refine AW.newa (n := 19) (at9 := .int) (N := 400) (ty := .int) (t0 := 0) (e0 := .inr (0, [])) (uc' := 5) (us' := 63) rfl wY_int (by decide) (le45 rfl) (le45 rfl) (na_20 rfl) (fun C q => by cases q) (dat D_X2_init 8 rfl) rfl (le45 rfl) (le45 rfl) ?_
  change AW _ _ _ _ _ _ _ _ [some (vR 26)] [vR 28, vR 26] (29, sg_61)
  refine AW.putV (n := 22) (v := vR 28) fX2_1 wF_X2_15 rfl (le45 rfl) rfl rfl (Or.inr ⟨rfl, rfl, rfl⟩) (by rw [aV_R]; rfl) (by rw [aV_R]; rfl) (dat D_X2_init 9 rfl) rfl ?_
  change AW _ _ _ _ _ _ _ _ [some (vR 26)] [] (29, sg_62)
  refine AW.aload_n (n := 23) (dat D_X2_init 10 rfl) rfl rfl ?_
  refine AW.bipush (n := 25) (dat D_X2_init 11 rfl) rfl (by decide) ?_
  refine AW.newa (n := 27) (at9 := .boolean) (N := 10) (ty := .boolean) (t0 := 3) (e0 := .inr (0, [])) (uc' := 4) (us' := 53) rfl wY_boolean (by decide) (le45 rfl) (le45 rfl) (na_23 rfl) (fun C q => by cases q) (dat D_X2_init 12 rfl) rfl (le45 rfl) (le45 rfl) ?_
  change AW _ _ _ _ _ _ _ _ [some (vR 26)] [vR 29, vR 26] (30, sg_63)
  refine AW.putV (n := 30) (v := vR 29) fX2_3 wF_X2_18 rfl (le45 rfl) rfl rfl (Or.inr ⟨rfl, rfl, rfl⟩) (by rw [aV_R]; rfl) (by rw [aV_R]; rfl) (dat D_X2_init 13 rfl) rfl ?_
  change AW _ _ _ _ _ _ _ _ [some (vR 26)] [] (30, sg_64)
  refine AW.aload_n (n := 31) (dat D_X2_init 14 rfl) rfl rfl ?_
  refine AW.bipush (n := 33) (dat D_X2_init 15 rfl) rfl (by decide) ?_
  refine AW.newa (n := 35) (at9 := .int) (N := 11) (ty := .int) (t0 := 0) (e0 := .inr (0, [])) (uc' := 3) (us' := 42) rfl wY_int (by decide) (le45 rfl) (le45 rfl) (na_20 rfl) (fun C q => by cases q) (dat D_X2_init 16 rfl) rfl (le45 rfl) (le45 rfl) ?_
  change AW _ _ _ _ _ _ _ _ [some (vR 26)] [vR 30, vR 26] (31, sg_65)
  refine AW.putV (n := 38) (v := vR 30) fX2_4 wF_X2_22 rfl (le45 rfl) rfl rfl (Or.inr ⟨rfl, rfl, rfl⟩) (by rw [aV_R]; rfl) (by rw [aV_R]; rfl) (dat D_X2_init 17 rfl) rfl ?_
  change AW _ _ _ _ _ _ _ _ [some (vR 26)] [] (31, sg_66)
  refine AW.aload_n (n := 39) (dat D_X2_init 18 rfl) rfl rfl ?_
  refine AW.bipush (n := 41) (dat D_X2_init 19 rfl) rfl (by decide) ?_
  refine AW.newa (n := 43) (at9 := .int) (N := 10) (ty := .int) (t0 := 0) (e0 := .inr (0, [])) (uc' := 2) (us' := 32) rfl wY_int (by decide) (le45 rfl) (le45 rfl) (na_20 rfl) (fun C q => by cases q) (dat D_X2_init 20 rfl) rfl (le45 rfl) (le45 rfl) ?_
  change AW _ _ _ _ _ _ _ _ [some (vR 26)] [vR 31, vR 26] (32, sg_67)
  refine AW.putV (n := 46) (v := vR 31) fX2_5 wF_X2_25 rfl (le45 rfl) rfl rfl (Or.inr ⟨rfl, rfl, rfl⟩) (by rw [aV_R]; rfl) (by rw [aV_R]; rfl) (dat D_X2_init 21 rfl) rfl ?_
  change AW _ _ _ _ _ _ _ _ [some (vR 26)] [] (32, sg_68)
  refine AW.aload_n (n := 47) (dat D_X2_init 22 rfl) rfl rfl ?_
  refine AW.bipush (n := 49) (dat D_X2_init 23 rfl) rfl (by decide) ?_
  refine AW.newa (n := 51) (at9 := .int) (N := 8) (ty := .int) (t0 := 0) (e0 := .inr (0, [])) (uc' := 1) (us' := 24) rfl wY_int (by decide) (le45 rfl) (le45 rfl) (na_20 rfl) (fun C q => by cases q) (dat D_X2_init 24 rfl) rfl (le45 rfl) (le45 rfl) ?_
  change AW _ _ _ _ _ _ _ _ [some (vR 26)] [vR 32, vR 26] (33, sg_69)
  refine AW.putV (n := 54) (v := vR 32) fX2_7 wF_X2_28 rfl (le45 rfl) rfl rfl (Or.inr ⟨rfl, rfl, rfl⟩) (by rw [aV_R]; rfl) (by rw [aV_R]; rfl) (dat D_X2_init 25 rfl) rfl ?_
  change AW _ _ _ _ _ _ _ _ [some (vR 26)] [] (33, sg_70)
  refine AW.aload_n (n := 55) (dat D_X2_init 26 rfl) rfl rfl ?_
  refine AW.bipush (n := 57) (dat D_X2_init 27 rfl) rfl (by decide) ?_
  refine AW.newa (n := 59) (at9 := .int) (N := 24) (ty := .int) (t0 := 0) (e0 := .inr (0, [])) (uc' := 0) (us' := 0) rfl wY_int (by decide) (le45 rfl) (le45 rfl) (na_20 rfl) (fun C q => by cases q) (dat D_X2_init 28 rfl) rfl (le45 rfl) (le45 rfl) ?_
  change AW _ _ _ _ _ _ _ _ [some (vR 26)] [vR 33, vR 26] (34, sg_71)
  refine AW.putV (n := 62) (v := vR 33) fX2_8 wF_X2_31 rfl (le45 rfl) rfl rfl (Or.inr ⟨rfl, rfl, rfl⟩) (by rw [aV_R]; rfl) (by rw [aV_R]; rfl) (dat D_X2_init 29 rfl) rfl ?_
  change AW _ _ _ _ _ _ _ _ [some (vR 26)] [] (34, sg_72)
  exact AW.vret rfl rfl rfl (dat D_X2_init 30 rfl)
set_option maxRecDepth 100000 in
set_option maxHeartbeats 4000000 in
theorem A_X5_init_35 {Γ : GA} (hΓ : (gl Γ).stackTraces = false) : AM Γ mX5_init 2 1 5 [vR 35] (36, sg_76) (0, 0) (37, sg_78) := by
  refine AM.of pl_X5 rfl wC_X5_init (le45 rfl) hΓ ?_
  refine AW.aload_n (n := 1) (dat D_X5_init 0 rfl) rfl rfl ?_
  refine AW.objInit (n := 4) wM_X5_3 oI oC (le45 rfl) (le45 rfl) (dat D_X5_init 1 rfl) rfl ?_
  refine AW.aload_n (n := 5) (dat D_X5_init 2 rfl) rfl rfl ?_
  refine AW.iconst (n := 6) (dat D_X5_init 3 rfl) rfl ?_
  refine AW.newa (n := 8) (at9 := .int) (N := 5) (ty := .int) (t0 := 0) (e0 := .inr (0, [])) (uc' := 0) (us' := 0) rfl wY_int (by decide) (le45 rfl) (le45 rfl) (na_20 rfl) (fun C q => by cases q) (dat D_X5_init 4 rfl) rfl (le45 rfl) (le45 rfl) ?_
  change AW _ _ _ _ _ _ _ _ [some (vR 35)] [vR 36, vR 35] (37, sg_77)
  refine AW.putV (n := 11) (v := vR 36) fX5_0 wF_X5_9 rfl (le45 rfl) rfl rfl (Or.inr ⟨rfl, rfl, rfl⟩) (by rw [aV_R]; rfl) (by rw [aV_R]; rfl) (dat D_X5_init 5 rfl) rfl ?_
  change AW _ _ _ _ _ _ _ _ [some (vR 35)] [] (37, sg_78)
  exact AW.vret rfl rfl rfl (dat D_X5_init 6 rfl)
set_option maxRecDepth 100000 in
set_option maxHeartbeats 4000000 in
theorem A_X9_init_39 {Γ : GA} (hΓ : (gl Γ).stackTraces = false) : AM Γ mX9_init 2 1 140 [vR 39, vI 0] (40, sg_86) (0, 0) (41, sg_91) := by
  refine AM.of pl_X9 rfl wC_X9_init (le45 rfl) hΓ ?_
  refine AW.aload_n (n := 1) (dat D_X9_init 0 rfl) rfl rfl ?_
  refine AW.objInit (n := 4) wM_X9_3 oI oC (le45 rfl) (le45 rfl) (dat D_X9_init 1 rfl) rfl ?_
  refine AW.aload_n (n := 5) (dat D_X9_init 2 rfl) rfl rfl ?_
  refine AW.sipush (n := 8) (dat D_X9_init 3 rfl) rfl (by decide) ?_
  refine AW.newa (n := 10) (at9 := .int) (N := 140) (ty := .int) (t0 := 0) (e0 := .inr (0, [])) (uc' := 0) (us' := 0) rfl wY_int (by decide) (le45 rfl) (le45 rfl) (na_20 rfl) (fun C q => by cases q) (dat D_X9_init 4 rfl) rfl (le45 rfl) (le45 rfl) ?_
  change AW _ _ _ _ _ _ _ _ [some (vR 39), some (vI 0)] [vR 40, vR 39] (41, sg_87)
  refine AW.putV (n := 13) (v := vR 40) fX9_1 wF_X9_11 rfl (le45 rfl) rfl rfl (Or.inr ⟨rfl, rfl, rfl⟩) (by rw [aV_R]; rfl) (by rw [aV_R]; rfl) (dat D_X9_init 5 rfl) rfl ?_
  change AW _ _ _ _ _ _ _ _ [some (vR 39), some (vI 0)] [] (41, sg_88)
  refine AW.aload_n (n := 14) (dat D_X9_init 6 rfl) rfl rfl ?_
  refine AW.iconst (n := 15) (dat D_X9_init 7 rfl) rfl ?_
  refine AW.putV (n := 18) (v := vI 1) fX9_5 wF_X9_15 rfl (le45 rfl) rfl rfl (Or.inl rfl) rfl rfl (dat D_X9_init 8 rfl) rfl ?_
  change AW _ _ _ _ _ _ _ _ [some (vR 39), some (vI 0)] [] (41, sg_89)
  refine AW.aload_n (n := 19) (dat D_X9_init 9 rfl) rfl rfl ?_
  refine AW.iconst (n := 20) (dat D_X9_init 10 rfl) rfl ?_
  refine AW.putV (n := 23) (v := vI (-1)) fX9_8 wF_X9_19 rfl (le45 rfl) rfl rfl (Or.inl rfl) rfl rfl (dat D_X9_init 11 rfl) rfl ?_
  change AW _ _ _ _ _ _ _ _ [some (vR 39), some (vI 0)] [] (41, sg_90)
  refine AW.aload_n (n := 24) (dat D_X9_init 12 rfl) rfl rfl ?_
  refine AW.iload_n (n := 25) (dat D_X9_init 13 rfl) rfl rfl ?_
  refine AW.putV (n := 28) (v := vI 0) fX9_0 wF_X9_22 rfl (le45 rfl) rfl rfl (Or.inr ⟨rfl, rfl, rfl⟩) rfl rfl (dat D_X9_init 14 rfl) rfl ?_
  change AW _ _ _ _ _ _ _ _ [some (vR 39), some (vI 0)] [] (41, sg_91)
  exact AW.vret rfl rfl rfl (dat D_X9_init 15 rfl)
set_option maxRecDepth 100000 in
set_option maxHeartbeats 4000000 in
theorem A_X9_init_41 {Γ : GA} (hΓ : (gl Γ).stackTraces = false) : AM Γ mX9_init 2 1 140 [vR 41, vI 1] (42, sg_93) (0, 0) (43, sg_98) := by
  refine AM.of pl_X9 rfl wC_X9_init (le45 rfl) hΓ ?_
  refine AW.aload_n (n := 1) (dat D_X9_init 0 rfl) rfl rfl ?_
  refine AW.objInit (n := 4) wM_X9_3 oI oC (le45 rfl) (le45 rfl) (dat D_X9_init 1 rfl) rfl ?_
  refine AW.aload_n (n := 5) (dat D_X9_init 2 rfl) rfl rfl ?_
  refine AW.sipush (n := 8) (dat D_X9_init 3 rfl) rfl (by decide) ?_
  refine AW.newa (n := 10) (at9 := .int) (N := 140) (ty := .int) (t0 := 0) (e0 := .inr (0, [])) (uc' := 0) (us' := 0) rfl wY_int (by decide) (le45 rfl) (le45 rfl) (na_20 rfl) (fun C q => by cases q) (dat D_X9_init 4 rfl) rfl (le45 rfl) (le45 rfl) ?_
  change AW _ _ _ _ _ _ _ _ [some (vR 41), some (vI 1)] [vR 42, vR 41] (43, sg_94)
  refine AW.putV (n := 13) (v := vR 42) fX9_1 wF_X9_11 rfl (le45 rfl) rfl rfl (Or.inr ⟨rfl, rfl, rfl⟩) (by rw [aV_R]; rfl) (by rw [aV_R]; rfl) (dat D_X9_init 5 rfl) rfl ?_
  change AW _ _ _ _ _ _ _ _ [some (vR 41), some (vI 1)] [] (43, sg_95)
  refine AW.aload_n (n := 14) (dat D_X9_init 6 rfl) rfl rfl ?_
  refine AW.iconst (n := 15) (dat D_X9_init 7 rfl) rfl ?_
  refine AW.putV (n := 18) (v := vI 1) fX9_5 wF_X9_15 rfl (le45 rfl) rfl rfl (Or.inl rfl) rfl rfl (dat D_X9_init 8 rfl) rfl ?_
  change AW _ _ _ _ _ _ _ _ [some (vR 41), some (vI 1)] [] (43, sg_96)
  refine AW.aload_n (n := 19) (dat D_X9_init 9 rfl) rfl rfl ?_
  refine AW.iconst (n := 20) (dat D_X9_init 10 rfl) rfl ?_
  refine AW.putV (n := 23) (v := vI (-1)) fX9_8 wF_X9_19 rfl (le45 rfl) rfl rfl (Or.inl rfl) rfl rfl (dat D_X9_init 11 rfl) rfl ?_
  change AW _ _ _ _ _ _ _ _ [some (vR 41), some (vI 1)] [] (43, sg_97)
  refine AW.aload_n (n := 24) (dat D_X9_init 12 rfl) rfl rfl ?_
  refine AW.iload_n (n := 25) (dat D_X9_init 13 rfl) rfl rfl ?_
  refine AW.putV (n := 28) (v := vI 1) fX9_0 wF_X9_22 rfl (le45 rfl) rfl rfl (Or.inr ⟨rfl, rfl, rfl⟩) rfl rfl (dat D_X9_init 14 rfl) rfl ?_
  change AW _ _ _ _ _ _ _ _ [some (vR 41), some (vI 1)] [] (43, sg_98)
  exact AW.vret rfl rfl rfl (dat D_X9_init 15 rfl)
set_option maxRecDepth 100000 in
set_option maxHeartbeats 4000000 in
theorem A_X9_init_43 {Γ : GA} (hΓ : (gl Γ).stackTraces = false) : AM Γ mX9_init 2 1 140 [vR 43, vI 2] (44, sg_100) (0, 0) (45, sg_105) := by
  refine AM.of pl_X9 rfl wC_X9_init (le45 rfl) hΓ ?_
  refine AW.aload_n (n := 1) (dat D_X9_init 0 rfl) rfl rfl ?_
  refine AW.objInit (n := 4) wM_X9_3 oI oC (le45 rfl) (le45 rfl) (dat D_X9_init 1 rfl) rfl ?_
  refine AW.aload_n (n := 5) (dat D_X9_init 2 rfl) rfl rfl ?_
  refine AW.sipush (n := 8) (dat D_X9_init 3 rfl) rfl (by decide) ?_
  refine AW.newa (n := 10) (at9 := .int) (N := 140) (ty := .int) (t0 := 0) (e0 := .inr (0, [])) (uc' := 0) (us' := 0) rfl wY_int (by decide) (le45 rfl) (le45 rfl) (na_20 rfl) (fun C q => by cases q) (dat D_X9_init 4 rfl) rfl (le45 rfl) (le45 rfl) ?_
  change AW _ _ _ _ _ _ _ _ [some (vR 43), some (vI 2)] [vR 44, vR 43] (45, sg_101)
  refine AW.putV (n := 13) (v := vR 44) fX9_1 wF_X9_11 rfl (le45 rfl) rfl rfl (Or.inr ⟨rfl, rfl, rfl⟩) (by rw [aV_R]; rfl) (by rw [aV_R]; rfl) (dat D_X9_init 5 rfl) rfl ?_
  change AW _ _ _ _ _ _ _ _ [some (vR 43), some (vI 2)] [] (45, sg_102)
  refine AW.aload_n (n := 14) (dat D_X9_init 6 rfl) rfl rfl ?_
  refine AW.iconst (n := 15) (dat D_X9_init 7 rfl) rfl ?_
  refine AW.putV (n := 18) (v := vI 1) fX9_5 wF_X9_15 rfl (le45 rfl) rfl rfl (Or.inl rfl) rfl rfl (dat D_X9_init 8 rfl) rfl ?_
  change AW _ _ _ _ _ _ _ _ [some (vR 43), some (vI 2)] [] (45, sg_103)
  refine AW.aload_n (n := 19) (dat D_X9_init 9 rfl) rfl rfl ?_
  refine AW.iconst (n := 20) (dat D_X9_init 10 rfl) rfl ?_
  refine AW.putV (n := 23) (v := vI (-1)) fX9_8 wF_X9_19 rfl (le45 rfl) rfl rfl (Or.inl rfl) rfl rfl (dat D_X9_init 11 rfl) rfl ?_
  change AW _ _ _ _ _ _ _ _ [some (vR 43), some (vI 2)] [] (45, sg_104)
  refine AW.aload_n (n := 24) (dat D_X9_init 12 rfl) rfl rfl ?_
  refine AW.iload_n (n := 25) (dat D_X9_init 13 rfl) rfl rfl ?_
  refine AW.putV (n := 28) (v := vI 2) fX9_0 wF_X9_22 rfl (le45 rfl) rfl rfl (Or.inr ⟨rfl, rfl, rfl⟩) rfl rfl (dat D_X9_init 14 rfl) rfl ?_
  change AW _ _ _ _ _ _ _ _ [some (vR 43), some (vI 2)] [] (45, sg_105)
  exact AW.vret rfl rfl rfl (dat D_X9_init 15 rfl)
set_option maxRecDepth 100000 in
set_option maxHeartbeats 4000000 in
theorem A_X9_init_45 {Γ : GA} (hΓ : (gl Γ).stackTraces = false) : AM Γ mX9_init 2 1 140 [vR 45, vI 3] (46, sg_107) (0, 0) (47, sg_112) := by
  refine AM.of pl_X9 rfl wC_X9_init (le45 rfl) hΓ ?_
  refine AW.aload_n (n := 1) (dat D_X9_init 0 rfl) rfl rfl ?_
  refine AW.objInit (n := 4) wM_X9_3 oI oC (le45 rfl) (le45 rfl) (dat D_X9_init 1 rfl) rfl ?_
  refine AW.aload_n (n := 5) (dat D_X9_init 2 rfl) rfl rfl ?_
  refine AW.sipush (n := 8) (dat D_X9_init 3 rfl) rfl (by decide) ?_
  refine AW.newa (n := 10) (at9 := .int) (N := 140) (ty := .int) (t0 := 0) (e0 := .inr (0, [])) (uc' := 0) (us' := 0) rfl wY_int (by decide) (le45 rfl) (le45 rfl) (na_20 rfl) (fun C q => by cases q) (dat D_X9_init 4 rfl) rfl (le45 rfl) (le45 rfl) ?_
  change AW _ _ _ _ _ _ _ _ [some (vR 45), some (vI 3)] [vR 46, vR 45] (47, sg_108)
  refine AW.putV (n := 13) (v := vR 46) fX9_1 wF_X9_11 rfl (le45 rfl) rfl rfl (Or.inr ⟨rfl, rfl, rfl⟩) (by rw [aV_R]; rfl) (by rw [aV_R]; rfl) (dat D_X9_init 5 rfl) rfl ?_
  change AW _ _ _ _ _ _ _ _ [some (vR 45), some (vI 3)] [] (47, sg_109)
  refine AW.aload_n (n := 14) (dat D_X9_init 6 rfl) rfl rfl ?_
  refine AW.iconst (n := 15) (dat D_X9_init 7 rfl) rfl ?_
  refine AW.putV (n := 18) (v := vI 1) fX9_5 wF_X9_15 rfl (le45 rfl) rfl rfl (Or.inl rfl) rfl rfl (dat D_X9_init 8 rfl) rfl ?_
  change AW _ _ _ _ _ _ _ _ [some (vR 45), some (vI 3)] [] (47, sg_110)
  refine AW.aload_n (n := 19) (dat D_X9_init 9 rfl) rfl rfl ?_
  refine AW.iconst (n := 20) (dat D_X9_init 10 rfl) rfl ?_
  refine AW.putV (n := 23) (v := vI (-1)) fX9_8 wF_X9_19 rfl (le45 rfl) rfl rfl (Or.inl rfl) rfl rfl (dat D_X9_init 11 rfl) rfl ?_
  change AW _ _ _ _ _ _ _ _ [some (vR 45), some (vI 3)] [] (47, sg_111)
  refine AW.aload_n (n := 24) (dat D_X9_init 12 rfl) rfl rfl ?_
  refine AW.iload_n (n := 25) (dat D_X9_init 13 rfl) rfl rfl ?_
  refine AW.putV (n := 28) (v := vI 3) fX9_0 wF_X9_22 rfl (le45 rfl) rfl rfl (Or.inr ⟨rfl, rfl, rfl⟩) rfl rfl (dat D_X9_init 14 rfl) rfl ?_
  change AW _ _ _ _ _ _ _ _ [some (vR 45), some (vI 3)] [] (47, sg_112)
  exact AW.vret rfl rfl rfl (dat D_X9_init 15 rfl)
set_option maxRecDepth 100000 in
set_option maxHeartbeats 4000000 in
theorem A_X9_init_47 {Γ : GA} (hΓ : (gl Γ).stackTraces = false) : AM Γ mX9_init 2 1 140 [vR 47, vI 4] (48, sg_114) (0, 0) (49, sg_119) := by
  refine AM.of pl_X9 rfl wC_X9_init (le45 rfl) hΓ ?_
  refine AW.aload_n (n := 1) (dat D_X9_init 0 rfl) rfl rfl ?_
  refine AW.objInit (n := 4) wM_X9_3 oI oC (le45 rfl) (le45 rfl) (dat D_X9_init 1 rfl) rfl ?_
  refine AW.aload_n (n := 5) (dat D_X9_init 2 rfl) rfl rfl ?_
  refine AW.sipush (n := 8) (dat D_X9_init 3 rfl) rfl (by decide) ?_
  refine AW.newa (n := 10) (at9 := .int) (N := 140) (ty := .int) (t0 := 0) (e0 := .inr (0, [])) (uc' := 0) (us' := 0) rfl wY_int (by decide) (le45 rfl) (le45 rfl) (na_20 rfl) (fun C q => by cases q) (dat D_X9_init 4 rfl) rfl (le45 rfl) (le45 rfl) ?_
  change AW _ _ _ _ _ _ _ _ [some (vR 47), some (vI 4)] [vR 48, vR 47] (49, sg_115)
  refine AW.putV (n := 13) (v := vR 48) fX9_1 wF_X9_11 rfl (le45 rfl) rfl rfl (Or.inr ⟨rfl, rfl, rfl⟩) (by rw [aV_R]; rfl) (by rw [aV_R]; rfl) (dat D_X9_init 5 rfl) rfl ?_
  change AW _ _ _ _ _ _ _ _ [some (vR 47), some (vI 4)] [] (49, sg_116)
  refine AW.aload_n (n := 14) (dat D_X9_init 6 rfl) rfl rfl ?_
  refine AW.iconst (n := 15) (dat D_X9_init 7 rfl) rfl ?_
  refine AW.putV (n := 18) (v := vI 1) fX9_5 wF_X9_15 rfl (le45 rfl) rfl rfl (Or.inl rfl) rfl rfl (dat D_X9_init 8 rfl) rfl ?_
  change AW _ _ _ _ _ _ _ _ [some (vR 47), some (vI 4)] [] (49, sg_117)
  refine AW.aload_n (n := 19) (dat D_X9_init 9 rfl) rfl rfl ?_
  refine AW.iconst (n := 20) (dat D_X9_init 10 rfl) rfl ?_
  refine AW.putV (n := 23) (v := vI (-1)) fX9_8 wF_X9_19 rfl (le45 rfl) rfl rfl (Or.inl rfl) rfl rfl (dat D_X9_init 11 rfl) rfl ?_
  change AW _ _ _ _ _ _ _ _ [some (vR 47), some (vI 4)] [] (49, sg_118)
  refine AW.aload_n (n := 24) (dat D_X9_init 12 rfl) rfl rfl ?_
  refine AW.iload_n (n := 25) (dat D_X9_init 13 rfl) rfl rfl ?_
  refine AW.putV (n := 28) (v := vI 4) fX9_0 wF_X9_22 rfl (le45 rfl) rfl rfl (Or.inr ⟨rfl, rfl, rfl⟩) rfl rfl (dat D_X9_init 14 rfl) rfl ?_
  change AW _ _ _ _ _ _ _ _ [some (vR 47), some (vI 4)] [] (49, sg_119)
  exact AW.vret rfl rfl rfl (dat D_X9_init 15 rfl)
set_option maxRecDepth 100000 in
set_option maxHeartbeats 4000000 in
theorem A_X1_init_19 {Γ : GA} (hΓ : (gl Γ).stackTraces = false) : AM Γ mX1_init 4 29 1903 [vR 19] (20, sg_44) (0, 0) (49, sg_120) := by
  refine AM.of pl_X1 rfl wC_X1_init (le45 rfl) hΓ ?_
  refine AW.to (ls'' := [some (vR 19), none]) ?_ (lle_s rfl (lle_e lle_z))
  refine AW.aload_n (n := 1) (dat D_X1_init 0 rfl) rfl rfl ?_
  refine AW.objInit (n := 4) wM_X1_3 oI oC (le45 rfl) (le45 rfl) (dat D_X1_init 1 rfl) rfl ?_
  refine AW.aload_n (n := 5) (dat D_X1_init 2 rfl) rfl rfl ?_
  refine AW.new (n := 8) (uc' := 28) (us' := 1894) fX6_0 rfl (le45 rfl) wL_X1_9 wA_WaveRight_Sea wN_WaveRight_Sea (dv_6 Γ) (dat D_X1_init 3 rfl) rfl (le45 rfl) (le45 rfl) ?_
  change AW _ _ _ _ _ _ _ _ [some (vR 19), none] [vR 20, vR 19] (21, sg_45)
  refine AW.dup (n := 9) (dat D_X1_init 4 rfl) rfl (cR _) ?_
  refine AW.callN (k := 20) (c := 0) (N := 0) (T := TX0) (host := "WaveRight") (n := 12) (as := []) (st := [vR 20, vR 19]) (uc' := 23) (us' := 1749) (A_X6_init_20 hΓ) wQ_X1_11 wI_X6_init wN_WaveRight_Sea wC_X6_init rfl rfl rfl ft_X6_init (le45 rfl) (le45 rfl) (le45 rfl) (dat D_X1_init 5 rfl) rfl (fun _ => ⟨by decide, rfl⟩) (le45 rfl) (le45 rfl) (fun _ => ?_) nlt0
  change AW _ _ _ _ _ _ _ _ [some (vR 19), none] [vR 20, vR 19] (26, sg_56)
  refine AW.putV (n := 15) (v := vR 20) fX1_0 wF_X1_12 rfl (le45 rfl) rfl rfl (Or.inl rfl) (by rw [aV_R]; rfl) (by rw [aV_R]; rfl) (dat D_X1_init 6 rfl) rfl ?_
  change AW _ _ _ _ _ _ _ _ [some (vR 19), none] [] (26, sg_57)
  refine AW.aload_n (n := 16) (dat D_X1_init 7 rfl) rfl rfl ?_
  refine AW.new (n := 19) (uc' := 22) (us' := 1737) fX2_0 rfl (le45 rfl) wL_X1_18 wA_WaveRight_Judge wN_WaveRight_Judge (dv_2 Γ) (dat D_X1_init 8 rfl) rfl (le45 rfl) (le45 rfl) ?_
  change AW _ _ _ _ _ _ _ _ [some (vR 19), none] [vR 26, vR 19] (27, sg_58)
  refine AW.dup (n := 20) (dat D_X1_init 9 rfl) rfl (cR _) ?_
  refine AW.callN (k := 26) (c := 0) (N := 0) (T := TX0) (host := "WaveRight") (n := 23) (as := []) (st := [vR 26, vR 19]) (uc' := 15) (us' := 874) (A_X2_init_26 hΓ) wQ_X1_20 wI_X2_init wN_WaveRight_Judge wC_X2_init rfl rfl rfl ft_X2_init (le45 rfl) (le45 rfl) (le45 rfl) (dat D_X1_init 10 rfl) rfl (fun _ => ⟨by decide, rfl⟩) (le45 rfl) (le45 rfl) (fun _ => ?_) nlt0
  change AW _ _ _ _ _ _ _ _ [some (vR 19), none] [vR 26, vR 19] (34, sg_72)
  refine AW.putV (n := 26) (v := vR 26) fX1_1 wF_X1_21 rfl (le45 rfl) rfl rfl (Or.inl rfl) (by rw [aV_R]; rfl) (by rw [aV_R]; rfl) (dat D_X1_init 11 rfl) rfl ?_
  change AW _ _ _ _ _ _ _ _ [some (vR 19), none] [] (34, sg_73)
  refine AW.aload_n (n := 27) (dat D_X1_init 12 rfl) rfl rfl ?_
  refine AW.iconst (n := 28) (dat D_X1_init 13 rfl) rfl ?_
  refine AW.anew (n := 31) (N := 5) (uc' := 14) (us' := 869) wL_X1_25 rfl (by decide) (le45 rfl) (le45 rfl) (dat D_X1_init 14 rfl) rfl (le45 rfl) (le45 rfl) ?_
  change AW _ _ _ _ _ _ _ _ [some (vR 19), none] [vR 34, vR 19] (35, sg_74)
  refine AW.putV (n := 34) (v := vR 34) fX1_2 wF_X1_27 rfl (le45 rfl) rfl rfl (Or.inr ⟨rfl, rfl, rfl⟩) (by rw [aV_R]; rfl) (by rw [aV_R]; rfl) (dat D_X1_init 15 rfl) rfl ?_
  change AW _ _ _ _ _ _ _ _ [some (vR 19), none] [] (35, sg_75)
  refine AW.aload_n (n := 35) (dat D_X1_init 16 rfl) rfl rfl ?_
  refine AW.new (n := 38) (uc' := 13) (us' := 866) fX5_0 rfl (le45 rfl) wL_X1_31 wA_WaveRight_Row wN_WaveRight_Row (dv_5 Γ) (dat D_X1_init 17 rfl) rfl (le45 rfl) (le45 rfl) ?_
  change AW _ _ _ _ _ _ _ _ [some (vR 19), none] [vR 35, vR 19] (36, sg_76)
  refine AW.dup (n := 39) (dat D_X1_init 18 rfl) rfl (cR _) ?_
  refine AW.callN (k := 35) (c := 0) (N := 0) (T := TX0) (host := "WaveRight") (n := 42) (as := []) (st := [vR 35, vR 19]) (uc' := 12) (us' := 861) (A_X5_init_35 hΓ) wQ_X1_33 wI_X5_init wN_WaveRight_Row wC_X5_init rfl rfl rfl ft_X5_init (le45 rfl) (le45 rfl) (le45 rfl) (dat D_X1_init 19 rfl) rfl (fun _ => ⟨by decide, rfl⟩) (le45 rfl) (le45 rfl) (fun _ => ?_) nlt0
  change AW _ _ _ _ _ _ _ _ [some (vR 19), none] [vR 35, vR 19] (37, sg_78)
  refine AW.putV (n := 45) (v := vR 35) fX1_3 wF_X1_34 rfl (le45 rfl) rfl rfl (Or.inr ⟨rfl, rfl, rfl⟩) (by rw [aV_R]; rfl) (by rw [aV_R]; rfl) (dat D_X1_init 20 rfl) rfl ?_
  change AW _ _ _ _ _ _ _ _ [some (vR 19), none] [] (37, sg_79)
  refine AW.aload_n (n := 46) (dat D_X1_init 21 rfl) rfl rfl ?_
  refine AW.bipush (n := 48) (dat D_X1_init 22 rfl) rfl (by decide) ?_
  refine AW.newa (n := 50) (at9 := .int) (N := 80) (ty := .int) (t0 := 0) (e0 := .inr (0, [])) (uc' := 11) (us' := 781) rfl wY_int (by decide) (le45 rfl) (le45 rfl) (na_20 rfl) (fun C q => by cases q) (dat D_X1_init 23 rfl) rfl (le45 rfl) (le45 rfl) ?_
  change AW _ _ _ _ _ _ _ _ [some (vR 19), none] [vR 37, vR 19] (38, sg_80)
  refine AW.putV (n := 53) (v := vR 37) fX1_4 wF_X1_38 rfl (le45 rfl) rfl rfl (Or.inr ⟨rfl, rfl, rfl⟩) (by rw [aV_R]; rfl) (by rw [aV_R]; rfl) (dat D_X1_init 24 rfl) rfl ?_
  change AW _ _ _ _ _ _ _ _ [some (vR 19), none] [] (38, sg_81)
  refine AW.aload_n (n := 54) (dat D_X1_init 25 rfl) rfl rfl ?_
  refine AW.bipush (n := 56) (dat D_X1_init 26 rfl) rfl (by decide) ?_
  refine AW.newa (n := 58) (at9 := .int) (N := 6) (ty := .int) (t0 := 0) (e0 := .inr (0, [])) (uc' := 10) (us' := 775) rfl wY_int (by decide) (le45 rfl) (le45 rfl) (na_20 rfl) (fun C q => by cases q) (dat D_X1_init 27 rfl) rfl (le45 rfl) (le45 rfl) ?_
  change AW _ _ _ _ _ _ _ _ [some (vR 19), none] [vR 38, vR 19] (39, sg_82)
  refine AW.putV (n := 61) (v := vR 38) fX1_5 wF_X1_42 rfl (le45 rfl) rfl rfl (Or.inr ⟨rfl, rfl, rfl⟩) (by rw [aV_R]; rfl) (by rw [aV_R]; rfl) (dat D_X1_init 28 rfl) rfl ?_
  change AW _ _ _ _ _ _ _ _ [some (vR 19), none] [] (39, sg_83)
  refine AW.aload_n (n := 62) (dat D_X1_init 29 rfl) rfl rfl ?_
  refine AW.iconst (n := 63) (dat D_X1_init 30 rfl) rfl ?_
  refine AW.putV (n := 66) (v := vI (-1)) fX1_13 wF_X1_45 rfl (le45 rfl) rfl rfl (Or.inl rfl) rfl rfl (dat D_X1_init 31 rfl) rfl ?_
  change AW _ _ _ _ _ _ _ _ [some (vR 19), none] [] (39, sg_84)
  refine AW.aload_n (n := 67) (dat D_X1_init 32 rfl) rfl rfl ?_
  refine AW.iconst (n := 68) (dat D_X1_init 33 rfl) rfl ?_
  refine AW.putV (n := 71) (v := vI 1) fX1_14 wF_X1_49 rfl (le45 rfl) rfl rfl (Or.inl rfl) rfl (show fits .boolean (.int (Int32.ofInt 1)) = true by decide) (dat D_X1_init 34 rfl) rfl ?_
  change AW _ _ _ _ _ _ _ _ [some (vR 19), none] [] (39, sg_85)
  refine AW.iconst (n := 72) (dat D_X1_init 35 rfl) rfl ?_
  refine AW.istore_n (n := 73) (ls' := [some (vR 19), some (vI 0)]) (dat D_X1_init 36 rfl) rfl (le45 rfl) (le45 rfl) rfl rfl ?_
  refine AW.iload_n (n := 74) (dat D_X1_init 37 rfl) rfl rfl ?_
  refine AW.iconst (n := 75) (dat D_X1_init 38 rfl) rfl ?_
  refine AW.icmp_ge (t := 98) (n := 78) (x2 := 0) (y2 := 5) (dat D_X1_init 39 rfl) rfl rfl (by decide) (by decide) (fun q => absurd q (by decide)) (fun _ => ?_)
  refine AW.aload_n (n := 79) (dat D_X1_init 40 rfl) rfl rfl ?_
  refine AW.getQ (t := 34) (n := 82) fX1_2 wF_X1_27 rfl (le45 rfl) rfl rfl (by decide +kernel) (dat D_X1_init 41 rfl) rfl ?_
  refine AW.iload_n (n := 83) (dat D_X1_init 42 rfl) rfl rfl ?_
  refine AW.new (n := 86) (uc' := 9) (us' := 760) fX9_0 rfl (le45 rfl) wL_X1_25 wA_WaveRight_Swimmer wN_WaveRight_Swimmer (dv_9 Γ) (dat D_X1_init 43 rfl) rfl (le45 rfl) (le45 rfl) ?_
  change AW _ _ _ _ _ _ _ _ [some (vR 19), some (vI 0)] [vR 39, vI 0, vR 34] (40, sg_86)
  refine AW.dup (n := 87) (dat D_X1_init 44 rfl) rfl (cR _) ?_
  refine AW.iload_n (n := 88) (dat D_X1_init 45 rfl) rfl rfl ?_
  refine AW.callI (k := 39) (c := 0) (N := 0) (T := TX0) (n := 91) (as := [vI 0]) (st := [vR 39, vI 0, vR 34]) (uc' := 8) (us' := 620) (A_X9_init_39 hΓ) wM_X1_53 wI_X9_init wN_WaveRight_Swimmer wC_X9_init rfl rfl rfl ft_X9_init (le45 rfl) (le45 rfl) (le45 rfl) (dat D_X1_init 46 rfl) rfl (fun _ => ⟨by decide, rfl⟩) (le45 rfl) (le45 rfl) (fun _ => ?_) nlt0
  change AW _ _ _ _ _ _ _ _ [some (vR 19), some (vI 0)] [vR 39, vI 0, vR 34] (41, sg_91)
  refine AW.aast (n := 92) rfl (le45 rfl) (by decide) rfl (le45 rfl) (dat D_X1_init 47 rfl) rfl ?_
  change AW _ _ _ _ _ _ _ _ [some (vR 19), some (vI 0)] [] (41, sg_92)
  refine AW.iinc (n := 95) (ls' := [some (vR 19), some (vI 1)]) (dat D_X1_init 48 rfl) rfl rfl (le45 rfl) rfl rfl ?_
  refine AW.goto (t := 73) (dat D_X1_init 49 rfl) rfl ?_
  refine AW.iload_n (n := 74) (dat D_X1_init 37 rfl) rfl rfl ?_
  refine AW.iconst (n := 75) (dat D_X1_init 38 rfl) rfl ?_
  refine AW.icmp_ge (t := 98) (n := 78) (x2 := 1) (y2 := 5) (dat D_X1_init 39 rfl) rfl rfl (by decide) (by decide) (fun q => absurd q (by decide)) (fun _ => ?_)
  refine AW.aload_n (n := 79) (dat D_X1_init 40 rfl) rfl rfl ?_
  refine AW.getQ (t := 34) (n := 82) fX1_2 wF_X1_27 rfl (le45 rfl) rfl rfl (by decide +kernel) (dat D_X1_init 41 rfl) rfl ?_
  refine AW.iload_n (n := 83) (dat D_X1_init 42 rfl) rfl rfl ?_
  refine AW.new (n := 86) (uc' := 7) (us' := 605) fX9_0 rfl (le45 rfl) wL_X1_25 wA_WaveRight_Swimmer wN_WaveRight_Swimmer (dv_9 Γ) (dat D_X1_init 43 rfl) rfl (le45 rfl) (le45 rfl) ?_
  change AW _ _ _ _ _ _ _ _ [some (vR 19), some (vI 1)] [vR 41, vI 1, vR 34] (42, sg_93)
  refine AW.dup (n := 87) (dat D_X1_init 44 rfl) rfl (cR _) ?_
  refine AW.iload_n (n := 88) (dat D_X1_init 45 rfl) rfl rfl ?_
  refine AW.callI (k := 41) (c := 0) (N := 0) (T := TX0) (n := 91) (as := [vI 1]) (st := [vR 41, vI 1, vR 34]) (uc' := 6) (us' := 465) (A_X9_init_41 hΓ) wM_X1_53 wI_X9_init wN_WaveRight_Swimmer wC_X9_init rfl rfl rfl ft_X9_init (le45 rfl) (le45 rfl) (le45 rfl) (dat D_X1_init 46 rfl) rfl (fun _ => ⟨by decide, rfl⟩) (le45 rfl) (le45 rfl) (fun _ => ?_) nlt0
  change AW _ _ _ _ _ _ _ _ [some (vR 19), some (vI 1)] [vR 41, vI 1, vR 34] (43, sg_98)
  refine AW.aast (n := 92) rfl (le45 rfl) (by decide) rfl (le45 rfl) (dat D_X1_init 47 rfl) rfl ?_
  change AW _ _ _ _ _ _ _ _ [some (vR 19), some (vI 1)] [] (43, sg_99)
  refine AW.iinc (n := 95) (ls' := [some (vR 19), some (vI 2)]) (dat D_X1_init 48 rfl) rfl rfl (le45 rfl) rfl rfl ?_
  refine AW.goto (t := 73) (dat D_X1_init 49 rfl) rfl ?_
  refine AW.iload_n (n := 74) (dat D_X1_init 37 rfl) rfl rfl ?_
  refine AW.iconst (n := 75) (dat D_X1_init 38 rfl) rfl ?_
  refine AW.icmp_ge (t := 98) (n := 78) (x2 := 2) (y2 := 5) (dat D_X1_init 39 rfl) rfl rfl (by decide) (by decide) (fun q => absurd q (by decide)) (fun _ => ?_)
  refine AW.aload_n (n := 79) (dat D_X1_init 40 rfl) rfl rfl ?_
  refine AW.getQ (t := 34) (n := 82) fX1_2 wF_X1_27 rfl (le45 rfl) rfl rfl (by decide +kernel) (dat D_X1_init 41 rfl) rfl ?_
  refine AW.iload_n (n := 83) (dat D_X1_init 42 rfl) rfl rfl ?_
  refine AW.new (n := 86) (uc' := 5) (us' := 450) fX9_0 rfl (le45 rfl) wL_X1_25 wA_WaveRight_Swimmer wN_WaveRight_Swimmer (dv_9 Γ) (dat D_X1_init 43 rfl) rfl (le45 rfl) (le45 rfl) ?_
  change AW _ _ _ _ _ _ _ _ [some (vR 19), some (vI 2)] [vR 43, vI 2, vR 34] (44, sg_100)
  refine AW.dup (n := 87) (dat D_X1_init 44 rfl) rfl (cR _) ?_
  refine AW.iload_n (n := 88) (dat D_X1_init 45 rfl) rfl rfl ?_
  refine AW.callI (k := 43) (c := 0) (N := 0) (T := TX0) (n := 91) (as := [vI 2]) (st := [vR 43, vI 2, vR 34]) (uc' := 4) (us' := 310) (A_X9_init_43 hΓ) wM_X1_53 wI_X9_init wN_WaveRight_Swimmer wC_X9_init rfl rfl rfl ft_X9_init (le45 rfl) (le45 rfl) (le45 rfl) (dat D_X1_init 46 rfl) rfl (fun _ => ⟨by decide, rfl⟩) (le45 rfl) (le45 rfl) (fun _ => ?_) nlt0
  change AW _ _ _ _ _ _ _ _ [some (vR 19), some (vI 2)] [vR 43, vI 2, vR 34] (45, sg_105)
  refine AW.aast (n := 92) rfl (le45 rfl) (by decide) rfl (le45 rfl) (dat D_X1_init 47 rfl) rfl ?_
  change AW _ _ _ _ _ _ _ _ [some (vR 19), some (vI 2)] [] (45, sg_106)
  refine AW.iinc (n := 95) (ls' := [some (vR 19), some (vI 3)]) (dat D_X1_init 48 rfl) rfl rfl (le45 rfl) rfl rfl ?_
  refine AW.goto (t := 73) (dat D_X1_init 49 rfl) rfl ?_
  refine AW.iload_n (n := 74) (dat D_X1_init 37 rfl) rfl rfl ?_
  refine AW.iconst (n := 75) (dat D_X1_init 38 rfl) rfl ?_
  refine AW.icmp_ge (t := 98) (n := 78) (x2 := 3) (y2 := 5) (dat D_X1_init 39 rfl) rfl rfl (by decide) (by decide) (fun q => absurd q (by decide)) (fun _ => ?_)
  refine AW.aload_n (n := 79) (dat D_X1_init 40 rfl) rfl rfl ?_
  refine AW.getQ (t := 34) (n := 82) fX1_2 wF_X1_27 rfl (le45 rfl) rfl rfl (by decide +kernel) (dat D_X1_init 41 rfl) rfl ?_
  refine AW.iload_n (n := 83) (dat D_X1_init 42 rfl) rfl rfl ?_
  refine AW.new (n := 86) (uc' := 3) (us' := 295) fX9_0 rfl (le45 rfl) wL_X1_25 wA_WaveRight_Swimmer wN_WaveRight_Swimmer (dv_9 Γ) (dat D_X1_init 43 rfl) rfl (le45 rfl) (le45 rfl) ?_
  change AW _ _ _ _ _ _ _ _ [some (vR 19), some (vI 3)] [vR 45, vI 3, vR 34] (46, sg_107)
  refine AW.dup (n := 87) (dat D_X1_init 44 rfl) rfl (cR _) ?_
  refine AW.iload_n (n := 88) (dat D_X1_init 45 rfl) rfl rfl ?_
  refine AW.callI (k := 45) (c := 0) (N := 0) (T := TX0) (n := 91) (as := [vI 3]) (st := [vR 45, vI 3, vR 34]) (uc' := 2) (us' := 155) (A_X9_init_45 hΓ) wM_X1_53 wI_X9_init wN_WaveRight_Swimmer wC_X9_init rfl rfl rfl ft_X9_init (le45 rfl) (le45 rfl) (le45 rfl) (dat D_X1_init 46 rfl) rfl (fun _ => ⟨by decide, rfl⟩) (le45 rfl) (le45 rfl) (fun _ => ?_) nlt0
  change AW _ _ _ _ _ _ _ _ [some (vR 19), some (vI 3)] [vR 45, vI 3, vR 34] (47, sg_112)
  refine AW.aast (n := 92) rfl (le45 rfl) (by decide) rfl (le45 rfl) (dat D_X1_init 47 rfl) rfl ?_
  change AW _ _ _ _ _ _ _ _ [some (vR 19), some (vI 3)] [] (47, sg_113)
  refine AW.iinc (n := 95) (ls' := [some (vR 19), some (vI 4)]) (dat D_X1_init 48 rfl) rfl rfl (le45 rfl) rfl rfl ?_
  refine AW.goto (t := 73) (dat D_X1_init 49 rfl) rfl ?_
  refine AW.iload_n (n := 74) (dat D_X1_init 37 rfl) rfl rfl ?_
  refine AW.iconst (n := 75) (dat D_X1_init 38 rfl) rfl ?_
  refine AW.icmp_ge (t := 98) (n := 78) (x2 := 4) (y2 := 5) (dat D_X1_init 39 rfl) rfl rfl (by decide) (by decide) (fun q => absurd q (by decide)) (fun _ => ?_)
  refine AW.aload_n (n := 79) (dat D_X1_init 40 rfl) rfl rfl ?_
  refine AW.getQ (t := 34) (n := 82) fX1_2 wF_X1_27 rfl (le45 rfl) rfl rfl (by decide +kernel) (dat D_X1_init 41 rfl) rfl ?_
  refine AW.iload_n (n := 83) (dat D_X1_init 42 rfl) rfl rfl ?_
  refine AW.new (n := 86) (uc' := 1) (us' := 140) fX9_0 rfl (le45 rfl) wL_X1_25 wA_WaveRight_Swimmer wN_WaveRight_Swimmer (dv_9 Γ) (dat D_X1_init 43 rfl) rfl (le45 rfl) (le45 rfl) ?_
  change AW _ _ _ _ _ _ _ _ [some (vR 19), some (vI 4)] [vR 47, vI 4, vR 34] (48, sg_114)
  refine AW.dup (n := 87) (dat D_X1_init 44 rfl) rfl (cR _) ?_
  refine AW.iload_n (n := 88) (dat D_X1_init 45 rfl) rfl rfl ?_
  refine AW.callI (k := 47) (c := 0) (N := 0) (T := TX0) (n := 91) (as := [vI 4]) (st := [vR 47, vI 4, vR 34]) (uc' := 0) (us' := 0) (A_X9_init_47 hΓ) wM_X1_53 wI_X9_init wN_WaveRight_Swimmer wC_X9_init rfl rfl rfl ft_X9_init (le45 rfl) (le45 rfl) (le45 rfl) (dat D_X1_init 46 rfl) rfl (fun _ => ⟨by decide, rfl⟩) (le45 rfl) (le45 rfl) (fun _ => ?_) nlt0
  change AW _ _ _ _ _ _ _ _ [some (vR 19), some (vI 4)] [vR 47, vI 4, vR 34] (49, sg_119)
  refine AW.aast (n := 92) rfl (le45 rfl) (by decide) rfl (le45 rfl) (dat D_X1_init 47 rfl) rfl ?_
  change AW _ _ _ _ _ _ _ _ [some (vR 19), some (vI 4)] [] (49, sg_120)
  refine AW.iinc (n := 95) (ls' := [some (vR 19), some (vI 5)]) (dat D_X1_init 48 rfl) rfl rfl (le45 rfl) rfl rfl ?_
  refine AW.goto (t := 73) (dat D_X1_init 49 rfl) rfl ?_
  refine AW.iload_n (n := 74) (dat D_X1_init 37 rfl) rfl rfl ?_
  refine AW.iconst (n := 75) (dat D_X1_init 38 rfl) rfl ?_
  refine AW.icmp_ge (t := 98) (n := 78) (x2 := 5) (y2 := 5) (dat D_X1_init 39 rfl) rfl rfl (by decide) (by decide) (fun _ => ?_) (fun q => absurd (by decide) q)
  exact AW.vret rfl rfl rfl (dat D_X1_init 50 rfl)
set_option maxRecDepth 100000 in
set_option maxHeartbeats 4000000 in
theorem A_X8_init_49 {Γ : GA} (hΓ : (gl Γ).stackTraces = false) : AM Γ mX8_init 2 0 0 [vR 49, vR 19] (50, sg_122) (0, 0) (50, sg_123) := by
  refine AM.of pl_X8 rfl wC_X8_init (le45 rfl) hΓ ?_
  refine AW.aload_n (n := 1) (dat D_X8_init 0 rfl) rfl rfl ?_
  refine AW.objInit (n := 4) wM_X8_3 oI oC (le45 rfl) (le45 rfl) (dat D_X8_init 1 rfl) rfl ?_
  refine AW.aload_n (n := 5) (dat D_X8_init 2 rfl) rfl rfl ?_
  refine AW.aload_n (n := 6) (dat D_X8_init 3 rfl) rfl rfl ?_
  refine AW.putV (n := 9) (v := vR 19) fX8_0 wF_X8_9 rfl (le45 rfl) rfl rfl (Or.inr ⟨rfl, rfl, rfl⟩) (by rw [aV_R]; rfl) (by rw [aV_R]; rfl) (dat D_X8_init 4 rfl) rfl ?_
  change AW _ _ _ _ _ _ _ _ [some (vR 49), some (vR 19)] [] (50, sg_123)
  exact AW.vret rfl rfl rfl (dat D_X8_init 5 rfl)
set_option maxRecDepth 100000 in
set_option maxHeartbeats 4000000 in
theorem A_X0_init_50 {Γ : GA} (hΓ : (gl Γ).stackTraces = false) : AM Γ mX0_init 2 2 40 [vR 50, vR 19, vR 49] (51, sg_125) (0, 0) (53, sg_131) := by
  refine AM.of pl_X0 rfl wC_X0_init (le45 rfl) hΓ ?_
  refine AW.aload_n (n := 1) (dat D_X0_init 0 rfl) rfl rfl ?_
  refine AW.objInit (n := 4) wM_X0_3 oI oC (le45 rfl) (le45 rfl) (dat D_X0_init 1 rfl) rfl ?_
  refine AW.aload_n (n := 5) (dat D_X0_init 2 rfl) rfl rfl ?_
  refine AW.bipush (n := 7) (dat D_X0_init 3 rfl) rfl (by decide) ?_
  refine AW.newa (n := 9) (at9 := .int) (N := 20) (ty := .int) (t0 := 0) (e0 := .inr (0, [])) (uc' := 1) (us' := 20) rfl wY_int (by decide) (le45 rfl) (le45 rfl) (na_20 rfl) (fun C q => by cases q) (dat D_X0_init 4 rfl) rfl (le45 rfl) (le45 rfl) ?_
  change AW _ _ _ _ _ _ _ _ [some (vR 50), some (vR 19), some (vR 49)] [vR 51, vR 50] (52, sg_126)
  refine AW.putV (n := 12) (v := vR 51) fX0_8 wF_X0_9 rfl (le45 rfl) rfl rfl (Or.inr ⟨rfl, rfl, rfl⟩) (by rw [aV_R]; rfl) (by rw [aV_R]; rfl) (dat D_X0_init 5 rfl) rfl ?_
  change AW _ _ _ _ _ _ _ _ [some (vR 50), some (vR 19), some (vR 49)] [] (52, sg_127)
  refine AW.aload_n (n := 13) (dat D_X0_init 6 rfl) rfl rfl ?_
  refine AW.bipush (n := 15) (dat D_X0_init 7 rfl) rfl (by decide) ?_
  refine AW.newa (n := 17) (at9 := .int) (N := 20) (ty := .int) (t0 := 0) (e0 := .inr (0, [])) (uc' := 0) (us' := 0) rfl wY_int (by decide) (le45 rfl) (le45 rfl) (na_20 rfl) (fun C q => by cases q) (dat D_X0_init 8 rfl) rfl (le45 rfl) (le45 rfl) ?_
  change AW _ _ _ _ _ _ _ _ [some (vR 50), some (vR 19), some (vR 49)] [vR 52, vR 50] (53, sg_128)
  refine AW.putV (n := 20) (v := vR 52) fX0_9 wF_X0_15 rfl (le45 rfl) rfl rfl (Or.inr ⟨rfl, rfl, rfl⟩) (by rw [aV_R]; rfl) (by rw [aV_R]; rfl) (dat D_X0_init 9 rfl) rfl ?_
  change AW _ _ _ _ _ _ _ _ [some (vR 50), some (vR 19), some (vR 49)] [] (53, sg_129)
  refine AW.aload_n (n := 21) (dat D_X0_init 10 rfl) rfl rfl ?_
  refine AW.aload_n (n := 22) (dat D_X0_init 11 rfl) rfl rfl ?_
  refine AW.putV (n := 25) (v := vR 19) fX0_0 wF_X0_18 rfl (le45 rfl) rfl rfl (Or.inr ⟨rfl, rfl, rfl⟩) (by rw [aV_R]; rfl) (by rw [aV_R]; rfl) (dat D_X0_init 12 rfl) rfl ?_
  change AW _ _ _ _ _ _ _ _ [some (vR 50), some (vR 19), some (vR 49)] [] (53, sg_130)
  refine AW.aload_n (n := 26) (dat D_X0_init 13 rfl) rfl rfl ?_
  refine AW.aload_n (n := 27) (dat D_X0_init 14 rfl) rfl rfl ?_
  refine AW.putV (n := 30) (v := vR 49) fX0_1 wF_X0_22 rfl (le45 rfl) rfl rfl (Or.inr ⟨rfl, rfl, rfl⟩) (by rw [aV_R]; rfl) (by rw [aV_R]; rfl) (dat D_X0_init 15 rfl) rfl ?_
  change AW _ _ _ _ _ _ _ _ [some (vR 50), some (vR 19), some (vR 49)] [] (53, sg_131)
  exact AW.vret rfl rfl rfl (dat D_X0_init 16 rfl)
set_option maxRecDepth 100000 in
set_option maxHeartbeats 4000000 in
theorem A_X4_init_53 {Γ : GA} (hΓ : (gl Γ).stackTraces = false) : AM Γ mX4_init 2 3 462 [vR 53, vR 19] (54, sg_133) (0, 0) (57, sg_140) := by
  refine AM.of pl_X4 rfl wC_X4_init (le45 rfl) hΓ ?_
  refine AW.aload_n (n := 1) (dat D_X4_init 0 rfl) rfl rfl ?_
  refine AW.objInit (n := 4) wM_X4_3 oI oC (le45 rfl) (le45 rfl) (dat D_X4_init 1 rfl) rfl ?_
  refine AW.aload_n (n := 5) (dat D_X4_init 2 rfl) rfl rfl ?_
  refine AW.bipush (n := 7) (dat D_X4_init 3 rfl) rfl (by decide) ?_
  refine AW.newa (n := 9) (at9 := .int) (N := 8) (ty := .int) (t0 := 0) (e0 := .inr (0, [])) (uc' := 2) (us' := 454) rfl wY_int (by decide) (le45 rfl) (le45 rfl) (na_20 rfl) (fun C q => by cases q) (dat D_X4_init 4 rfl) rfl (le45 rfl) (le45 rfl) ?_
  change AW _ _ _ _ _ _ _ _ [some (vR 53), some (vR 19)] [vR 54, vR 53] (55, sg_134)
  refine AW.putV (n := 12) (v := vR 54) fX4_1 wF_X4_11 rfl (le45 rfl) rfl rfl (Or.inr ⟨rfl, rfl, rfl⟩) (by rw [aV_R]; rfl) (by rw [aV_R]; rfl) (dat D_X4_init 5 rfl) rfl ?_
  change AW _ _ _ _ _ _ _ _ [some (vR 53), some (vR 19)] [] (55, sg_135)
  refine AW.aload_n (n := 13) (dat D_X4_init 6 rfl) rfl rfl ?_
  refine AW.bipush (n := 15) (dat D_X4_init 7 rfl) rfl (by decide) ?_
  refine AW.newa (n := 17) (at9 := .int) (N := 6) (ty := .int) (t0 := 0) (e0 := .inr (0, [])) (uc' := 1) (us' := 448) rfl wY_int (by decide) (le45 rfl) (le45 rfl) (na_20 rfl) (fun C q => by cases q) (dat D_X4_init 8 rfl) rfl (le45 rfl) (le45 rfl) ?_
  change AW _ _ _ _ _ _ _ _ [some (vR 53), some (vR 19)] [vR 55, vR 53] (56, sg_136)
  refine AW.putV (n := 20) (v := vR 55) fX4_3 wF_X4_15 rfl (le45 rfl) rfl rfl (Or.inr ⟨rfl, rfl, rfl⟩) (by rw [aV_R]; rfl) (by rw [aV_R]; rfl) (dat D_X4_init 9 rfl) rfl ?_
  change AW _ _ _ _ _ _ _ _ [some (vR 53), some (vR 19)] [] (56, sg_137)
  refine AW.aload_n (n := 21) (dat D_X4_init 10 rfl) rfl rfl ?_
  refine AW.sipush (n := 24) (dat D_X4_init 11 rfl) rfl (by decide) ?_
  refine AW.newa (n := 26) (at9 := .long) (N := 448) (ty := .long) (t0 := 1) (e0 := .inr (0, [])) (uc' := 0) (us' := 0) rfl wY_long (by decide) (le45 rfl) (le45 rfl) (na_21 rfl) (fun C q => by cases q) (dat D_X4_init 12 rfl) rfl (le45 rfl) (le45 rfl) ?_
  change AW _ _ _ _ _ _ _ _ [some (vR 53), some (vR 19)] [vR 56, vR 53] (57, sg_138)
  refine AW.putV (n := 29) (v := vR 56) fX4_4 wF_X4_18 rfl (le45 rfl) rfl rfl (Or.inr ⟨rfl, rfl, rfl⟩) (by rw [aV_R]; rfl) (by rw [aV_R]; rfl) (dat D_X4_init 13 rfl) rfl ?_
  change AW _ _ _ _ _ _ _ _ [some (vR 53), some (vR 19)] [] (57, sg_139)
  refine AW.aload_n (n := 30) (dat D_X4_init 14 rfl) rfl rfl ?_
  refine AW.aload_n (n := 31) (dat D_X4_init 15 rfl) rfl rfl ?_
  refine AW.putV (n := 34) (v := vR 19) fX4_0 wF_X4_22 rfl (le45 rfl) rfl rfl (Or.inr ⟨rfl, rfl, rfl⟩) (by rw [aV_R]; rfl) (by rw [aV_R]; rfl) (dat D_X4_init 16 rfl) rfl ?_
  change AW _ _ _ _ _ _ _ _ [some (vR 53), some (vR 19)] [] (57, sg_140)
  exact AW.vret rfl rfl rfl (dat D_X4_init 17 rfl)
set_option maxRecDepth 100000 in
set_option maxHeartbeats 4000000 in
theorem A_X11_init_0 {Γ : GA} (hΓ : (gl Γ).stackTraces = false) : AM Γ mX11_init 6 56 3878 [vR 0] (1, sg_1) (0, 0) (57, sg_141) := by
  refine AM.of pl_X11 rfl wC_X11_init (le45 rfl) hΓ ?_
  refine AW.aload_n (n := 1) (dat D_X11_init 0 rfl) rfl rfl ?_
  refine AW.objInit (n := 4) wM_X11_1 oI oC (le45 rfl) (le45 rfl) (dat D_X11_init 1 rfl) rfl ?_
  refine AW.aload_n (n := 5) (dat D_X11_init 2 rfl) rfl rfl ?_
  refine AW.new (n := 8) (uc' := 55) (us' := 3869) fX6_0 rfl (le45 rfl) wL_X11_7 wA_WaveRight_Sea wN_WaveRight_Sea (dv_6 Γ) (dat D_X11_init 3 rfl) rfl (le45 rfl) (le45 rfl) ?_
  change AW _ _ _ _ _ _ _ _ [some (vR 0)] [vR 1, vR 0] (2, sg_2)
  refine AW.dup (n := 9) (dat D_X11_init 4 rfl) rfl (cR _) ?_
  refine AW.callN (k := 1) (c := 0) (N := 0) (T := TX0) (host := "WaveRight") (n := 12) (as := []) (st := [vR 1, vR 0]) (uc' := 50) (us' := 3724) (A_X6_init_1 hΓ) wQ_X11_9 wI_X6_init wN_WaveRight_Sea wC_X6_init rfl rfl rfl ft_X6_init (le45 rfl) (le45 rfl) (le45 rfl) (dat D_X11_init 5 rfl) rfl (fun _ => ⟨by decide, rfl⟩) (le45 rfl) (le45 rfl) (fun _ => ?_) nlt0
  change AW _ _ _ _ _ _ _ _ [some (vR 0)] [vR 1, vR 0] (7, sg_13)
  refine AW.putV (n := 15) (v := vR 1) fX11_0 wF_X11_10 rfl (le45 rfl) rfl rfl (Or.inl rfl) (by rw [aV_R]; rfl) (by rw [aV_R]; rfl) (dat D_X11_init 6 rfl) rfl ?_
  change AW _ _ _ _ _ _ _ _ [some (vR 0)] [] (7, sg_14)
  refine AW.aload_n (n := 16) (dat D_X11_init 7 rfl) rfl rfl ?_
  refine AW.new (n := 19) (uc' := 49) (us' := 3712) fX2_0 rfl (le45 rfl) wL_X11_16 wA_WaveRight_Judge wN_WaveRight_Judge (dv_2 Γ) (dat D_X11_init 8 rfl) rfl (le45 rfl) (le45 rfl) ?_
  change AW _ _ _ _ _ _ _ _ [some (vR 0)] [vR 7, vR 0] (8, sg_15)
  refine AW.dup (n := 20) (dat D_X11_init 9 rfl) rfl (cR _) ?_
  refine AW.callN (k := 7) (c := 0) (N := 0) (T := TX0) (host := "WaveRight") (n := 23) (as := []) (st := [vR 7, vR 0]) (uc' := 42) (us' := 2849) (A_X2_init_7 hΓ) wQ_X11_18 wI_X2_init wN_WaveRight_Judge wC_X2_init rfl rfl rfl ft_X2_init (le45 rfl) (le45 rfl) (le45 rfl) (dat D_X11_init 10 rfl) rfl (fun _ => ⟨by decide, rfl⟩) (le45 rfl) (le45 rfl) (fun _ => ?_) nlt0
  change AW _ _ _ _ _ _ _ _ [some (vR 0)] [vR 7, vR 0] (15, sg_29)
  refine AW.putV (n := 26) (v := vR 7) fX11_1 wF_X11_19 rfl (le45 rfl) rfl rfl (Or.inl rfl) (by rw [aV_R]; rfl) (by rw [aV_R]; rfl) (dat D_X11_init 11 rfl) rfl ?_
  change AW _ _ _ _ _ _ _ _ [some (vR 0)] [] (15, sg_30)
  refine AW.aload_n (n := 27) (dat D_X11_init 12 rfl) rfl rfl ?_
  refine AW.new (n := 30) (uc' := 41) (us' := 2843) fX10_0 rfl (le45 rfl) wL_X11_23 wA_WaveRight_Text wN_WaveRight_Text (dv_10 Γ) (dat D_X11_init 13 rfl) rfl (le45 rfl) (le45 rfl) ?_
  change AW _ _ _ _ _ _ _ _ [some (vR 0)] [vR 15, vR 0] (16, sg_31)
  refine AW.dup (n := 31) (dat D_X11_init 14 rfl) rfl (cR _) ?_
  refine AW.callN (k := 15) (c := 0) (N := 0) (T := TX0) (host := "WaveRight") (n := 34) (as := []) (st := [vR 15, vR 0]) (uc' := 40) (us' := 2443) (A_X10_init_15 hΓ) wQ_X11_25 wI_X10_init wN_WaveRight_Text wC_X10_init rfl rfl rfl ft_X10_init (le45 rfl) (le45 rfl) (le45 rfl) (dat D_X11_init 15 rfl) rfl (fun _ => ⟨by decide, rfl⟩) (le45 rfl) (le45 rfl) (fun _ => ?_) nlt0
  change AW _ _ _ _ _ _ _ _ [some (vR 0)] [vR 15, vR 0] (17, sg_33)
  refine AW.putV (n := 37) (v := vR 15) fX11_2 wF_X11_26 rfl (le45 rfl) rfl rfl (Or.inr ⟨rfl, rfl, rfl⟩) (by rw [aV_R]; rfl) (by rw [aV_R]; rfl) (dat D_X11_init 16 rfl) rfl ?_
  change AW _ _ _ _ _ _ _ _ [some (vR 0)] [] (17, sg_34)
  refine AW.aload_n (n := 38) (dat D_X11_init 17 rfl) rfl rfl ?_
  refine AW.new (n := 41) (uc' := 39) (us' := 2439) fX7_0 rfl (le45 rfl) wL_X11_30 wA_WaveRight_SeaReader wN_WaveRight_SeaReader (dv_7 Γ) (dat D_X11_init 18 rfl) rfl (le45 rfl) (le45 rfl) ?_
  change AW _ _ _ _ _ _ _ _ [some (vR 0)] [vR 17, vR 0] (18, sg_35)
  refine AW.dup (n := 42) (dat D_X11_init 19 rfl) rfl (cR _) ?_
  refine AW.aload_n (n := 43) (dat D_X11_init 20 rfl) rfl rfl ?_
  refine AW.getQ (t := 15) (n := 46) fX11_2 wF_X11_26 rfl (le45 rfl) rfl rfl (by decide +kernel) (dat D_X11_init 21 rfl) rfl ?_
  refine AW.aload_n (n := 47) (dat D_X11_init 22 rfl) rfl rfl ?_
  refine AW.getQ (t := 1) (n := 50) fX11_0 wF_X11_10 rfl (le45 rfl) rfl rfl (by decide +kernel) (dat D_X11_init 23 rfl) rfl ?_
  refine AW.callI (k := 17) (c := 0) (N := 0) (T := TX0) (n := 53) (as := [vR 15, vR 1]) (st := [vR 17, vR 0]) (uc' := 39) (us' := 2439) (A_X7_init_17 hΓ) wM_X11_32 wI_X7_init wN_WaveRight_SeaReader wC_X7_init rfl rfl rfl ft_X7_init (le45 rfl) (le45 rfl) (le45 rfl) (dat D_X11_init 24 rfl) rfl (fun _ => ⟨by decide, rfl⟩) (le45 rfl) (le45 rfl) (fun _ => ?_) nlt0
  change AW _ _ _ _ _ _ _ _ [some (vR 0)] [vR 17, vR 0] (18, sg_37)
  refine AW.putV (n := 56) (v := vR 17) fX11_3 wF_X11_35 rfl (le45 rfl) rfl rfl (Or.inr ⟨rfl, rfl, rfl⟩) (by rw [aV_R]; rfl) (by rw [aV_R]; rfl) (dat D_X11_init 25 rfl) rfl ?_
  change AW _ _ _ _ _ _ _ _ [some (vR 0)] [] (18, sg_38)
  refine AW.aload_n (n := 57) (dat D_X11_init 26 rfl) rfl rfl ?_
  refine AW.new (n := 60) (uc' := 38) (us' := 2437) fX3_0 rfl (le45 rfl) wL_X11_39 wA_WaveRight_JudgeReader wN_WaveRight_JudgeReader (dv_3 Γ) (dat D_X11_init 27 rfl) rfl (le45 rfl) (le45 rfl) ?_
  change AW _ _ _ _ _ _ _ _ [some (vR 0)] [vR 18, vR 0] (19, sg_39)
  refine AW.dup (n := 61) (dat D_X11_init 28 rfl) rfl (cR _) ?_
  refine AW.aload_n (n := 62) (dat D_X11_init 29 rfl) rfl rfl ?_
  refine AW.getQ (t := 15) (n := 65) fX11_2 wF_X11_26 rfl (le45 rfl) rfl rfl (by decide +kernel) (dat D_X11_init 30 rfl) rfl ?_
  refine AW.aload_n (n := 66) (dat D_X11_init 31 rfl) rfl rfl ?_
  refine AW.getQ (t := 7) (n := 69) fX11_1 wF_X11_19 rfl (le45 rfl) rfl rfl (by decide +kernel) (dat D_X11_init 32 rfl) rfl ?_
  refine AW.callI (k := 18) (c := 0) (N := 0) (T := TX0) (n := 72) (as := [vR 15, vR 7]) (st := [vR 18, vR 0]) (uc' := 38) (us' := 2437) (A_X3_init_18 hΓ) wM_X11_41 wI_X3_init wN_WaveRight_JudgeReader wC_X3_init rfl rfl rfl ft_X3_init (le45 rfl) (le45 rfl) (le45 rfl) (dat D_X11_init 33 rfl) rfl (fun _ => ⟨by decide, rfl⟩) (le45 rfl) (le45 rfl) (fun _ => ?_) nlt0
  change AW _ _ _ _ _ _ _ _ [some (vR 0)] [vR 18, vR 0] (19, sg_41)
  refine AW.putV (n := 75) (v := vR 18) fX11_4 wF_X11_44 rfl (le45 rfl) rfl rfl (Or.inr ⟨rfl, rfl, rfl⟩) (by rw [aV_R]; rfl) (by rw [aV_R]; rfl) (dat D_X11_init 34 rfl) rfl ?_
  change AW _ _ _ _ _ _ _ _ [some (vR 0)] [] (19, sg_42)
  refine AW.aload_n (n := 76) (dat D_X11_init 35 rfl) rfl rfl ?_
  refine AW.iconst (n := 77) (dat D_X11_init 36 rfl) rfl ?_
  refine AW.putV (n := 80) (v := vI (-1)) fX11_5 wF_X11_48 rfl (le45 rfl) rfl rfl (Or.inl rfl) rfl rfl (dat D_X11_init 37 rfl) rfl ?_
  change AW _ _ _ _ _ _ _ _ [some (vR 0)] [] (19, sg_43)
  refine AW.aload_n (n := 81) (dat D_X11_init 38 rfl) rfl rfl ?_
  refine AW.new (n := 84) (uc' := 37) (us' := 2421) fX1_0 rfl (le45 rfl) wL_X11_52 wA_WaveRight_Heat wN_WaveRight_Heat (dv_1 Γ) (dat D_X11_init 39 rfl) rfl (le45 rfl) (le45 rfl) ?_
  change AW _ _ _ _ _ _ _ _ [some (vR 0)] [vR 19, vR 0] (20, sg_44)
  refine AW.dup (n := 85) (dat D_X11_init 40 rfl) rfl (cR _) ?_
  refine AW.callI (k := 19) (c := 0) (N := 0) (T := TX0) (n := 88) (as := []) (st := [vR 19, vR 0]) (uc' := 8) (us' := 518) (A_X1_init_19 hΓ) wM_X11_54 wI_X1_init wN_WaveRight_Heat wC_X1_init rfl rfl rfl ft_X1_init (le45 rfl) (le45 rfl) (le45 rfl) (dat D_X11_init 41 rfl) rfl (fun _ => ⟨by decide, rfl⟩) (le45 rfl) (le45 rfl) (fun _ => ?_) nlt0
  change AW _ _ _ _ _ _ _ _ [some (vR 0)] [vR 19, vR 0] (49, sg_120)
  refine AW.putV (n := 91) (v := vR 19) fX11_6 wF_X11_55 rfl (le45 rfl) rfl rfl (Or.inr ⟨rfl, rfl, rfl⟩) (by rw [aV_R]; rfl) (by rw [aV_R]; rfl) (dat D_X11_init 42 rfl) rfl ?_
  change AW _ _ _ _ _ _ _ _ [some (vR 0)] [] (49, sg_121)
  refine AW.aload_n (n := 92) (dat D_X11_init 43 rfl) rfl rfl ?_
  refine AW.new (n := 95) (uc' := 7) (us' := 517) fX8_0 rfl (le45 rfl) wL_X11_59 wA_WaveRight_Standing wN_WaveRight_Standing (dv_8 Γ) (dat D_X11_init 44 rfl) rfl (le45 rfl) (le45 rfl) ?_
  change AW _ _ _ _ _ _ _ _ [some (vR 0)] [vR 49, vR 0] (50, sg_122)
  refine AW.dup (n := 96) (dat D_X11_init 45 rfl) rfl (cR _) ?_
  refine AW.aload_n (n := 97) (dat D_X11_init 46 rfl) rfl rfl ?_
  refine AW.getQ (t := 19) (n := 100) fX11_6 wF_X11_55 rfl (le45 rfl) rfl rfl (by decide +kernel) (dat D_X11_init 47 rfl) rfl ?_
  refine AW.callI (k := 49) (c := 0) (N := 0) (T := TX0) (n := 103) (as := [vR 19]) (st := [vR 49, vR 0]) (uc' := 7) (us' := 517) (A_X8_init_49 hΓ) wM_X11_61 wI_X8_init wN_WaveRight_Standing wC_X8_init rfl rfl rfl ft_X8_init (le45 rfl) (le45 rfl) (le45 rfl) (dat D_X11_init 48 rfl) rfl (fun _ => ⟨by decide, rfl⟩) (le45 rfl) (le45 rfl) (fun _ => ?_) nlt0
  change AW _ _ _ _ _ _ _ _ [some (vR 0)] [vR 49, vR 0] (50, sg_123)
  refine AW.putV (n := 106) (v := vR 49) fX11_7 wF_X11_64 rfl (le45 rfl) rfl rfl (Or.inr ⟨rfl, rfl, rfl⟩) (by rw [aV_R]; rfl) (by rw [aV_R]; rfl) (dat D_X11_init 49 rfl) rfl ?_
  change AW _ _ _ _ _ _ _ _ [some (vR 0)] [] (50, sg_124)
  refine AW.aload_n (n := 107) (dat D_X11_init 50 rfl) rfl rfl ?_
  refine AW.new (n := 110) (uc' := 6) (us' := 507) fX0_0 rfl (le45 rfl) wL_X11_68 wA_WaveRight_Advice wN_WaveRight_Advice (dv_0 Γ) (dat D_X11_init 51 rfl) rfl (le45 rfl) (le45 rfl) ?_
  change AW _ _ _ _ _ _ _ _ [some (vR 0)] [vR 50, vR 0] (51, sg_125)
  refine AW.dup (n := 111) (dat D_X11_init 52 rfl) rfl (cR _) ?_
  refine AW.aload_n (n := 112) (dat D_X11_init 53 rfl) rfl rfl ?_
  refine AW.getQ (t := 19) (n := 115) fX11_6 wF_X11_55 rfl (le45 rfl) rfl rfl (by decide +kernel) (dat D_X11_init 54 rfl) rfl ?_
  refine AW.aload_n (n := 116) (dat D_X11_init 55 rfl) rfl rfl ?_
  refine AW.getQ (t := 49) (n := 119) fX11_7 wF_X11_64 rfl (le45 rfl) rfl rfl (by decide +kernel) (dat D_X11_init 56 rfl) rfl ?_
  refine AW.callI (k := 50) (c := 0) (N := 0) (T := TX0) (n := 122) (as := [vR 19, vR 49]) (st := [vR 50, vR 0]) (uc' := 4) (us' := 467) (A_X0_init_50 hΓ) wM_X11_70 wI_X0_init wN_WaveRight_Advice wC_X0_init rfl rfl rfl ft_X0_init (le45 rfl) (le45 rfl) (le45 rfl) (dat D_X11_init 57 rfl) rfl (fun _ => ⟨by decide, rfl⟩) (le45 rfl) (le45 rfl) (fun _ => ?_) nlt0
  change AW _ _ _ _ _ _ _ _ [some (vR 0)] [vR 50, vR 0] (53, sg_131)
  refine AW.putV (n := 125) (v := vR 50) fX11_8 wF_X11_73 rfl (le45 rfl) rfl rfl (Or.inr ⟨rfl, rfl, rfl⟩) (by rw [aV_R]; rfl) (by rw [aV_R]; rfl) (dat D_X11_init 58 rfl) rfl ?_
  change AW _ _ _ _ _ _ _ _ [some (vR 0)] [] (53, sg_132)
  refine AW.aload_n (n := 126) (dat D_X11_init 59 rfl) rfl rfl ?_
  refine AW.new (n := 129) (uc' := 3) (us' := 462) fX4_0 rfl (le45 rfl) wL_X11_77 wA_WaveRight_Looking wN_WaveRight_Looking (dv_4 Γ) (dat D_X11_init 60 rfl) rfl (le45 rfl) (le45 rfl) ?_
  change AW _ _ _ _ _ _ _ _ [some (vR 0)] [vR 53, vR 0] (54, sg_133)
  refine AW.dup (n := 130) (dat D_X11_init 61 rfl) rfl (cR _) ?_
  refine AW.aload_n (n := 131) (dat D_X11_init 62 rfl) rfl rfl ?_
  refine AW.getQ (t := 19) (n := 134) fX11_6 wF_X11_55 rfl (le45 rfl) rfl rfl (by decide +kernel) (dat D_X11_init 63 rfl) rfl ?_
  refine AW.callI (k := 53) (c := 0) (N := 0) (T := TX0) (n := 137) (as := [vR 19]) (st := [vR 53, vR 0]) (uc' := 0) (us' := 0) (A_X4_init_53 hΓ) wM_X11_79 wI_X4_init wN_WaveRight_Looking wC_X4_init rfl rfl rfl ft_X4_init (le45 rfl) (le45 rfl) (le45 rfl) (dat D_X11_init 64 rfl) rfl (fun _ => ⟨by decide, rfl⟩) (le45 rfl) (le45 rfl) (fun _ => ?_) nlt0
  change AW _ _ _ _ _ _ _ _ [some (vR 0)] [vR 53, vR 0] (57, sg_140)
  refine AW.putV (n := 140) (v := vR 53) fX11_9 wF_X11_80 rfl (le45 rfl) rfl rfl (Or.inr ⟨rfl, rfl, rfl⟩) (by rw [aV_R]; rfl) (by rw [aV_R]; rfl) (dat D_X11_init 65 rfl) rfl ?_
  change AW _ _ _ _ _ _ _ _ [some (vR 0)] [] (57, sg_141)
  exact AW.vret rfl rfl rfl (dat D_X11_init 66 rfl)
set_option maxRecDepth 100000 in
set_option maxHeartbeats 4000000 in
theorem A_X12_init_57 {Γ : GA} (hΓ : (gl Γ).stackTraces = false) : AM Γ mX12_init 2 26 3785 [vR 57] (58, sg_142) (0, 0) (84, sg_198) := by
  refine AM.of pl_X12 rfl wC_X12_init (le45 rfl) hΓ ?_
  refine AW.aload_n (n := 1) (dat D_X12_init 0 rfl) rfl rfl ?_
  refine AW.objInit (n := 4) wM_X12_3 oI oC (le45 rfl) (le45 rfl) (dat D_X12_init 1 rfl) rfl ?_
  refine AW.aload_n (n := 5) (dat D_X12_init 2 rfl) rfl rfl ?_
  refine AW.sipush (n := 8) (dat D_X12_init 3 rfl) rfl (by decide) ?_
  refine AW.newa (n := 10) (at9 := .byte) (N := 400) (ty := .byte) (t0 := 2) (e0 := .inr (0, [])) (uc' := 25) (us' := 3385) rfl wY_byte (by decide) (le45 rfl) (le45 rfl) (na_22 rfl) (fun C q => by cases q) (dat D_X12_init 4 rfl) rfl (le45 rfl) (le45 rfl) ?_
  change AW _ _ _ _ _ _ _ _ [some (vR 57)] [vR 58, vR 57] (59, sg_143)
  refine AW.putV (n := 13) (v := vR 58) fX12_1 wF_X12_9 rfl (le45 rfl) rfl rfl (Or.inr ⟨rfl, rfl, rfl⟩) (by rw [aV_R]; rfl) (by rw [aV_R]; rfl) (dat D_X12_init 5 rfl) rfl ?_
  change AW _ _ _ _ _ _ _ _ [some (vR 57)] [] (59, sg_144)
  refine AW.aload_n (n := 14) (dat D_X12_init 6 rfl) rfl rfl ?_
  refine AW.iconst (n := 15) (dat D_X12_init 7 rfl) rfl ?_
  refine AW.newa (n := 17) (at9 := .int) (N := 5) (ty := .int) (t0 := 0) (e0 := .inr (0, [])) (uc' := 24) (us' := 3380) rfl wY_int (by decide) (le45 rfl) (le45 rfl) (na_20 rfl) (fun C q => by cases q) (dat D_X12_init 8 rfl) rfl (le45 rfl) (le45 rfl) ?_
  change AW _ _ _ _ _ _ _ _ [some (vR 57)] [vR 59, vR 57] (60, sg_145)
  refine AW.putV (n := 20) (v := vR 59) fX12_3 wF_X12_13 rfl (le45 rfl) rfl rfl (Or.inr ⟨rfl, rfl, rfl⟩) (by rw [aV_R]; rfl) (by rw [aV_R]; rfl) (dat D_X12_init 9 rfl) rfl ?_
  change AW _ _ _ _ _ _ _ _ [some (vR 57)] [] (60, sg_146)
  refine AW.aload_n (n := 21) (dat D_X12_init 10 rfl) rfl rfl ?_
  refine AW.iconst (n := 22) (dat D_X12_init 11 rfl) rfl ?_
  refine AW.putV (n := 25) (v := vI (-1)) fX12_8 wF_X12_17 rfl (le45 rfl) rfl rfl (Or.inl rfl) rfl rfl (dat D_X12_init 12 rfl) rfl ?_
  change AW _ _ _ _ _ _ _ _ [some (vR 57)] [] (60, sg_147)
  refine AW.aload_n (n := 26) (dat D_X12_init 13 rfl) rfl rfl ?_
  refine AW.sipush (n := 29) (dat D_X12_init 14 rfl) rfl (by decide) ?_
  refine AW.newa (n := 31) (at9 := .int) (N := 144) (ty := .int) (t0 := 0) (e0 := .inr (0, [])) (uc' := 23) (us' := 3236) rfl wY_int (by decide) (le45 rfl) (le45 rfl) (na_20 rfl) (fun C q => by cases q) (dat D_X12_init 15 rfl) rfl (le45 rfl) (le45 rfl) ?_
  change AW _ _ _ _ _ _ _ _ [some (vR 57)] [vR 60, vR 57] (61, sg_148)
  refine AW.putV (n := 34) (v := vR 60) fX12_9 wF_X12_21 rfl (le45 rfl) rfl rfl (Or.inr ⟨rfl, rfl, rfl⟩) (by rw [aV_R]; rfl) (by rw [aV_R]; rfl) (dat D_X12_init 16 rfl) rfl ?_
  change AW _ _ _ _ _ _ _ _ [some (vR 57)] [] (61, sg_149)
  refine AW.aload_n (n := 35) (dat D_X12_init 17 rfl) rfl rfl ?_
  refine AW.sipush (n := 38) (dat D_X12_init 18 rfl) rfl (by decide) ?_
  refine AW.newa (n := 40) (at9 := .int) (N := 144) (ty := .int) (t0 := 0) (e0 := .inr (0, [])) (uc' := 22) (us' := 3092) rfl wY_int (by decide) (le45 rfl) (le45 rfl) (na_20 rfl) (fun C q => by cases q) (dat D_X12_init 19 rfl) rfl (le45 rfl) (le45 rfl) ?_
  change AW _ _ _ _ _ _ _ _ [some (vR 57)] [vR 61, vR 57] (62, sg_150)
  refine AW.putV (n := 43) (v := vR 61) fX12_10 wF_X12_24 rfl (le45 rfl) rfl rfl (Or.inr ⟨rfl, rfl, rfl⟩) (by rw [aV_R]; rfl) (by rw [aV_R]; rfl) (dat D_X12_init 20 rfl) rfl ?_
  change AW _ _ _ _ _ _ _ _ [some (vR 57)] [] (62, sg_151)
  refine AW.aload_n (n := 44) (dat D_X12_init 21 rfl) rfl rfl ?_
  refine AW.sipush (n := 47) (dat D_X12_init 22 rfl) rfl (by decide) ?_
  refine AW.newa (n := 49) (at9 := .int) (N := 900) (ty := .int) (t0 := 0) (e0 := .inr (0, [])) (uc' := 21) (us' := 2192) rfl wY_int (by decide) (le45 rfl) (le45 rfl) (na_20 rfl) (fun C q => by cases q) (dat D_X12_init 23 rfl) rfl (le45 rfl) (le45 rfl) ?_
  change AW _ _ _ _ _ _ _ _ [some (vR 57)] [vR 62, vR 57] (63, sg_152)
  refine AW.putV (n := 52) (v := vR 62) fX12_14 wF_X12_27 rfl (le45 rfl) rfl rfl (Or.inr ⟨rfl, rfl, rfl⟩) (by rw [aV_R]; rfl) (by rw [aV_R]; rfl) (dat D_X12_init 24 rfl) rfl ?_
  change AW _ _ _ _ _ _ _ _ [some (vR 57)] [] (63, sg_153)
  refine AW.aload_n (n := 53) (dat D_X12_init 25 rfl) rfl rfl ?_
  refine AW.sipush (n := 56) (dat D_X12_init 26 rfl) rfl (by decide) ?_
  refine AW.newa (n := 58) (at9 := .int) (N := 900) (ty := .int) (t0 := 0) (e0 := .inr (0, [])) (uc' := 20) (us' := 1292) rfl wY_int (by decide) (le45 rfl) (le45 rfl) (na_20 rfl) (fun C q => by cases q) (dat D_X12_init 27 rfl) rfl (le45 rfl) (le45 rfl) ?_
  change AW _ _ _ _ _ _ _ _ [some (vR 57)] [vR 63, vR 57] (64, sg_154)
  refine AW.putV (n := 61) (v := vR 63) fX12_15 wF_X12_30 rfl (le45 rfl) rfl rfl (Or.inr ⟨rfl, rfl, rfl⟩) (by rw [aV_R]; rfl) (by rw [aV_R]; rfl) (dat D_X12_init 28 rfl) rfl ?_
  change AW _ _ _ _ _ _ _ _ [some (vR 57)] [] (64, sg_155)
  refine AW.aload_n (n := 62) (dat D_X12_init 29 rfl) rfl rfl ?_
  refine AW.bipush (n := 64) (dat D_X12_init 30 rfl) rfl (by decide) ?_
  refine AW.newa (n := 66) (at9 := .int) (N := 40) (ty := .int) (t0 := 0) (e0 := .inr (0, [])) (uc' := 19) (us' := 1252) rfl wY_int (by decide) (le45 rfl) (le45 rfl) (na_20 rfl) (fun C q => by cases q) (dat D_X12_init 31 rfl) rfl (le45 rfl) (le45 rfl) ?_
  change AW _ _ _ _ _ _ _ _ [some (vR 57)] [vR 64, vR 57] (65, sg_156)
  refine AW.putV (n := 69) (v := vR 64) fX12_16 wF_X12_33 rfl (le45 rfl) rfl rfl (Or.inr ⟨rfl, rfl, rfl⟩) (by rw [aV_R]; rfl) (by rw [aV_R]; rfl) (dat D_X12_init 32 rfl) rfl ?_
  change AW _ _ _ _ _ _ _ _ [some (vR 57)] [] (65, sg_157)
  refine AW.aload_n (n := 70) (dat D_X12_init 33 rfl) rfl rfl ?_
  refine AW.bipush (n := 72) (dat D_X12_init 34 rfl) rfl (by decide) ?_
  refine AW.newa (n := 74) (at9 := .int) (N := 40) (ty := .int) (t0 := 0) (e0 := .inr (0, [])) (uc' := 18) (us' := 1212) rfl wY_int (by decide) (le45 rfl) (le45 rfl) (na_20 rfl) (fun C q => by cases q) (dat D_X12_init 35 rfl) rfl (le45 rfl) (le45 rfl) ?_
  change AW _ _ _ _ _ _ _ _ [some (vR 57)] [vR 65, vR 57] (66, sg_158)
  refine AW.putV (n := 77) (v := vR 65) fX12_17 wF_X12_36 rfl (le45 rfl) rfl rfl (Or.inr ⟨rfl, rfl, rfl⟩) (by rw [aV_R]; rfl) (by rw [aV_R]; rfl) (dat D_X12_init 36 rfl) rfl ?_
  change AW _ _ _ _ _ _ _ _ [some (vR 57)] [] (66, sg_159)
  refine AW.aload_n (n := 78) (dat D_X12_init 37 rfl) rfl rfl ?_
  refine AW.iconst (n := 79) (dat D_X12_init 38 rfl) rfl ?_
  refine AW.putV (n := 82) (v := vI (-1)) fX12_18 wF_X12_39 rfl (le45 rfl) rfl rfl (Or.inl rfl) rfl rfl (dat D_X12_init 39 rfl) rfl ?_
  change AW _ _ _ _ _ _ _ _ [some (vR 57)] [] (66, sg_160)
  refine AW.aload_n (n := 83) (dat D_X12_init 40 rfl) rfl rfl ?_
  refine AW.bipush (n := 85) (dat D_X12_init 41 rfl) rfl (by decide) ?_
  refine AW.newa (n := 87) (at9 := .int) (N := 8) (ty := .int) (t0 := 0) (e0 := .inr (0, [])) (uc' := 17) (us' := 1204) rfl wY_int (by decide) (le45 rfl) (le45 rfl) (na_20 rfl) (fun C q => by cases q) (dat D_X12_init 42 rfl) rfl (le45 rfl) (le45 rfl) ?_
  change AW _ _ _ _ _ _ _ _ [some (vR 57)] [vR 66, vR 57] (67, sg_161)
  refine AW.putV (n := 90) (v := vR 66) fX12_22 wF_X12_42 rfl (le45 rfl) rfl rfl (Or.inr ⟨rfl, rfl, rfl⟩) (by rw [aV_R]; rfl) (by rw [aV_R]; rfl) (dat D_X12_init 43 rfl) rfl ?_
  change AW _ _ _ _ _ _ _ _ [some (vR 57)] [] (67, sg_162)
  refine AW.aload_n (n := 91) (dat D_X12_init 44 rfl) rfl rfl ?_
  refine AW.sipush (n := 94) (dat D_X12_init 45 rfl) rfl (by decide) ?_
  refine AW.newa (n := 96) (at9 := .long) (N := 400) (ty := .long) (t0 := 1) (e0 := .inr (0, [])) (uc' := 16) (us' := 804) rfl wY_long (by decide) (le45 rfl) (le45 rfl) (na_21 rfl) (fun C q => by cases q) (dat D_X12_init 46 rfl) rfl (le45 rfl) (le45 rfl) ?_
  change AW _ _ _ _ _ _ _ _ [some (vR 57)] [vR 67, vR 57] (68, sg_163)
  refine AW.putV (n := 99) (v := vR 67) fX12_24 wF_X12_45 rfl (le45 rfl) rfl rfl (Or.inr ⟨rfl, rfl, rfl⟩) (by rw [aV_R]; rfl) (by rw [aV_R]; rfl) (dat D_X12_init 47 rfl) rfl ?_
  change AW _ _ _ _ _ _ _ _ [some (vR 57)] [] (68, sg_164)
  refine AW.aload_n (n := 100) (dat D_X12_init 48 rfl) rfl rfl ?_
  refine AW.iconst (n := 101) (dat D_X12_init 49 rfl) rfl ?_
  refine AW.putV (n := 104) (v := vI (-1)) fX12_27 wF_X12_49 rfl (le45 rfl) rfl rfl (Or.inl rfl) rfl rfl (dat D_X12_init 50 rfl) rfl ?_
  change AW _ _ _ _ _ _ _ _ [some (vR 57)] [] (68, sg_165)
  refine AW.aload_n (n := 105) (dat D_X12_init 51 rfl) rfl rfl ?_
  refine AW.iconst (n := 106) (dat D_X12_init 52 rfl) rfl ?_
  refine AW.putV (n := 109) (v := vI 1) fX12_35 wF_X12_52 rfl (le45 rfl) rfl rfl (Or.inl rfl) rfl (show fits .boolean (.int (Int32.ofInt 1)) = true by decide) (dat D_X12_init 53 rfl) rfl ?_
  change AW _ _ _ _ _ _ _ _ [some (vR 57)] [] (68, sg_166)
  refine AW.aload_n (n := 110) (dat D_X12_init 54 rfl) rfl rfl ?_
  refine AW.iconst (n := 111) (dat D_X12_init 55 rfl) rfl ?_
  refine AW.newa (n := 113) (at9 := .int) (N := 5) (ty := .int) (t0 := 0) (e0 := .inr (0, [])) (uc' := 15) (us' := 799) rfl wY_int (by decide) (le45 rfl) (le45 rfl) (na_20 rfl) (fun C q => by cases q) (dat D_X12_init 56 rfl) rfl (le45 rfl) (le45 rfl) ?_
  change AW _ _ _ _ _ _ _ _ [some (vR 57)] [vR 68, vR 57] (69, sg_167)
  refine AW.putV (n := 116) (v := vR 68) fX12_38 wF_X12_56 rfl (le45 rfl) rfl rfl (Or.inr ⟨rfl, rfl, rfl⟩) (by rw [aV_R]; rfl) (by rw [aV_R]; rfl) (dat D_X12_init 57 rfl) rfl ?_
  change AW _ _ _ _ _ _ _ _ [some (vR 57)] [] (69, sg_168)
  refine AW.aload_n (n := 117) (dat D_X12_init 58 rfl) rfl rfl ?_
  refine AW.iconst (n := 118) (dat D_X12_init 59 rfl) rfl ?_
  refine AW.newa (n := 120) (at9 := .int) (N := 5) (ty := .int) (t0 := 0) (e0 := .inr (0, [])) (uc' := 14) (us' := 794) rfl wY_int (by decide) (le45 rfl) (le45 rfl) (na_20 rfl) (fun C q => by cases q) (dat D_X12_init 60 rfl) rfl (le45 rfl) (le45 rfl) ?_
  change AW _ _ _ _ _ _ _ _ [some (vR 57)] [vR 69, vR 57] (70, sg_169)
  refine AW.putV (n := 123) (v := vR 69) fX12_39 wF_X12_59 rfl (le45 rfl) rfl rfl (Or.inr ⟨rfl, rfl, rfl⟩) (by rw [aV_R]; rfl) (by rw [aV_R]; rfl) (dat D_X12_init 61 rfl) rfl ?_
  change AW _ _ _ _ _ _ _ _ [some (vR 57)] [] (70, sg_170)
  refine AW.aload_n (n := 124) (dat D_X12_init 62 rfl) rfl rfl ?_
  refine AW.iconst (n := 125) (dat D_X12_init 63 rfl) rfl ?_
  refine AW.newa (n := 127) (at9 := .int) (N := 5) (ty := .int) (t0 := 0) (e0 := .inr (0, [])) (uc' := 13) (us' := 789) rfl wY_int (by decide) (le45 rfl) (le45 rfl) (na_20 rfl) (fun C q => by cases q) (dat D_X12_init 64 rfl) rfl (le45 rfl) (le45 rfl) ?_
  change AW _ _ _ _ _ _ _ _ [some (vR 57)] [vR 70, vR 57] (71, sg_171)
  refine AW.putV (n := 130) (v := vR 70) fX12_40 wF_X12_62 rfl (le45 rfl) rfl rfl (Or.inr ⟨rfl, rfl, rfl⟩) (by rw [aV_R]; rfl) (by rw [aV_R]; rfl) (dat D_X12_init 65 rfl) rfl ?_
  change AW _ _ _ _ _ _ _ _ [some (vR 57)] [] (71, sg_172)
  refine AW.aload_n (n := 131) (dat D_X12_init 66 rfl) rfl rfl ?_
  refine AW.iconst (n := 132) (dat D_X12_init 67 rfl) rfl ?_
  refine AW.newa (n := 134) (at9 := .int) (N := 5) (ty := .int) (t0 := 0) (e0 := .inr (0, [])) (uc' := 12) (us' := 784) rfl wY_int (by decide) (le45 rfl) (le45 rfl) (na_20 rfl) (fun C q => by cases q) (dat D_X12_init 68 rfl) rfl (le45 rfl) (le45 rfl) ?_
  change AW _ _ _ _ _ _ _ _ [some (vR 57)] [vR 71, vR 57] (72, sg_173)
  refine AW.putV (n := 137) (v := vR 71) fX12_41 wF_X12_65 rfl (le45 rfl) rfl rfl (Or.inr ⟨rfl, rfl, rfl⟩) (by rw [aV_R]; rfl) (by rw [aV_R]; rfl) (dat D_X12_init 69 rfl) rfl ?_
  change AW _ _ _ _ _ _ _ _ [some (vR 57)] [] (72, sg_174)
  refine AW.aload_n (n := 138) (dat D_X12_init 70 rfl) rfl rfl ?_
  refine AW.iconst (n := 139) (dat D_X12_init 71 rfl) rfl ?_
  refine AW.newa (n := 141) (at9 := .int) (N := 5) (ty := .int) (t0 := 0) (e0 := .inr (0, [])) (uc' := 11) (us' := 779) rfl wY_int (by decide) (le45 rfl) (le45 rfl) (na_20 rfl) (fun C q => by cases q) (dat D_X12_init 72 rfl) rfl (le45 rfl) (le45 rfl) ?_
  change AW _ _ _ _ _ _ _ _ [some (vR 57)] [vR 72, vR 57] (73, sg_175)
  refine AW.putV (n := 144) (v := vR 72) fX12_42 wF_X12_68 rfl (le45 rfl) rfl rfl (Or.inr ⟨rfl, rfl, rfl⟩) (by rw [aV_R]; rfl) (by rw [aV_R]; rfl) (dat D_X12_init 73 rfl) rfl ?_
  change AW _ _ _ _ _ _ _ _ [some (vR 57)] [] (73, sg_176)
  refine AW.aload_n (n := 145) (dat D_X12_init 74 rfl) rfl rfl ?_
  refine AW.iconst (n := 146) (dat D_X12_init 75 rfl) rfl ?_
  refine AW.newa (n := 148) (at9 := .int) (N := 5) (ty := .int) (t0 := 0) (e0 := .inr (0, [])) (uc' := 10) (us' := 774) rfl wY_int (by decide) (le45 rfl) (le45 rfl) (na_20 rfl) (fun C q => by cases q) (dat D_X12_init 76 rfl) rfl (le45 rfl) (le45 rfl) ?_
  change AW _ _ _ _ _ _ _ _ [some (vR 57)] [vR 73, vR 57] (74, sg_177)
  refine AW.putV (n := 151) (v := vR 73) fX12_43 wF_X12_71 rfl (le45 rfl) rfl rfl (Or.inr ⟨rfl, rfl, rfl⟩) (by rw [aV_R]; rfl) (by rw [aV_R]; rfl) (dat D_X12_init 77 rfl) rfl ?_
  change AW _ _ _ _ _ _ _ _ [some (vR 57)] [] (74, sg_178)
  refine AW.aload_n (n := 152) (dat D_X12_init 78 rfl) rfl rfl ?_
  refine AW.iconst (n := 153) (dat D_X12_init 79 rfl) rfl ?_
  refine AW.newa (n := 155) (at9 := .int) (N := 5) (ty := .int) (t0 := 0) (e0 := .inr (0, [])) (uc' := 9) (us' := 769) rfl wY_int (by decide) (le45 rfl) (le45 rfl) (na_20 rfl) (fun C q => by cases q) (dat D_X12_init 80 rfl) rfl (le45 rfl) (le45 rfl) ?_
  change AW _ _ _ _ _ _ _ _ [some (vR 57)] [vR 74, vR 57] (75, sg_179)
  refine AW.putV (n := 158) (v := vR 74) fX12_44 wF_X12_74 rfl (le45 rfl) rfl rfl (Or.inr ⟨rfl, rfl, rfl⟩) (by rw [aV_R]; rfl) (by rw [aV_R]; rfl) (dat D_X12_init 81 rfl) rfl ?_
  change AW _ _ _ _ _ _ _ _ [some (vR 57)] [] (75, sg_180)
  refine AW.aload_n (n := 159) (dat D_X12_init 82 rfl) rfl rfl ?_
  refine AW.iconst (n := 160) (dat D_X12_init 83 rfl) rfl ?_
  refine AW.newa (n := 162) (at9 := .int) (N := 5) (ty := .int) (t0 := 0) (e0 := .inr (0, [])) (uc' := 8) (us' := 764) rfl wY_int (by decide) (le45 rfl) (le45 rfl) (na_20 rfl) (fun C q => by cases q) (dat D_X12_init 84 rfl) rfl (le45 rfl) (le45 rfl) ?_
  change AW _ _ _ _ _ _ _ _ [some (vR 57)] [vR 75, vR 57] (76, sg_181)
  refine AW.putV (n := 165) (v := vR 75) fX12_45 wF_X12_77 rfl (le45 rfl) rfl rfl (Or.inr ⟨rfl, rfl, rfl⟩) (by rw [aV_R]; rfl) (by rw [aV_R]; rfl) (dat D_X12_init 85 rfl) rfl ?_
  change AW _ _ _ _ _ _ _ _ [some (vR 57)] [] (76, sg_182)
  refine AW.aload_n (n := 166) (dat D_X12_init 86 rfl) rfl rfl ?_
  refine AW.iconst (n := 167) (dat D_X12_init 87 rfl) rfl ?_
  refine AW.newa (n := 169) (at9 := .int) (N := 5) (ty := .int) (t0 := 0) (e0 := .inr (0, [])) (uc' := 7) (us' := 759) rfl wY_int (by decide) (le45 rfl) (le45 rfl) (na_20 rfl) (fun C q => by cases q) (dat D_X12_init 88 rfl) rfl (le45 rfl) (le45 rfl) ?_
  change AW _ _ _ _ _ _ _ _ [some (vR 57)] [vR 76, vR 57] (77, sg_183)
  refine AW.putV (n := 172) (v := vR 76) fX12_46 wF_X12_80 rfl (le45 rfl) rfl rfl (Or.inr ⟨rfl, rfl, rfl⟩) (by rw [aV_R]; rfl) (by rw [aV_R]; rfl) (dat D_X12_init 89 rfl) rfl ?_
  change AW _ _ _ _ _ _ _ _ [some (vR 57)] [] (77, sg_184)
  refine AW.aload_n (n := 173) (dat D_X12_init 90 rfl) rfl rfl ?_
  refine AW.bipush (n := 175) (dat D_X12_init 91 rfl) rfl (by decide) ?_
  refine AW.newa (n := 177) (at9 := .int) (N := 6) (ty := .int) (t0 := 0) (e0 := .inr (0, [])) (uc' := 6) (us' := 753) rfl wY_int (by decide) (le45 rfl) (le45 rfl) (na_20 rfl) (fun C q => by cases q) (dat D_X12_init 92 rfl) rfl (le45 rfl) (le45 rfl) ?_
  change AW _ _ _ _ _ _ _ _ [some (vR 57)] [vR 77, vR 57] (78, sg_185)
  refine AW.putV (n := 180) (v := vR 77) fX12_47 wF_X12_83 rfl (le45 rfl) rfl rfl (Or.inr ⟨rfl, rfl, rfl⟩) (by rw [aV_R]; rfl) (by rw [aV_R]; rfl) (dat D_X12_init 93 rfl) rfl ?_
  change AW _ _ _ _ _ _ _ _ [some (vR 57)] [] (78, sg_186)
  refine AW.aload_n (n := 181) (dat D_X12_init 94 rfl) rfl rfl ?_
  refine AW.iconst (n := 182) (dat D_X12_init 95 rfl) rfl ?_
  refine AW.newa (n := 184) (at9 := .boolean) (N := 5) (ty := .boolean) (t0 := 3) (e0 := .inr (0, [])) (uc' := 5) (us' := 748) rfl wY_boolean (by decide) (le45 rfl) (le45 rfl) (na_23 rfl) (fun C q => by cases q) (dat D_X12_init 96 rfl) rfl (le45 rfl) (le45 rfl) ?_
  change AW _ _ _ _ _ _ _ _ [some (vR 57)] [vR 78, vR 57] (79, sg_187)
  refine AW.putV (n := 187) (v := vR 78) fX12_48 wF_X12_86 rfl (le45 rfl) rfl rfl (Or.inr ⟨rfl, rfl, rfl⟩) (by rw [aV_R]; rfl) (by rw [aV_R]; rfl) (dat D_X12_init 97 rfl) rfl ?_
  change AW _ _ _ _ _ _ _ _ [some (vR 57)] [] (79, sg_188)
  refine AW.aload_n (n := 188) (dat D_X12_init 98 rfl) rfl rfl ?_
  refine AW.sipush (n := 191) (dat D_X12_init 99 rfl) rfl (by decide) ?_
  refine AW.newa (n := 193) (at9 := .int) (N := 700) (ty := .int) (t0 := 0) (e0 := .inr (0, [])) (uc' := 4) (us' := 48) rfl wY_int (by decide) (le45 rfl) (le45 rfl) (na_20 rfl) (fun C q => by cases q) (dat D_X12_init 100 rfl) rfl (le45 rfl) (le45 rfl) ?_
  change AW _ _ _ _ _ _ _ _ [some (vR 57)] [vR 79, vR 57] (80, sg_189)
  refine AW.putV (n := 196) (v := vR 79) fX12_49 wF_X12_90 rfl (le45 rfl) rfl rfl (Or.inr ⟨rfl, rfl, rfl⟩) (by rw [aV_R]; rfl) (by rw [aV_R]; rfl) (dat D_X12_init 101 rfl) rfl ?_
  change AW _ _ _ _ _ _ _ _ [some (vR 57)] [] (80, sg_190)
  refine AW.aload_n (n := 197) (dat D_X12_init 102 rfl) rfl rfl ?_
  refine AW.iconst (n := 198) (dat D_X12_init 103 rfl) rfl ?_
  refine AW.newa (n := 200) (at9 := .int) (N := 5) (ty := .int) (t0 := 0) (e0 := .inr (0, [])) (uc' := 3) (us' := 43) rfl wY_int (by decide) (le45 rfl) (le45 rfl) (na_20 rfl) (fun C q => by cases q) (dat D_X12_init 104 rfl) rfl (le45 rfl) (le45 rfl) ?_
  change AW _ _ _ _ _ _ _ _ [some (vR 57)] [vR 80, vR 57] (81, sg_191)
  refine AW.putV (n := 203) (v := vR 80) fX12_50 wF_X12_93 rfl (le45 rfl) rfl rfl (Or.inr ⟨rfl, rfl, rfl⟩) (by rw [aV_R]; rfl) (by rw [aV_R]; rfl) (dat D_X12_init 105 rfl) rfl ?_
  change AW _ _ _ _ _ _ _ _ [some (vR 57)] [] (81, sg_192)
  refine AW.aload_n (n := 204) (dat D_X12_init 106 rfl) rfl rfl ?_
  refine AW.iconst (n := 205) (dat D_X12_init 107 rfl) rfl ?_
  refine AW.newa (n := 207) (at9 := .int) (N := 3) (ty := .int) (t0 := 0) (e0 := .inr (0, [])) (uc' := 2) (us' := 40) rfl wY_int (by decide) (le45 rfl) (le45 rfl) (na_20 rfl) (fun C q => by cases q) (dat D_X12_init 108 rfl) rfl (le45 rfl) (le45 rfl) ?_
  change AW _ _ _ _ _ _ _ _ [some (vR 57)] [vR 81, vR 57] (82, sg_193)
  refine AW.putV (n := 210) (v := vR 81) fX12_51 wF_X12_96 rfl (le45 rfl) rfl rfl (Or.inr ⟨rfl, rfl, rfl⟩) (by rw [aV_R]; rfl) (by rw [aV_R]; rfl) (dat D_X12_init 109 rfl) rfl ?_
  change AW _ _ _ _ _ _ _ _ [some (vR 57)] [] (82, sg_194)
  refine AW.aload_n (n := 211) (dat D_X12_init 110 rfl) rfl rfl ?_
  refine AW.bipush (n := 213) (dat D_X12_init 111 rfl) rfl (by decide) ?_
  refine AW.newa (n := 215) (at9 := .int) (N := 20) (ty := .int) (t0 := 0) (e0 := .inr (0, [])) (uc' := 1) (us' := 20) rfl wY_int (by decide) (le45 rfl) (le45 rfl) (na_20 rfl) (fun C q => by cases q) (dat D_X12_init 112 rfl) rfl (le45 rfl) (le45 rfl) ?_
  change AW _ _ _ _ _ _ _ _ [some (vR 57)] [vR 82, vR 57] (83, sg_195)
  refine AW.putV (n := 218) (v := vR 82) fX12_52 wF_X12_99 rfl (le45 rfl) rfl rfl (Or.inr ⟨rfl, rfl, rfl⟩) (by rw [aV_R]; rfl) (by rw [aV_R]; rfl) (dat D_X12_init 113 rfl) rfl ?_
  change AW _ _ _ _ _ _ _ _ [some (vR 57)] [] (83, sg_196)
  refine AW.aload_n (n := 219) (dat D_X12_init 114 rfl) rfl rfl ?_
  refine AW.bipush (n := 221) (dat D_X12_init 115 rfl) rfl (by decide) ?_
  refine AW.newa (n := 223) (at9 := .int) (N := 20) (ty := .int) (t0 := 0) (e0 := .inr (0, [])) (uc' := 0) (us' := 0) rfl wY_int (by decide) (le45 rfl) (le45 rfl) (na_20 rfl) (fun C q => by cases q) (dat D_X12_init 116 rfl) rfl (le45 rfl) (le45 rfl) ?_
  change AW _ _ _ _ _ _ _ _ [some (vR 57)] [vR 83, vR 57] (84, sg_197)
  refine AW.putV (n := 226) (v := vR 83) fX12_53 wF_X12_102 rfl (le45 rfl) rfl rfl (Or.inr ⟨rfl, rfl, rfl⟩) (by rw [aV_R]; rfl) (by rw [aV_R]; rfl) (dat D_X12_init 117 rfl) rfl ?_
  change AW _ _ _ _ _ _ _ _ [some (vR 57)] [] (84, sg_198)
  exact AW.vret rfl rfl rfl (dat D_X12_init 118 rfl)
theorem sg_fix : fixOK sg_198 = true := by decide +kernel
/-- the state behind all makings -/
abbrev sg0 : SG := sg_199
