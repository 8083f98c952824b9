/-! ===== what a piece of the judge's text comes to, in the class ===== -/
/-- so many steps of a loop -/
def stp {A B : Type} (f : A → Option (A ⊕ B)) : Nat → A → A → Prop
  | 0, x, y => x = y
  | c + 1, x, y => ∃ x', f x = some (.inl x') ∧ stp f c x' y
theorem stp_tr {A B : Type} {f : A → Option (A ⊕ B)} : ∀ {c d : Nat} {x y z : A}, stp f c x y → stp f d y z → stp f (c + d) x z
  | 0, d, x, y, z, h, h' => by
    have e : x = y := h
    rw [e, Nat.zero_add]
    exact h'
  | c + 1, d, x, y, z, h, h' => by
    obtain ⟨x', e, h2⟩ := h
    rw [show c + 1 + d = (c + d) + 1 by omega]
    exact ⟨x', e, stp_tr h2 h'⟩
theorem stp_1 {A B : Type} {f : A → Option (A ⊕ B)} {x y : A} (h : f x = some (.inl y)) : stp f 1 x y := ⟨y, h, rfl⟩
theorem stp_iter {A B : Type} {f : A → Option (A ⊕ B)} : ∀ {c n : Nat} {x y : A}, stp f c x y → iter (c + n) f x = iter n f y
  | 0, n, x, y, h => by
    have e : x = y := h
    rw [e, Nat.zero_add]
  | c + 1, n, x, y, h => by
    obtain ⟨x', e, h2⟩ := h
    rw [show c + 1 + n = (c + n) + 1 by omega]
    show (f x).bind _ = _
    rw [e]
    exact stp_iter h2
theorem wp_1 {A B : Type} {f : A → Option (A ⊕ B)} {x : A} {P : A → Prop} (h : wp (f x) (fun y => ∃ x', y = .inl x' ∧ P x')) : ∃ x', stp f 1 x x' ∧ P x' := by
  obtain ⟨y, e, x', rfl, hp⟩ := h
  exact ⟨x', stp_1 e, hp⟩
/-- the class's stack machine -/
def FrJ (J : Nat) (σ0 σ : SG) : Prop := ∀ c j, ¬ (c = J ∧ 9 ≤ j) → c ≠ J + 7 → σ c j = σ0 c j
theorem FrJ.rf {J : Nat} {σ : SG} : FrJ J σ σ := fun _ _ _ _ => rfl
theorem FrJ.tr {J : Nat} {σ τ υ : SG} (h : FrJ J σ τ) (h' : FrJ J τ υ) : FrJ J σ υ := fun c j a b => (h' c j a b).trans (h c j a b)
theorem FrJ.up {J : Nat} {σ τ : SG} {k j : Nat} {v : Int} (h : FrJ J σ τ) (hk : (k = J ∧ 9 ≤ j) ∨ k = J + 7) : FrJ J σ (up τ k j v) := fun c i h1 h2 => by
  rw [up_ne (by omega)]
  exact h c i h1 h2
/-- the height, what the stack holds, the flag, no trouble -/
def CF (J : Nat) (σ0 : SG) (h : Nat) (T : Nat → Int) (fl : Int) (σ : SG) : Prop := FrJ J σ0 σ ∧ σ J 9 = (h : Int) ∧ σ J 10 = fl ∧ σ J 11 = 0 ∧ ∀ i, i < h → σ (J + 7) i = T i
def setT (T : Nat → Int) (h : Nat) (v : Int) : Nat → Int := fun i => if i = h then v else T i
theorem setT_eq {T : Nat → Int} {h : Nat} {v : Int} : setT T h v h = v := if_pos rfl
theorem setT_ne {T : Nat → Int} {h i : Nat} {v : Int} (q : i ≠ h) : setT T h v i = T i := if_neg q
abbrev Fx : Type := Nat → Int
abbrev Dn : Type := Fx → Int × Int
/-- the text from a to b, the facts -/
def PG (J : Nat) (σ0 : SG) (K V : Nat → Int) (a b st : Nat) (F : Fx) : Prop := (J = 7 ∨ J = 26) ∧ (∀ i, a ≤ i → i < b → σ0 (J + 1) i = K i ∧ σ0 (J + 2) i = V i) ∧ σ0 J 2 = (st : Int) ∧ st ≤ 400 ∧ b ≤ st ∧ ∀ i, i < 8 → σ0 (J + 6) i = F i
def Fok (F : Fx) : Prop := ∀ i, i < 8 → rng (F i)
theorem PG.sub {J : Nat} {σ0 : SG} {K V : Nat → Int} {a b a' b' st : Nat} {F : Fx} (h : PG J σ0 K V a b st F) (ha : a ≤ a') (hb : b' ≤ b) : PG J σ0 K V a' b' st F := ⟨h.1, fun i h1 h2 => h.2.1 i (by omega) (by omega), h.2.2.1, h.2.2.2.1, by have := h.2.2.2.2.1; omega, h.2.2.2.2.2⟩
abbrev fC (n : Nat) (J to : Nat) : Int × SG → Option ((Int × SG) ⊕ SG) := fun s => X2_run_l2 n (to : Int) J s.1 s.2
/-- a piece that puts a number onto the stack -/
def CS (J : Nat) (K V : Nat → Int) (a b u : Nat) (d : Dn) : Prop := (a < b ∧ 1 ≤ u) ∧ ∀ (n st to : Nat) (F : Fx) (σ0 : SG), PG J σ0 K V a b st F → Fok F → b ≤ to → to ≤ 400 → ∀ (h : Nat) (T : Nat → Int) (fl : Int) (σ : SG), h + u ≤ 24 → (fl = 0 ∨ fl = 1) → CF J σ0 h T fl σ →
  ∃ (c : Nat) (z : Int) (σ' : SG), c ≤ b - a ∧ stp (fC n J to) c ((a : Int), σ) (z, σ') ∧ (((d F).2 = 0 ∧ rng (d F).1 ∧ z = (b : Int) ∧ CF J σ0 (h + 1) (setT T h (d F).1) fl σ') ∨ (((d F).2 = 1 ∨ (d F).2 = 2) ∧ FrJ J σ0 σ' ∧ σ' J 11 = (d F).2))
/-- a piece that sets the flag -/
def CC (J : Nat) (K V : Nat → Int) (a b u : Nat) (d : Dn) : Prop := a < b ∧ ∀ (n st to : Nat) (F : Fx) (σ0 : SG), PG J σ0 K V a b st F → Fok F → b ≤ to → to ≤ 400 → ∀ (h : Nat) (T : Nat → Int) (fl : Int) (σ : SG), h + u ≤ 24 → (fl = 0 ∨ fl = 1) → CF J σ0 h T fl σ →
  ∃ (c : Nat) (z : Int) (σ' : SG), c ≤ b - a ∧ stp (fC n J to) c ((a : Int), σ) (z, σ') ∧ (((d F).2 = 0 ∧ ((d F).1 = 0 ∨ (d F).1 = 1) ∧ z = (b : Int) ∧ CF J σ0 h T (d F).1 σ') ∨ (((d F).2 = 1 ∨ (d F).2 = 2) ∧ FrJ J σ0 σ' ∧ σ' J 11 = (d F).2))
theorem PG.cg {J : Nat} {σ0 : SG} {K V K' V' : Nat → Int} {a b st : Nat} {F : Fx} (h : PG J σ0 K' V' a b st F) (e : ∀ i, a ≤ i → i < b → K' i = K i ∧ V' i = V i) : PG J σ0 K V a b st F := ⟨h.1, fun i h1 h2 => by rw [← (e i h1 h2).1, ← (e i h1 h2).2]; exact h.2.1 i h1 h2, h.2.2⟩
theorem CS.cg {J : Nat} {K V K' V' : Nat → Int} {a b u : Nat} {d : Dn} (h : CS J K V a b u d) (e : ∀ i, a ≤ i → i < b → K' i = K i ∧ V' i = V i) : CS J K' V' a b u d := ⟨h.1, fun n st to F σ0 g => h.2 n st to F σ0 (g.cg e)⟩
theorem CC.cg {J : Nat} {K V K' V' : Nat → Int} {a b u : Nat} {d : Dn} (h : CC J K V a b u d) (e : ∀ i, a ≤ i → i < b → K' i = K i ∧ V' i = V i) : CC J K' V' a b u d := ⟨h.1, fun n st to F σ0 g => h.2 n st to F σ0 (g.cg e)⟩
theorem CS.u {J : Nat} {K V : Nat → Int} {a b u u' : Nat} {d : Dn} (h : CS J K V a b u d) (e : u ≤ u') : CS J K V a b u' d := ⟨⟨h.1.1, by have := h.1.2; omega⟩, fun n st to F σ0 g1 g2 g3 g4 h' T fl σ g5 => h.2 n st to F σ0 g1 g2 g3 g4 h' T fl σ (by omega)⟩
theorem CC.u {J : Nat} {K V : Nat → Int} {a b u u' : Nat} {d : Dn} (h : CC J K V a b u d) (e : u ≤ u') : CC J K V a b u' d := ⟨h.1, fun n st to F σ0 g1 g2 g3 g4 h' T fl σ g5 => h.2 n st to F σ0 g1 g2 g3 g4 h' T fl σ (by omega)⟩
/-- one step of the class's machine -/
theorem step_in {J n a to st : Nat} {σ : SG} {Q : (Int × SG) ⊕ SG → Prop} {k v : Int} (ha : a < to) (ht : to ≤ 400) (hs : σ J 2 = (st : Int)) (h4 : st ≤ 400) (has : a < st) (h11 : σ J 11 = 0) (hk : σ (J + 1) a = k) (hv : σ (J + 2) a = v)
    (q : wp ((if w32 k = 0 then (X2_push n J v σ).bind fun σ54 => some ((a : Int), σ54) else if w32 k = 1 then ((if w32 v < 0 then some 0 else if 8 ≤ w32 v then some 0 else rdA 8 v fun j52 => some (σ (J + 6) j52) : Option Int)).bind (fun s => X2_run_j86 n J σ a s) else if w32 k = 9 then ((if w32 (σ J 10) = 0 then some 1 else some 0 : Option Int)).bind (fun s => X2_run_j112 n σ J a s)
      else if w32 k = 10 then ((if w32 k = 10 then some 1 else some 0 : Option Int)).bind (fun s => X2_run_j148 n σ J a v s) else if w32 k = 11 then ((if w32 k = 10 then some 1 else some 0 : Option Int)).bind (fun s => X2_run_j148x n σ J a v s)
      else bnd2 (X2_pop n J σ) fun v18 σ19 => bnd2 (X2_pop n J σ19) fun v21 σ22 =>
        if w32 k = 6 then ((if w32 k = 6 then (if w32 v18 ≤ w32 v21 then some 0 else some 1) else if w32 k = 7 then (if w32 v21 = w32 v18 then some 1 else some 0) else if w32 v21 ≤ w32 v18 then some 0 else some 1 : Option Int)).bind (fun s => X2_run_j257 n σ22 J a s)
        else if w32 k = 7 then ((if w32 k = 6 then (if w32 v18 ≤ w32 v21 then some 0 else some 1) else if w32 k = 7 then (if w32 v21 = w32 v18 then some 1 else some 0) else if w32 v21 ≤ w32 v18 then some 0 else some 1 : Option Int)).bind (fun s => X2_run_j257x n σ22 J a s)
        else if w32 k = 8 then ((if w32 k = 6 then (if w32 v18 ≤ w32 v21 then some 0 else some 1) else if w32 k = 7 then (if w32 v21 = w32 v18 then some 1 else some 0) else if w32 v21 ≤ w32 v18 then some 0 else some 1 : Option Int)).bind (fun s => X2_run_j257xx n σ22 J a s)
        else bnd2 (X2_reckon n J k v21 v18 σ22) fun v32 σ33 => (X2_push n J v32 σ33).bind fun σ35 => some ((a : Int), σ35) : Option (Int × SG))) (fun s => wp (X2_run_j277 n s.1 s.2) Q)) : wp (X2_run_l2 n (to : Int) J (a : Int) σ) Q := by
  unfold X2_run_l2
  refine wp_ifF (by (focus ((try simp (disch := omega) only [up_eq, up_ne, w32i, mx32_m, mn32_m, ab32_m]) <;> omega))) (wp_ifF (by (focus ((try simp (disch := omega) only [up_eq, up_ne, w32i, mx32_m, mn32_m, ab32_m]) <;> omega))) (wp_ifF (by (focus ((try simp (disch := omega) only [up_eq, up_ne, w32i, mx32_m, mn32_m, ab32_m]) <;> omega))) (wp_ifT (by (focus ((try simp (disch := omega) only [up_eq, up_ne, w32i, mx32_m, mn32_m, ab32_m]) <;> omega))) ?_)))
  refine wp_rdn (by omega) (by omega) (wp_lt (wp_rdn (by omega) (by omega) (wp_lt (wp_bind ?_))))
  rw [hk, hv]
  exact q
theorem push_ok {J n h : Nat} {σ : SG} {v : Int} (hh : σ J 9 = (h : Int)) (hb : h < 24) : X2_push n J v σ = some (up (up σ J 9 ((h : Int) + 1)) (J + 7) h v) := by
  refine of_wp ?_
  unfold X2_push
  repeat' (first | with_reducible refine wp_lt ?_ | with_reducible refine wp_bind ?_ | with_reducible refine wp_bnd2 ?_ | with_reducible refine wp_some ?_ | ((with_reducible refine wp_ifT ?_ ?_); (focus ((try simp (disch := omega) only [up_eq, up_ne, w32i, mx32_m, mn32_m, ab32_m]) <;> omega))) | ((with_reducible refine wp_ifF ?_ ?_); (focus ((try simp (disch := omega) only [up_eq, up_ne, w32i, mx32_m, mn32_m, ab32_m]) <;> omega))) | ((with_reducible refine wp_in1 ?_ ?_); (focus ((try simp (disch := omega) only [up_eq, up_ne, w32i, mx32_m, mn32_m, ab32_m]) <;> omega))) | ((with_reducible refine wp_in0 ?_ ?_); (focus ((try simp (disch := omega) only [up_eq, up_ne, w32i, mx32_m, mn32_m, ab32_m]) <;> omega))) | with_reducible refine wp_th0 ?_ | with_reducible refine wp_th1 ?_ | with_reducible refine wp_surfers ?_ | ((with_reducible refine wp_noS0 (m := m) ?_ n5 ?_ ?_ ?_); (focus ((try simp (disch := omega) only [up_eq, up_ne, w32i, mx32_m, mn32_m, ab32_m]) <;> omega)); (focus ((try simp (disch := omega) only [up_eq, up_ne, w32i, mx32_m, mn32_m, ab32_m]) <;> omega)); (focus ((try simp (disch := omega) only [up_eq, up_ne, w32i, mx32_m, mn32_m, ab32_m]) <;> omega))) | ((with_reducible refine wp_noS1 (m := m) ?_ n5 ?_ ?_ ?_); (focus ((try simp (disch := omega) only [up_eq, up_ne, w32i, mx32_m, mn32_m, ab32_m]) <;> omega)); (focus ((try simp (disch := omega) only [up_eq, up_ne, w32i, mx32_m, mn32_m, ab32_m]) <;> omega)); (focus ((try simp (disch := omega) only [up_eq, up_ne, w32i, mx32_m, mn32_m, ab32_m]) <;> omega))) | ((with_reducible refine wp_mS0 (m := m) hU hS n1 n5 ?_ ?_ ?_); (focus ((try simp (disch := omega) only [up_eq, up_ne, w32i, mx32_m, mn32_m, ab32_m]) <;> omega)); (focus ((try simp (disch := omega) only [up_eq, up_ne, w32i, mx32_m, mn32_m, ab32_m]) <;> omega))) | ((with_reducible refine wp_mS1 (m := m) hU hS n1 n5 ?_ ?_ ?_); (focus ((try simp (disch := omega) only [up_eq, up_ne, w32i, mx32_m, mn32_m, ab32_m]) <;> omega)); (focus ((try simp (disch := omega) only [up_eq, up_ne, w32i, mx32_m, mn32_m, ab32_m]) <;> omega))) | ((with_reducible refine wp_mW0 (m := q) hU hS n2 n6 ?_ ?_ ?_); (focus ((try simp (disch := omega) only [up_eq, up_ne, w32i, mx32_m, mn32_m, ab32_m]) <;> omega)); (focus ((try simp (disch := omega) only [up_eq, up_ne, w32i, mx32_m, mn32_m, ab32_m]) <;> omega))) | ((with_reducible refine wp_mW1 (m := q) hU hS n2 n6 ?_ ?_ ?_); (focus ((try simp (disch := omega) only [up_eq, up_ne, w32i, mx32_m, mn32_m, ab32_m]) <;> omega)); (focus ((try simp (disch := omega) only [up_eq, up_ne, w32i, mx32_m, mn32_m, ab32_m]) <;> omega))) | ((with_reducible refine wp_mO0 ?_ ?_); (focus ((try simp (disch := omega) only [up_eq, up_ne, w32i, mx32_m, mn32_m, ab32_m]) <;> omega))) | ((with_reducible refine wp_mO1 ?_ ?_); (focus ((try simp (disch := omega) only [up_eq, up_ne, w32i, mx32_m, mn32_m, ab32_m]) <;> omega))) | ((with_reducible refine wp_mP0 ?_ ?_); (focus ((try simp (disch := omega) only [up_eq, up_ne, w32i, mx32_m, mn32_m, ab32_m]) <;> omega))) | ((with_reducible refine wp_mP1 ?_ ?_); (focus ((try simp (disch := omega) only [up_eq, up_ne, w32i, mx32_m, mn32_m, ab32_m]) <;> omega))) | ((with_reducible refine wp_mR0 ?_ ?_); (focus ((try simp (disch := omega) only [up_eq, up_ne, w32i, mx32_m, mn32_m, ab32_m]) <;> omega))) | ((with_reducible refine wp_mR1 ?_ ?_); (focus ((try simp (disch := omega) only [up_eq, up_ne, w32i, mx32_m, mn32_m, ab32_m]) <;> omega))) | ((with_reducible refine wp_rdn ?_ ?_ ?_); (focus omega); (focus omega)) | ((with_reducible refine wp_rdI 0 ?_ ?_ ?_ ?_); (focus exact rfl); (focus decide); (focus decide)) | ((with_reducible refine wp_rdI 1 ?_ ?_ ?_ ?_); (focus exact rfl); (focus decide); (focus decide)) | ((with_reducible refine wp_rdI 2 ?_ ?_ ?_ ?_); (focus exact rfl); (focus decide); (focus decide)) | ((with_reducible refine wp_rdI 3 ?_ ?_ ?_ ?_); (focus exact rfl); (focus decide); (focus decide)) | ((with_reducible refine wp_rdI h ?_ ?_ ?_ ?_); (focus ((try simp (disch := omega) only [up_eq, up_ne, w32i, mx32_m, mn32_m, ab32_m]) <;> omega)); (focus omega); (focus decide)) | ((with_reducible refine wp_ckI (39 + 2 * s) ?_ (isSw_s (by omega)) ?_); (focus ((try simp (disch := omega) only [up_eq, up_ne, w32i, mx32_m, mn32_m, ab32_m]) <;> omega))) | ((with_reducible refine wp_ckI (39 + 2 * k) ?_ (isSw_s (by omega)) ?_); (focus ((try simp (disch := omega) only [up_eq, up_ne, w32i, mx32_m, mn32_m, ab32_m]) <;> omega))) | ((with_reducible refine wp_ckI S ?_ (isSea_S hS) ?_); (focus ((try simp (disch := omega) only [up_eq, up_ne, w32i, mx32_m, mn32_m, ab32_m]) <;> omega))) | ((with_reducible refine wp_ckI J ?_ (isJudge_J hJ) ?_); (focus ((try simp (disch := omega) only [up_eq, up_ne, w32i, mx32_m, mn32_m, ab32_m]) <;> omega))) | fail )
  rw [hh]
theorem pop_ok {J n h : Nat} {σ : SG} {v : Int} (hh : σ J 9 = ((h + 1 : Nat) : Int)) (hb : h < 24) (hv : σ (J + 7) h = v) : X2_pop n J σ = some (v, up σ J 9 (h : Int)) := by
  refine of_wp ?_
  unfold X2_pop
  repeat' (first | with_reducible refine wp_lt ?_ | with_reducible refine wp_bind ?_ | with_reducible refine wp_bnd2 ?_ | with_reducible refine wp_some ?_ | ((with_reducible refine wp_ifT ?_ ?_); (focus ((try simp (disch := omega) only [up_eq, up_ne, w32i, mx32_m, mn32_m, ab32_m]) <;> omega))) | ((with_reducible refine wp_ifF ?_ ?_); (focus ((try simp (disch := omega) only [up_eq, up_ne, w32i, mx32_m, mn32_m, ab32_m]) <;> omega))) | ((with_reducible refine wp_in1 ?_ ?_); (focus ((try simp (disch := omega) only [up_eq, up_ne, w32i, mx32_m, mn32_m, ab32_m]) <;> omega))) | ((with_reducible refine wp_in0 ?_ ?_); (focus ((try simp (disch := omega) only [up_eq, up_ne, w32i, mx32_m, mn32_m, ab32_m]) <;> omega))) | with_reducible refine wp_th0 ?_ | with_reducible refine wp_th1 ?_ | with_reducible refine wp_surfers ?_ | ((with_reducible refine wp_noS0 (m := m) ?_ n5 ?_ ?_ ?_); (focus ((try simp (disch := omega) only [up_eq, up_ne, w32i, mx32_m, mn32_m, ab32_m]) <;> omega)); (focus ((try simp (disch := omega) only [up_eq, up_ne, w32i, mx32_m, mn32_m, ab32_m]) <;> omega)); (focus ((try simp (disch := omega) only [up_eq, up_ne, w32i, mx32_m, mn32_m, ab32_m]) <;> omega))) | ((with_reducible refine wp_noS1 (m := m) ?_ n5 ?_ ?_ ?_); (focus ((try simp (disch := omega) only [up_eq, up_ne, w32i, mx32_m, mn32_m, ab32_m]) <;> omega)); (focus ((try simp (disch := omega) only [up_eq, up_ne, w32i, mx32_m, mn32_m, ab32_m]) <;> omega)); (focus ((try simp (disch := omega) only [up_eq, up_ne, w32i, mx32_m, mn32_m, ab32_m]) <;> omega))) | ((with_reducible refine wp_mS0 (m := m) hU hS n1 n5 ?_ ?_ ?_); (focus ((try simp (disch := omega) only [up_eq, up_ne, w32i, mx32_m, mn32_m, ab32_m]) <;> omega)); (focus ((try simp (disch := omega) only [up_eq, up_ne, w32i, mx32_m, mn32_m, ab32_m]) <;> omega))) | ((with_reducible refine wp_mS1 (m := m) hU hS n1 n5 ?_ ?_ ?_); (focus ((try simp (disch := omega) only [up_eq, up_ne, w32i, mx32_m, mn32_m, ab32_m]) <;> omega)); (focus ((try simp (disch := omega) only [up_eq, up_ne, w32i, mx32_m, mn32_m, ab32_m]) <;> omega))) | ((with_reducible refine wp_mW0 (m := q) hU hS n2 n6 ?_ ?_ ?_); (focus ((try simp (disch := omega) only [up_eq, up_ne, w32i, mx32_m, mn32_m, ab32_m]) <;> omega)); (focus ((try simp (disch := omega) only [up_eq, up_ne, w32i, mx32_m, mn32_m, ab32_m]) <;> omega))) | ((with_reducible refine wp_mW1 (m := q) hU hS n2 n6 ?_ ?_ ?_); (focus ((try simp (disch := omega) only [up_eq, up_ne, w32i, mx32_m, mn32_m, ab32_m]) <;> omega)); (focus ((try simp (disch := omega) only [up_eq, up_ne, w32i, mx32_m, mn32_m, ab32_m]) <;> omega))) | ((with_reducible refine wp_mO0 ?_ ?_); (focus ((try simp (disch := omega) only [up_eq, up_ne, w32i, mx32_m, mn32_m, ab32_m]) <;> omega))) | ((with_reducible refine wp_mO1 ?_ ?_); (focus ((try simp (disch := omega) only [up_eq, up_ne, w32i, mx32_m, mn32_m, ab32_m]) <;> omega))) | ((with_reducible refine wp_mP0 ?_ ?_); (focus ((try simp (disch := omega) only [up_eq, up_ne, w32i, mx32_m, mn32_m, ab32_m]) <;> omega))) | ((with_reducible refine wp_mP1 ?_ ?_); (focus ((try simp (disch := omega) only [up_eq, up_ne, w32i, mx32_m, mn32_m, ab32_m]) <;> omega))) | ((with_reducible refine wp_mR0 ?_ ?_); (focus ((try simp (disch := omega) only [up_eq, up_ne, w32i, mx32_m, mn32_m, ab32_m]) <;> omega))) | ((with_reducible refine wp_mR1 ?_ ?_); (focus ((try simp (disch := omega) only [up_eq, up_ne, w32i, mx32_m, mn32_m, ab32_m]) <;> omega))) | ((with_reducible refine wp_rdn ?_ ?_ ?_); (focus omega); (focus omega)) | ((with_reducible refine wp_rdI 0 ?_ ?_ ?_ ?_); (focus exact rfl); (focus decide); (focus decide)) | ((with_reducible refine wp_rdI 1 ?_ ?_ ?_ ?_); (focus exact rfl); (focus decide); (focus decide)) | ((with_reducible refine wp_rdI 2 ?_ ?_ ?_ ?_); (focus exact rfl); (focus decide); (focus decide)) | ((with_reducible refine wp_rdI 3 ?_ ?_ ?_ ?_); (focus exact rfl); (focus decide); (focus decide)) | ((with_reducible refine wp_rdI h ?_ ?_ ?_ ?_); (focus ((try simp (disch := omega) only [up_eq, up_ne, w32i, mx32_m, mn32_m, ab32_m]) <;> omega)); (focus omega); (focus decide)) | ((with_reducible refine wp_ckI (39 + 2 * s) ?_ (isSw_s (by omega)) ?_); (focus ((try simp (disch := omega) only [up_eq, up_ne, w32i, mx32_m, mn32_m, ab32_m]) <;> omega))) | ((with_reducible refine wp_ckI (39 + 2 * k) ?_ (isSw_s (by omega)) ?_); (focus ((try simp (disch := omega) only [up_eq, up_ne, w32i, mx32_m, mn32_m, ab32_m]) <;> omega))) | ((with_reducible refine wp_ckI S ?_ (isSea_S hS) ?_); (focus ((try simp (disch := omega) only [up_eq, up_ne, w32i, mx32_m, mn32_m, ab32_m]) <;> omega))) | ((with_reducible refine wp_ckI J ?_ (isJudge_J hJ) ?_); (focus ((try simp (disch := omega) only [up_eq, up_ne, w32i, mx32_m, mn32_m, ab32_m]) <;> omega))) | fail )
  simp (disch := omega) only [up_ne]
  rw [hv, hh, show ((h + 1 : Nat) : Int) - 1 = (h : Int) by omega]
/-- behind a push -/
theorem CF.push {J h : Nat} {σ0 σ : SG} {T : Nat → Int} {fl v : Int} (c : CF J σ0 h T fl σ) : CF J σ0 (h + 1) (setT T h v) fl (up (up σ J 9 ((h : Int) + 1)) (J + 7) h v) := by
  obtain ⟨c1, c2, c3, c4, c5⟩ := c
  refine ⟨(c1.up (by omega)).up (by omega), ?_, ?_, ?_, fun i hi => ?_⟩
  · (simp (disch := omega) only [up_eq, up_ne, w32i, mx32_m, mn32_m, ab32_m])
    omega
  · (simp (disch := omega) only [up_eq, up_ne, w32i, mx32_m, mn32_m, ab32_m])
    exact c3
  · (simp (disch := omega) only [up_eq, up_ne, w32i, mx32_m, mn32_m, ab32_m])
    exact c4
  · by_cases q : i = h
    · subst q
      rw [up_eq rfl rfl, setT_eq]
    · rw [up_ne (by omega), up_ne (by omega), setT_ne q]
      exact c5 i (by omega)
theorem FrJ.pg {J : Nat} {σ0 σ : SG} {K V : Nat → Int} {a b st : Nat} {F : Fx} (g : PG J σ0 K V a b st F) (f : FrJ J σ0 σ) : σ J 2 = (st : Int) ∧ (∀ i, a ≤ i → i < b → σ (J + 1) i = K i ∧ σ (J + 2) i = V i) ∧ ∀ i, i < 8 → σ (J + 6) i = F i := by
  obtain ⟨hJ, g1, g2, g3, g4, g5⟩ := g
  refine ⟨(f J 2 (by omega) (by omega)).trans g2, fun i h1 h2 => ⟨(f _ i (by omega) (by omega)).trans (g1 i h1 h2).1, (f _ i (by omega) (by omega)).trans (g1 i h1 h2).2⟩, fun i hi => (f _ i (by omega) (by omega)).trans (g5 i hi)⟩
theorem CS_put {J a : Nat} {K V : Nat → Int} {v : Int} (hk : K a = 0) (hv : V a = v) (hr : rng v) : CS J K V a (a + 1) 1 (fun _ => (v, 0)) := by
  refine ⟨⟨by omega, by decide⟩, fun n st to F σ0 g hF ht ht4 h T fl σ hu hfl c => ?_⟩
  obtain ⟨p1, p2, p3⟩ := c.1.pg g
  obtain ⟨hJ, -, -, g3, g4, -⟩ := g
  obtain ⟨q1, q2⟩ := p2 a (by omega) (by omega)
  obtain ⟨⟨z, σ'⟩, s1, s2⟩ := wp_1 (f := fC n J to) (x := ((a : Int), σ)) (P := fun x => x.1 = ((a + 1 : Nat) : Int) ∧ CF J σ0 (h + 1) (setT T h v) fl x.2) (by
    show wp (X2_run_l2 n (to : Int) J (a : Int) σ) _
    refine step_in (k := 0) (v := v) (by omega) ht4 p1 g3 (by omega) c.2.2.2.1 (q1.trans hk) (q2.trans hv) ?_
    refine wp_ifT rfl (wp_bind (wp_of (push_ok c.2.1 (by omega)) (wp_some ?_)))
    unfold X2_run_j277
    repeat' (first | with_reducible refine wp_lt ?_ | with_reducible refine wp_bind ?_ | with_reducible refine wp_bnd2 ?_ | with_reducible refine wp_some ?_ | ((with_reducible refine wp_ifT ?_ ?_); (focus ((try simp (disch := omega) only [up_eq, up_ne, w32i, mx32_m, mn32_m, ab32_m]) <;> omega))) | ((with_reducible refine wp_ifF ?_ ?_); (focus ((try simp (disch := omega) only [up_eq, up_ne, w32i, mx32_m, mn32_m, ab32_m]) <;> omega))) | ((with_reducible refine wp_in1 ?_ ?_); (focus ((try simp (disch := omega) only [up_eq, up_ne, w32i, mx32_m, mn32_m, ab32_m]) <;> omega))) | ((with_reducible refine wp_in0 ?_ ?_); (focus ((try simp (disch := omega) only [up_eq, up_ne, w32i, mx32_m, mn32_m, ab32_m]) <;> omega))) | with_reducible refine wp_th0 ?_ | with_reducible refine wp_th1 ?_ | with_reducible refine wp_surfers ?_ | ((with_reducible refine wp_noS0 (m := m) ?_ n5 ?_ ?_ ?_); (focus ((try simp (disch := omega) only [up_eq, up_ne, w32i, mx32_m, mn32_m, ab32_m]) <;> omega)); (focus ((try simp (disch := omega) only [up_eq, up_ne, w32i, mx32_m, mn32_m, ab32_m]) <;> omega)); (focus ((try simp (disch := omega) only [up_eq, up_ne, w32i, mx32_m, mn32_m, ab32_m]) <;> omega))) | ((with_reducible refine wp_noS1 (m := m) ?_ n5 ?_ ?_ ?_); (focus ((try simp (disch := omega) only [up_eq, up_ne, w32i, mx32_m, mn32_m, ab32_m]) <;> omega)); (focus ((try simp (disch := omega) only [up_eq, up_ne, w32i, mx32_m, mn32_m, ab32_m]) <;> omega)); (focus ((try simp (disch := omega) only [up_eq, up_ne, w32i, mx32_m, mn32_m, ab32_m]) <;> omega))) | ((with_reducible refine wp_mS0 (m := m) hU hS n1 n5 ?_ ?_ ?_); (focus ((try simp (disch := omega) only [up_eq, up_ne, w32i, mx32_m, mn32_m, ab32_m]) <;> omega)); (focus ((try simp (disch := omega) only [up_eq, up_ne, w32i, mx32_m, mn32_m, ab32_m]) <;> omega))) | ((with_reducible refine wp_mS1 (m := m) hU hS n1 n5 ?_ ?_ ?_); (focus ((try simp (disch := omega) only [up_eq, up_ne, w32i, mx32_m, mn32_m, ab32_m]) <;> omega)); (focus ((try simp (disch := omega) only [up_eq, up_ne, w32i, mx32_m, mn32_m, ab32_m]) <;> omega))) | ((with_reducible refine wp_mW0 (m := q) hU hS n2 n6 ?_ ?_ ?_); (focus ((try simp (disch := omega) only [up_eq, up_ne, w32i, mx32_m, mn32_m, ab32_m]) <;> omega)); (focus ((try simp (disch := omega) only [up_eq, up_ne, w32i, mx32_m, mn32_m, ab32_m]) <;> omega))) | ((with_reducible refine wp_mW1 (m := q) hU hS n2 n6 ?_ ?_ ?_); (focus ((try simp (disch := omega) only [up_eq, up_ne, w32i, mx32_m, mn32_m, ab32_m]) <;> omega)); (focus ((try simp (disch := omega) only [up_eq, up_ne, w32i, mx32_m, mn32_m, ab32_m]) <;> omega))) | ((with_reducible refine wp_mO0 ?_ ?_); (focus ((try simp (disch := omega) only [up_eq, up_ne, w32i, mx32_m, mn32_m, ab32_m]) <;> omega))) | ((with_reducible refine wp_mO1 ?_ ?_); (focus ((try simp (disch := omega) only [up_eq, up_ne, w32i, mx32_m, mn32_m, ab32_m]) <;> omega))) | ((with_reducible refine wp_mP0 ?_ ?_); (focus ((try simp (disch := omega) only [up_eq, up_ne, w32i, mx32_m, mn32_m, ab32_m]) <;> omega))) | ((with_reducible refine wp_mP1 ?_ ?_); (focus ((try simp (disch := omega) only [up_eq, up_ne, w32i, mx32_m, mn32_m, ab32_m]) <;> omega))) | ((with_reducible refine wp_mR0 ?_ ?_); (focus ((try simp (disch := omega) only [up_eq, up_ne, w32i, mx32_m, mn32_m, ab32_m]) <;> omega))) | ((with_reducible refine wp_mR1 ?_ ?_); (focus ((try simp (disch := omega) only [up_eq, up_ne, w32i, mx32_m, mn32_m, ab32_m]) <;> omega))) | ((with_reducible refine wp_rdn ?_ ?_ ?_); (focus omega); (focus omega)) | ((with_reducible refine wp_rdI 0 ?_ ?_ ?_ ?_); (focus exact rfl); (focus decide); (focus decide)) | ((with_reducible refine wp_rdI 1 ?_ ?_ ?_ ?_); (focus exact rfl); (focus decide); (focus decide)) | ((with_reducible refine wp_rdI 2 ?_ ?_ ?_ ?_); (focus exact rfl); (focus decide); (focus decide)) | ((with_reducible refine wp_rdI 3 ?_ ?_ ?_ ?_); (focus exact rfl); (focus decide); (focus decide)) | ((with_reducible refine wp_rdI h ?_ ?_ ?_ ?_); (focus ((try simp (disch := omega) only [up_eq, up_ne, w32i, mx32_m, mn32_m, ab32_m]) <;> omega)); (focus omega); (focus decide)) | ((with_reducible refine wp_ckI (39 + 2 * s) ?_ (isSw_s (by omega)) ?_); (focus ((try simp (disch := omega) only [up_eq, up_ne, w32i, mx32_m, mn32_m, ab32_m]) <;> omega))) | ((with_reducible refine wp_ckI (39 + 2 * k) ?_ (isSw_s (by omega)) ?_); (focus ((try simp (disch := omega) only [up_eq, up_ne, w32i, mx32_m, mn32_m, ab32_m]) <;> omega))) | ((with_reducible refine wp_ckI S ?_ (isSea_S hS) ?_); (focus ((try simp (disch := omega) only [up_eq, up_ne, w32i, mx32_m, mn32_m, ab32_m]) <;> omega))) | ((with_reducible refine wp_ckI J ?_ (isJudge_J hJ) ?_); (focus ((try simp (disch := omega) only [up_eq, up_ne, w32i, mx32_m, mn32_m, ab32_m]) <;> omega))) | fail )
    exact ⟨_, rfl, by simp only []; omega, c.push⟩)
  exact ⟨1, z, σ', by omega, s1, Or.inl ⟨rfl, hr, s2.1, s2.2⟩⟩
theorem CS_fetch {J a f : Nat} {K V : Nat → Int} (hk : K a = 1) (hv : V a = (f : Int)) (hf : f < 8) : CS J K V a (a + 1) 1 (fun F => (F f, 0)) := by
  refine ⟨⟨by omega, by decide⟩, fun n st to F σ0 g hF ht ht4 h T fl σ hu hfl c => ?_⟩
  obtain ⟨p1, p2, p3⟩ := c.1.pg g
  obtain ⟨hJ, -, -, g3, g4, -⟩ := g
  obtain ⟨q1, q2⟩ := p2 a (by omega) (by omega)
  obtain ⟨⟨z, σ'⟩, s1, s2⟩ := wp_1 (f := fC n J to) (x := ((a : Int), σ)) (P := fun x => x.1 = ((a + 1 : Nat) : Int) ∧ CF J σ0 (h + 1) (setT T h (F f)) fl x.2) (by
    show wp (X2_run_l2 n (to : Int) J (a : Int) σ) _
    refine step_in (k := 1) (v := (f : Int)) (by omega) ht4 p1 g3 (by omega) c.2.2.2.1 (q1.trans hk) (q2.trans hv) ?_
    refine wp_ifF (by decide) (wp_ifT rfl (wp_bind (wp_ifF (by (focus ((try simp (disch := omega) only [up_eq, up_ne, w32i, mx32_m, mn32_m, ab32_m]) <;> omega))) (wp_ifF (by (focus ((try simp (disch := omega) only [up_eq, up_ne, w32i, mx32_m, mn32_m, ab32_m]) <;> omega))) (wp_rdn (by omega) (by omega) (wp_some ?_))))))
    unfold X2_run_j86 X2_run_j277
    refine wp_bind (wp_of (push_ok c.2.1 (by omega)) (wp_some ?_))
    rw [p3 f hf]
    repeat' (first | with_reducible refine wp_lt ?_ | with_reducible refine wp_bind ?_ | with_reducible refine wp_bnd2 ?_ | with_reducible refine wp_some ?_ | ((with_reducible refine wp_ifT ?_ ?_); (focus ((try simp (disch := omega) only [up_eq, up_ne, w32i, mx32_m, mn32_m, ab32_m]) <;> omega))) | ((with_reducible refine wp_ifF ?_ ?_); (focus ((try simp (disch := omega) only [up_eq, up_ne, w32i, mx32_m, mn32_m, ab32_m]) <;> omega))) | ((with_reducible refine wp_in1 ?_ ?_); (focus ((try simp (disch := omega) only [up_eq, up_ne, w32i, mx32_m, mn32_m, ab32_m]) <;> omega))) | ((with_reducible refine wp_in0 ?_ ?_); (focus ((try simp (disch := omega) only [up_eq, up_ne, w32i, mx32_m, mn32_m, ab32_m]) <;> omega))) | with_reducible refine wp_th0 ?_ | with_reducible refine wp_th1 ?_ | with_reducible refine wp_surfers ?_ | ((with_reducible refine wp_noS0 (m := m) ?_ n5 ?_ ?_ ?_); (focus ((try simp (disch := omega) only [up_eq, up_ne, w32i, mx32_m, mn32_m, ab32_m]) <;> omega)); (focus ((try simp (disch := omega) only [up_eq, up_ne, w32i, mx32_m, mn32_m, ab32_m]) <;> omega)); (focus ((try simp (disch := omega) only [up_eq, up_ne, w32i, mx32_m, mn32_m, ab32_m]) <;> omega))) | ((with_reducible refine wp_noS1 (m := m) ?_ n5 ?_ ?_ ?_); (focus ((try simp (disch := omega) only [up_eq, up_ne, w32i, mx32_m, mn32_m, ab32_m]) <;> omega)); (focus ((try simp (disch := omega) only [up_eq, up_ne, w32i, mx32_m, mn32_m, ab32_m]) <;> omega)); (focus ((try simp (disch := omega) only [up_eq, up_ne, w32i, mx32_m, mn32_m, ab32_m]) <;> omega))) | ((with_reducible refine wp_mS0 (m := m) hU hS n1 n5 ?_ ?_ ?_); (focus ((try simp (disch := omega) only [up_eq, up_ne, w32i, mx32_m, mn32_m, ab32_m]) <;> omega)); (focus ((try simp (disch := omega) only [up_eq, up_ne, w32i, mx32_m, mn32_m, ab32_m]) <;> omega))) | ((with_reducible refine wp_mS1 (m := m) hU hS n1 n5 ?_ ?_ ?_); (focus ((try simp (disch := omega) only [up_eq, up_ne, w32i, mx32_m, mn32_m, ab32_m]) <;> omega)); (focus ((try simp (disch := omega) only [up_eq, up_ne, w32i, mx32_m, mn32_m, ab32_m]) <;> omega))) | ((with_reducible refine wp_mW0 (m := q) hU hS n2 n6 ?_ ?_ ?_); (focus ((try simp (disch := omega) only [up_eq, up_ne, w32i, mx32_m, mn32_m, ab32_m]) <;> omega)); (focus ((try simp (disch := omega) only [up_eq, up_ne, w32i, mx32_m, mn32_m, ab32_m]) <;> omega))) | ((with_reducible refine wp_mW1 (m := q) hU hS n2 n6 ?_ ?_ ?_); (focus ((try simp (disch := omega) only [up_eq, up_ne, w32i, mx32_m, mn32_m, ab32_m]) <;> omega)); (focus ((try simp (disch := omega) only [up_eq, up_ne, w32i, mx32_m, mn32_m, ab32_m]) <;> omega))) | ((with_reducible refine wp_mO0 ?_ ?_); (focus ((try simp (disch := omega) only [up_eq, up_ne, w32i, mx32_m, mn32_m, ab32_m]) <;> omega))) | ((with_reducible refine wp_mO1 ?_ ?_); (focus ((try simp (disch := omega) only [up_eq, up_ne, w32i, mx32_m, mn32_m, ab32_m]) <;> omega))) | ((with_reducible refine wp_mP0 ?_ ?_); (focus ((try simp (disch := omega) only [up_eq, up_ne, w32i, mx32_m, mn32_m, ab32_m]) <;> omega))) | ((with_reducible refine wp_mP1 ?_ ?_); (focus ((try simp (disch := omega) only [up_eq, up_ne, w32i, mx32_m, mn32_m, ab32_m]) <;> omega))) | ((with_reducible refine wp_mR0 ?_ ?_); (focus ((try simp (disch := omega) only [up_eq, up_ne, w32i, mx32_m, mn32_m, ab32_m]) <;> omega))) | ((with_reducible refine wp_mR1 ?_ ?_); (focus ((try simp (disch := omega) only [up_eq, up_ne, w32i, mx32_m, mn32_m, ab32_m]) <;> omega))) | ((with_reducible refine wp_rdn ?_ ?_ ?_); (focus omega); (focus omega)) | ((with_reducible refine wp_rdI 0 ?_ ?_ ?_ ?_); (focus exact rfl); (focus decide); (focus decide)) | ((with_reducible refine wp_rdI 1 ?_ ?_ ?_ ?_); (focus exact rfl); (focus decide); (focus decide)) | ((with_reducible refine wp_rdI 2 ?_ ?_ ?_ ?_); (focus exact rfl); (focus decide); (focus decide)) | ((with_reducible refine wp_rdI 3 ?_ ?_ ?_ ?_); (focus exact rfl); (focus decide); (focus decide)) | ((with_reducible refine wp_rdI h ?_ ?_ ?_ ?_); (focus ((try simp (disch := omega) only [up_eq, up_ne, w32i, mx32_m, mn32_m, ab32_m]) <;> omega)); (focus omega); (focus decide)) | ((with_reducible refine wp_ckI (39 + 2 * s) ?_ (isSw_s (by omega)) ?_); (focus ((try simp (disch := omega) only [up_eq, up_ne, w32i, mx32_m, mn32_m, ab32_m]) <;> omega))) | ((with_reducible refine wp_ckI (39 + 2 * k) ?_ (isSw_s (by omega)) ?_); (focus ((try simp (disch := omega) only [up_eq, up_ne, w32i, mx32_m, mn32_m, ab32_m]) <;> omega))) | ((with_reducible refine wp_ckI S ?_ (isSea_S hS) ?_); (focus ((try simp (disch := omega) only [up_eq, up_ne, w32i, mx32_m, mn32_m, ab32_m]) <;> omega))) | ((with_reducible refine wp_ckI J ?_ (isJudge_J hJ) ?_); (focus ((try simp (disch := omega) only [up_eq, up_ne, w32i, mx32_m, mn32_m, ab32_m]) <;> omega))) | fail )
    exact ⟨_, rfl, by simp only []; omega, c.push⟩)
  exact ⟨1, z, σ', by omega, s1, Or.inl ⟨rfl, hF f hf, s2.1, s2.2⟩⟩
/-! reckoning -/
theorem w64i {x : Int} (h : -9223372036854775808 ≤ x ∧ x < 9223372036854775808) : w64 x = x := w64_id h.1 h.2
theorem cmpL_m {x y : Int} (h : (-9223372036854775808 ≤ x ∧ x < 9223372036854775808) ∧ -9223372036854775808 ≤ y ∧ y < 9223372036854775808) : w32 (cmpL x y) = if y < x then 1 else if x = y then 0 else -1 := by
  unfold cmpL
  rw [w64i h.1, w64i h.2]
  split
  · decide
  · split <;> decide
theorem mul_rng {x y : Int} (hx : rng x) (hy : rng y) : -4611686018427387904 ≤ x * y ∧ x * y ≤ 4611686018427387904 := by
  obtain ⟨a1, a2⟩ := hx
  obtain ⟨b1, b2⟩ := hy
  have h1 : x.natAbs ≤ 2147483648 := by omega
  have h2 : y.natAbs ≤ 2147483648 := by omega
  have h3 : (x * y).natAbs ≤ 2147483648 * 2147483648 := by
    rw [Int.natAbs_mul]
    exact Nat.mul_le_mul h1 h2
  omega
theorem tdiv_rng {x y : Int} (hx : rng x) : -2147483648 ≤ x.tdiv y ∧ x.tdiv y ≤ 2147483648 := by
  obtain ⟨a1, a2⟩ := hx
  have h1 : (x.tdiv y).natAbs ≤ x.natAbs := by
    rw [Int.natAbs_tdiv]
    exact Nat.div_le_self _ _
  omega
/-- the exact number -/
def exq (op x y : Int) : Int := if op = 2 then x + y else if op = 3 then x - y else if op = 4 then x * y else x.tdiv y
def rk (op x y : Int) : Int × Int := if op = 5 ∧ y = 0 then (0, 2) else if exq op x y < -2147483648 ∨ 2147483647 < exq op x y then (0, 1) else (exq op x y, 0)
theorem rk_b {op x y : Int} : (rk op x y).2 = 0 ∧ rng (rk op x y).1 ∨ (rk op x y).2 = 1 ∨ (rk op x y).2 = 2 := by
  unfold rk
  split
  · exact Or.inr (Or.inr rfl)
  · split
    · exact Or.inr (Or.inl rfl)
    · rename_i h
      exact Or.inl ⟨rfl, by unfold rng; simp only []; omega⟩
theorem exq_b {op x y : Int} (hx : rng x) (hy : rng y) : -9223372036854775808 ≤ exq op x y ∧ exq op x y < 9223372036854775808 := by
  have h1 := mul_rng hx hy
  have h2 := tdiv_rng (y := y) hx
  obtain ⟨a1, a2⟩ := hx
  obtain ⟨b1, b2⟩ := hy
  unfold exq
  split
  · omega
  · split
    · omega
    · split <;> omega
theorem reckon_ok {J n : Nat} {op x y : Int} {σ : SG} (ho : op = 2 ∨ op = 3 ∨ op = 4 ∨ op = 5) (hx : rng x) (hy : rng y) : X2_reckon n J op x y σ = some ((rk op x y).1, if (rk op x y).2 = 0 then σ else up σ J 11 (rk op x y).2) := by
  refine of_wp ?_
  have eb := exq_b (op := op) hx hy
  have ex := w32_r hx
  have ey := w32_r hy
  unfold X2_reckon
  have tail : ∀ e : Int, e = exq op x y → ¬ (op = 5 ∧ y = 0) → wp ((if w32 (cmpL e (-2147483648)) < 0 then lt (up σ J 11 1) fun σ3 => some ((0 : Int), σ3) else if w32 (cmpL e 2147483647) ≤ 0 then some (e, σ) else lt (up σ J 11 1) fun σ4 => some (0, σ4) : Option (Int × SG))) (fun r => r = ((rk op x y).1, if (rk op x y).2 = 0 then σ else up σ J 11 (rk op x y).2)) := by
    rintro e rfl h5
    have k1 := cmpL_m (x := exq op x y) (y := -2147483648) (by omega)
    have k2 := cmpL_m (x := exq op x y) (y := 2147483647) (by omega)
    unfold rk
    rw [if_neg h5]
    by_cases q1 : exq op x y < -2147483648
    · rw [if_neg (by omega), if_neg (by omega)] at k1
      rw [if_pos (Or.inl q1)]
      refine wp_ifT (by rw [k1]; decide) (wp_lt (wp_some ?_))
      rfl
    · have k3 : ¬ w32 (cmpL (exq op x y) (-2147483648)) < 0 := by
        rw [k1]
        by_cases q0 : -2147483648 < exq op x y
        · rw [if_pos q0]; decide
        · rw [if_neg q0, if_pos (by omega)]; decide
      refine wp_ifF k3 ?_
      by_cases q2 : 2147483647 < exq op x y
      · rw [if_pos q2] at k2
        rw [if_pos (Or.inr q2)]
        refine wp_ifF (by rw [k2]; decide) (wp_lt (wp_some ?_))
        rfl
      · rw [if_neg q2] at k2
        have k4 : w32 (cmpL (exq op x y) 2147483647) ≤ 0 := by
          rw [k2]
          split <;> decide
        rw [if_neg (show ¬ (exq op x y < -2147483648 ∨ 2147483647 < exq op x y) by omega)]
        refine wp_ifT k4 (wp_some ?_)
        rfl
  rcases ho with rfl | rfl | rfl | rfl
  · refine wp_ifF (by decide) (wp_bind (wp_ifT rfl (wp_some ?_)))
    unfold X2_reckon_j68
    refine tail _ ?_ (fun h => absurd h.1 (by decide))
    rw [ex, ey]
    rfl
  · refine wp_ifF (by decide) (wp_bind (wp_ifF (by decide) (wp_ifT rfl (wp_some ?_))))
    unfold X2_reckon_j68
    refine tail _ ?_ (fun h => absurd h.1 (by decide))
    rw [ex, ey]
    rfl
  · refine wp_ifF (by decide) (wp_bind (wp_ifF (by decide) (wp_ifF (by decide) (wp_ifT rfl (wp_some ?_)))))
    unfold X2_reckon_j68
    refine tail _ ?_ (fun h => absurd h.1 (by decide))
    rw [ex, ey]
    rfl
  · by_cases q : y = 0
    · refine wp_ifT rfl (wp_ifT (by rw [ey]; exact q) (wp_lt (wp_some ?_)))
      unfold rk
      rw [if_pos ⟨rfl, q⟩]
      rfl
    · refine wp_ifT rfl (wp_ifF (by rw [ey]; exact q) (wp_bind (wp_ifF (by decide) (wp_ifF (by decide) (wp_ifF (by decide) (wp_ifF (by rw [ey]; exact q) (wp_ifF ?_ (wp_some ?_))))))))
      · rw [ey, w64i (by obtain ⟨b1, b2⟩ := hy; omega)]
        exact q
      · unfold X2_reckon_j68x
        refine tail _ ?_ (fun h => q h.2)
        unfold dv64
        rw [ex, ey, w64i (by obtain ⟨b1, b2⟩ := hx; omega), w64i (by obtain ⟨b1, b2⟩ := hy; omega)]
        rfl
def dbin (op : Int) (d1 d2 : Dn) : Dn := fun F => if (d1 F).2 ≠ 0 then (0, (d1 F).2) else if (d2 F).2 ≠ 0 then (0, (d2 F).2) else rk op (d1 F).1 (d2 F).1
theorem CS_bin {J a b c u1 u2 : Nat} {K V : Nat → Int} {op : Int} {d1 d2 : Dn} (h1 : CS J K V a b u1 d1) (h2 : CS J K V b c u2 d2) (hk : K c = op) (ho : op = 2 ∨ op = 3 ∨ op = 4 ∨ op = 5) (hu : u1 ≤ 1 + u2) : CS J K V a (c + 1) (1 + u2) (dbin op d1 d2) := by
  refine ⟨⟨by have := h1.1.1; have := h2.1.1; omega, by omega⟩, fun n st to F σ0 g hF ht ht4 h T fl σ hu' hfl cf => ?_⟩
  obtain ⟨l1, l1'⟩ := h1.1
  obtain ⟨l2, l2'⟩ := h2.1
  obtain ⟨c1, z1, σ1, e1, s1, r1⟩ := h1.2 n st to F σ0 (g.sub (Nat.le_refl _) (by omega)) hF (by omega) ht4 h T fl σ (by omega) hfl cf
  rcases r1 with ⟨t1, g1, rfl, cf1⟩ | ⟨t1, f1, f2⟩
  · obtain ⟨c2, z2, σ2, e2, s2, r2⟩ := h2.2 n st to F σ0 (g.sub (by omega) (by omega)) hF (by omega) ht4 (h + 1) _ fl σ1 (by omega) hfl cf1
    rcases r2 with ⟨t2, g2, rfl, cf2⟩ | ⟨t2, f1, f2⟩
    · have ed : dbin op d1 d2 F = rk op (d1 F).1 (d2 F).1 := by
        unfold dbin
        rw [if_neg (fun q => q t1), if_neg (fun q => q t2)]
      obtain ⟨p1, p2, p3⟩ := cf2.1.pg g
      have g' := g
      obtain ⟨hJ, -, -, g3, g4, -⟩ := g'
      obtain ⟨q1, q2⟩ := p2 c (by omega) (by omega)
      obtain ⟨⟨z, σ'⟩, s3, s4⟩ := wp_1 (f := fC n J to) (x := ((c : Int), σ2)) (P := fun x => ((rk op (d1 F).1 (d2 F).1).2 = 0 ∧ x.1 = ((c + 1 : Nat) : Int) ∧ CF J σ0 (h + 1) (setT T h (rk op (d1 F).1 (d2 F).1).1) fl x.2) ∨ ((rk op (d1 F).1 (d2 F).1).2 ≠ 0 ∧ FrJ J σ0 x.2 ∧ x.2 J 11 = (rk op (d1 F).1 (d2 F).1).2)) (by
        show wp (X2_run_l2 n (to : Int) J (c : Int) σ2) _
        refine step_in (k := op) (v := V c) (by omega) ht4 p1 g3 (by omega) cf2.2.2.2.1 (q1.trans hk) q2 ?_
        have hop : ¬ w32 op = 0 ∧ ¬ w32 op = 1 ∧ ¬ w32 op = 9 ∧ ¬ w32 op = 10 ∧ ¬ w32 op = 11 ∧ ¬ w32 op = 6 ∧ ¬ w32 op = 7 ∧ ¬ w32 op = 8 := by rcases ho with rfl | rfl | rfl | rfl <;> decide
        obtain ⟨o1, o2, o3, o4, o5, o6, o7, o8⟩ := hop
        have v2 : σ2 (J + 7) (h + 1) = (d2 F).1 := (cf2.2.2.2.2 (h + 1) (by omega)).trans setT_eq
        have v1 : σ2 (J + 7) h = (d1 F).1 := (cf2.2.2.2.2 h (by omega)).trans ((setT_ne (by omega)).trans setT_eq)
        refine wp_ifF o1 (wp_ifF o2 (wp_ifF o3 (wp_ifF o4 (wp_ifF o5 (wp_bnd2 (wp_of (pop_ok (h := h + 1) cf2.2.1 (by omega) v2) (wp_bnd2 (wp_of (pop_ok (h := h) (up_eq rfl rfl) (by omega) ((up_ne (by omega)).trans v1)) ?_))))))))
        dsimp only
        refine wp_ifF o6 (wp_ifF o7 (wp_ifF o8 (wp_bnd2 (wp_of (reckon_ok ho g1 g2) ?_))))
        have cfp : CF J σ0 h T fl (up (up σ2 J 9 ((h + 1 : Nat) : Int)) J 9 (h : Int)) := by
          refine ⟨(cf2.1.up (by omega)).up (by omega), up_eq rfl rfl, ?_, ?_, fun i hi => ?_⟩
          · (simp (disch := omega) only [up_eq, up_ne, w32i, mx32_m, mn32_m, ab32_m])
            exact cf2.2.2.1
          · (simp (disch := omega) only [up_eq, up_ne, w32i, mx32_m, mn32_m, ab32_m])
            exact cf2.2.2.2.1
          · rw [up_ne (by omega), up_ne (by omega), cf2.2.2.2.2 i (by omega), setT_ne (by omega), setT_ne (by omega)]
        by_cases qr : (rk op (d1 F).1 (d2 F).1).2 = 0
        · dsimp only
          rw [if_pos qr]
          refine wp_bind (wp_of (push_ok cfp.2.1 (by omega)) (wp_some ?_))
          unfold X2_run_j277
          repeat' (first | with_reducible refine wp_lt ?_ | with_reducible refine wp_bind ?_ | with_reducible refine wp_bnd2 ?_ | with_reducible refine wp_some ?_ | ((with_reducible refine wp_ifT ?_ ?_); (focus ((try simp (disch := omega) only [up_eq, up_ne, w32i, mx32_m, mn32_m, ab32_m]) <;> omega))) | ((with_reducible refine wp_ifF ?_ ?_); (focus ((try simp (disch := omega) only [up_eq, up_ne, w32i, mx32_m, mn32_m, ab32_m]) <;> omega))) | ((with_reducible refine wp_in1 ?_ ?_); (focus ((try simp (disch := omega) only [up_eq, up_ne, w32i, mx32_m, mn32_m, ab32_m]) <;> omega))) | ((with_reducible refine wp_in0 ?_ ?_); (focus ((try simp (disch := omega) only [up_eq, up_ne, w32i, mx32_m, mn32_m, ab32_m]) <;> omega))) | with_reducible refine wp_th0 ?_ | with_reducible refine wp_th1 ?_ | with_reducible refine wp_surfers ?_ | ((with_reducible refine wp_noS0 (m := m) ?_ n5 ?_ ?_ ?_); (focus ((try simp (disch := omega) only [up_eq, up_ne, w32i, mx32_m, mn32_m, ab32_m]) <;> omega)); (focus ((try simp (disch := omega) only [up_eq, up_ne, w32i, mx32_m, mn32_m, ab32_m]) <;> omega)); (focus ((try simp (disch := omega) only [up_eq, up_ne, w32i, mx32_m, mn32_m, ab32_m]) <;> omega))) | ((with_reducible refine wp_noS1 (m := m) ?_ n5 ?_ ?_ ?_); (focus ((try simp (disch := omega) only [up_eq, up_ne, w32i, mx32_m, mn32_m, ab32_m]) <;> omega)); (focus ((try simp (disch := omega) only [up_eq, up_ne, w32i, mx32_m, mn32_m, ab32_m]) <;> omega)); (focus ((try simp (disch := omega) only [up_eq, up_ne, w32i, mx32_m, mn32_m, ab32_m]) <;> omega))) | ((with_reducible refine wp_mS0 (m := m) hU hS n1 n5 ?_ ?_ ?_); (focus ((try simp (disch := omega) only [up_eq, up_ne, w32i, mx32_m, mn32_m, ab32_m]) <;> omega)); (focus ((try simp (disch := omega) only [up_eq, up_ne, w32i, mx32_m, mn32_m, ab32_m]) <;> omega))) | ((with_reducible refine wp_mS1 (m := m) hU hS n1 n5 ?_ ?_ ?_); (focus ((try simp (disch := omega) only [up_eq, up_ne, w32i, mx32_m, mn32_m, ab32_m]) <;> omega)); (focus ((try simp (disch := omega) only [up_eq, up_ne, w32i, mx32_m, mn32_m, ab32_m]) <;> omega))) | ((with_reducible refine wp_mW0 (m := q) hU hS n2 n6 ?_ ?_ ?_); (focus ((try simp (disch := omega) only [up_eq, up_ne, w32i, mx32_m, mn32_m, ab32_m]) <;> omega)); (focus ((try simp (disch := omega) only [up_eq, up_ne, w32i, mx32_m, mn32_m, ab32_m]) <;> omega))) | ((with_reducible refine wp_mW1 (m := q) hU hS n2 n6 ?_ ?_ ?_); (focus ((try simp (disch := omega) only [up_eq, up_ne, w32i, mx32_m, mn32_m, ab32_m]) <;> omega)); (focus ((try simp (disch := omega) only [up_eq, up_ne, w32i, mx32_m, mn32_m, ab32_m]) <;> omega))) | ((with_reducible refine wp_mO0 ?_ ?_); (focus ((try simp (disch := omega) only [up_eq, up_ne, w32i, mx32_m, mn32_m, ab32_m]) <;> omega))) | ((with_reducible refine wp_mO1 ?_ ?_); (focus ((try simp (disch := omega) only [up_eq, up_ne, w32i, mx32_m, mn32_m, ab32_m]) <;> omega))) | ((with_reducible refine wp_mP0 ?_ ?_); (focus ((try simp (disch := omega) only [up_eq, up_ne, w32i, mx32_m, mn32_m, ab32_m]) <;> omega))) | ((with_reducible refine wp_mP1 ?_ ?_); (focus ((try simp (disch := omega) only [up_eq, up_ne, w32i, mx32_m, mn32_m, ab32_m]) <;> omega))) | ((with_reducible refine wp_mR0 ?_ ?_); (focus ((try simp (disch := omega) only [up_eq, up_ne, w32i, mx32_m, mn32_m, ab32_m]) <;> omega))) | ((with_reducible refine wp_mR1 ?_ ?_); (focus ((try simp (disch := omega) only [up_eq, up_ne, w32i, mx32_m, mn32_m, ab32_m]) <;> omega))) | ((with_reducible refine wp_rdn ?_ ?_ ?_); (focus omega); (focus omega)) | ((with_reducible refine wp_rdI 0 ?_ ?_ ?_ ?_); (focus exact rfl); (focus decide); (focus decide)) | ((with_reducible refine wp_rdI 1 ?_ ?_ ?_ ?_); (focus exact rfl); (focus decide); (focus decide)) | ((with_reducible refine wp_rdI 2 ?_ ?_ ?_ ?_); (focus exact rfl); (focus decide); (focus decide)) | ((with_reducible refine wp_rdI 3 ?_ ?_ ?_ ?_); (focus exact rfl); (focus decide); (focus decide)) | ((with_reducible refine wp_rdI h ?_ ?_ ?_ ?_); (focus ((try simp (disch := omega) only [up_eq, up_ne, w32i, mx32_m, mn32_m, ab32_m]) <;> omega)); (focus omega); (focus decide)) | ((with_reducible refine wp_ckI (39 + 2 * s) ?_ (isSw_s (by omega)) ?_); (focus ((try simp (disch := omega) only [up_eq, up_ne, w32i, mx32_m, mn32_m, ab32_m]) <;> omega))) | ((with_reducible refine wp_ckI (39 + 2 * k) ?_ (isSw_s (by omega)) ?_); (focus ((try simp (disch := omega) only [up_eq, up_ne, w32i, mx32_m, mn32_m, ab32_m]) <;> omega))) | ((with_reducible refine wp_ckI S ?_ (isSea_S hS) ?_); (focus ((try simp (disch := omega) only [up_eq, up_ne, w32i, mx32_m, mn32_m, ab32_m]) <;> omega))) | ((with_reducible refine wp_ckI J ?_ (isJudge_J hJ) ?_); (focus ((try simp (disch := omega) only [up_eq, up_ne, w32i, mx32_m, mn32_m, ab32_m]) <;> omega))) | fail )
          exact ⟨_, rfl, Or.inl ⟨qr, by simp only []; omega, cfp.push⟩⟩
        · dsimp only
          rw [if_neg qr]
          refine wp_bind (wp_of (push_ok (h := h) (by (simp (disch := omega) only [up_eq, up_ne, w32i, mx32_m, mn32_m, ab32_m])) (by omega)) (wp_some ?_))
          unfold X2_run_j277
          repeat' (first | with_reducible refine wp_lt ?_ | with_reducible refine wp_bind ?_ | with_reducible refine wp_bnd2 ?_ | with_reducible refine wp_some ?_ | ((with_reducible refine wp_ifT ?_ ?_); (focus ((try simp (disch := omega) only [up_eq, up_ne, w32i, mx32_m, mn32_m, ab32_m]) <;> omega))) | ((with_reducible refine wp_ifF ?_ ?_); (focus ((try simp (disch := omega) only [up_eq, up_ne, w32i, mx32_m, mn32_m, ab32_m]) <;> omega))) | ((with_reducible refine wp_in1 ?_ ?_); (focus ((try simp (disch := omega) only [up_eq, up_ne, w32i, mx32_m, mn32_m, ab32_m]) <;> omega))) | ((with_reducible refine wp_in0 ?_ ?_); (focus ((try simp (disch := omega) only [up_eq, up_ne, w32i, mx32_m, mn32_m, ab32_m]) <;> omega))) | with_reducible refine wp_th0 ?_ | with_reducible refine wp_th1 ?_ | with_reducible refine wp_surfers ?_ | ((with_reducible refine wp_noS0 (m := m) ?_ n5 ?_ ?_ ?_); (focus ((try simp (disch := omega) only [up_eq, up_ne, w32i, mx32_m, mn32_m, ab32_m]) <;> omega)); (focus ((try simp (disch := omega) only [up_eq, up_ne, w32i, mx32_m, mn32_m, ab32_m]) <;> omega)); (focus ((try simp (disch := omega) only [up_eq, up_ne, w32i, mx32_m, mn32_m, ab32_m]) <;> omega))) | ((with_reducible refine wp_noS1 (m := m) ?_ n5 ?_ ?_ ?_); (focus ((try simp (disch := omega) only [up_eq, up_ne, w32i, mx32_m, mn32_m, ab32_m]) <;> omega)); (focus ((try simp (disch := omega) only [up_eq, up_ne, w32i, mx32_m, mn32_m, ab32_m]) <;> omega)); (focus ((try simp (disch := omega) only [up_eq, up_ne, w32i, mx32_m, mn32_m, ab32_m]) <;> omega))) | ((with_reducible refine wp_mS0 (m := m) hU hS n1 n5 ?_ ?_ ?_); (focus ((try simp (disch := omega) only [up_eq, up_ne, w32i, mx32_m, mn32_m, ab32_m]) <;> omega)); (focus ((try simp (disch := omega) only [up_eq, up_ne, w32i, mx32_m, mn32_m, ab32_m]) <;> omega))) | ((with_reducible refine wp_mS1 (m := m) hU hS n1 n5 ?_ ?_ ?_); (focus ((try simp (disch := omega) only [up_eq, up_ne, w32i, mx32_m, mn32_m, ab32_m]) <;> omega)); (focus ((try simp (disch := omega) only [up_eq, up_ne, w32i, mx32_m, mn32_m, ab32_m]) <;> omega))) | ((with_reducible refine wp_mW0 (m := q) hU hS n2 n6 ?_ ?_ ?_); (focus ((try simp (disch := omega) only [up_eq, up_ne, w32i, mx32_m, mn32_m, ab32_m]) <;> omega)); (focus ((try simp (disch := omega) only [up_eq, up_ne, w32i, mx32_m, mn32_m, ab32_m]) <;> omega))) | ((with_reducible refine wp_mW1 (m := q) hU hS n2 n6 ?_ ?_ ?_); (focus ((try simp (disch := omega) only [up_eq, up_ne, w32i, mx32_m, mn32_m, ab32_m]) <;> omega)); (focus ((try simp (disch := omega) only [up_eq, up_ne, w32i, mx32_m, mn32_m, ab32_m]) <;> omega))) | ((with_reducible refine wp_mO0 ?_ ?_); (focus ((try simp (disch := omega) only [up_eq, up_ne, w32i, mx32_m, mn32_m, ab32_m]) <;> omega))) | ((with_reducible refine wp_mO1 ?_ ?_); (focus ((try simp (disch := omega) only [up_eq, up_ne, w32i, mx32_m, mn32_m, ab32_m]) <;> omega))) | ((with_reducible refine wp_mP0 ?_ ?_); (focus ((try simp (disch := omega) only [up_eq, up_ne, w32i, mx32_m, mn32_m, ab32_m]) <;> omega))) | ((with_reducible refine wp_mP1 ?_ ?_); (focus ((try simp (disch := omega) only [up_eq, up_ne, w32i, mx32_m, mn32_m, ab32_m]) <;> omega))) | ((with_reducible refine wp_mR0 ?_ ?_); (focus ((try simp (disch := omega) only [up_eq, up_ne, w32i, mx32_m, mn32_m, ab32_m]) <;> omega))) | ((with_reducible refine wp_mR1 ?_ ?_); (focus ((try simp (disch := omega) only [up_eq, up_ne, w32i, mx32_m, mn32_m, ab32_m]) <;> omega))) | ((with_reducible refine wp_rdn ?_ ?_ ?_); (focus omega); (focus omega)) | ((with_reducible refine wp_rdI 0 ?_ ?_ ?_ ?_); (focus exact rfl); (focus decide); (focus decide)) | ((with_reducible refine wp_rdI 1 ?_ ?_ ?_ ?_); (focus exact rfl); (focus decide); (focus decide)) | ((with_reducible refine wp_rdI 2 ?_ ?_ ?_ ?_); (focus exact rfl); (focus decide); (focus decide)) | ((with_reducible refine wp_rdI 3 ?_ ?_ ?_ ?_); (focus exact rfl); (focus decide); (focus decide)) | ((with_reducible refine wp_rdI h ?_ ?_ ?_ ?_); (focus ((try simp (disch := omega) only [up_eq, up_ne, w32i, mx32_m, mn32_m, ab32_m]) <;> omega)); (focus omega); (focus decide)) | ((with_reducible refine wp_ckI (39 + 2 * s) ?_ (isSw_s (by omega)) ?_); (focus ((try simp (disch := omega) only [up_eq, up_ne, w32i, mx32_m, mn32_m, ab32_m]) <;> omega))) | ((with_reducible refine wp_ckI (39 + 2 * k) ?_ (isSw_s (by omega)) ?_); (focus ((try simp (disch := omega) only [up_eq, up_ne, w32i, mx32_m, mn32_m, ab32_m]) <;> omega))) | ((with_reducible refine wp_ckI S ?_ (isSea_S hS) ?_); (focus ((try simp (disch := omega) only [up_eq, up_ne, w32i, mx32_m, mn32_m, ab32_m]) <;> omega))) | ((with_reducible refine wp_ckI J ?_ (isJudge_J hJ) ?_); (focus ((try simp (disch := omega) only [up_eq, up_ne, w32i, mx32_m, mn32_m, ab32_m]) <;> omega))) | fail )
          refine ⟨_, rfl, Or.inr ⟨qr, ((cfp.1.up (by omega)).up (by omega)).up (by omega), ?_⟩⟩
          (simp (disch := omega) only [up_eq, up_ne, w32i, mx32_m, mn32_m, ab32_m]))
      have s5 := stp_tr (stp_tr s1 s2) s3
      refine ⟨_, z, σ', by omega, s5, ?_⟩
      rw [ed]
      rcases s4 with ⟨k1, k2, k3⟩ | ⟨k1, k2, k3⟩
      · rcases rk_b (op := op) (x := (d1 F).1) (y := (d2 F).1) with ⟨m1, m2⟩ | m
        · exact Or.inl ⟨k1, m2, k2, k3⟩
        · omega
      · rcases rk_b (op := op) (x := (d1 F).1) (y := (d2 F).1) with ⟨m1, m2⟩ | m
        · exact absurd m1 k1
        · exact Or.inr ⟨m, k2, k3⟩
    · have ed : dbin op d1 d2 F = (0, (d2 F).2) := by
        unfold dbin
        rw [if_neg (fun q => q t1), if_pos (by omega)]
      refine ⟨_, z2, σ2, by omega, stp_tr s1 s2, ?_⟩
      rw [ed]
      exact Or.inr ⟨t2, f1, f2⟩
  · have ed : dbin op d1 d2 F = (0, (d1 F).2) := by
      unfold dbin
      rw [if_pos (by omega)]
    refine ⟨_, z1, σ1, by omega, s1, ?_⟩
    rw [ed]
    exact Or.inr ⟨t1, f1, f2⟩
/-! conditions -/
def cmq (op x y : Int) : Int := if op = 6 then (if x < y then 1 else 0) else if op = 7 then (if x = y then 1 else 0) else if y < x then 1 else 0
theorem cmq_b {op x y : Int} : cmq op x y = 0 ∨ cmq op x y = 1 := by
  unfold cmq
  split
  · split
    · exact Or.inr rfl
    · exact Or.inl rfl
  · split
    · split
      · exact Or.inr rfl
      · exact Or.inl rfl
    · split
      · exact Or.inr rfl
      · exact Or.inl rfl
def dcmp (op : Int) (d1 d2 : Dn) : Dn := fun F => if (d1 F).2 ≠ 0 then (0, (d1 F).2) else if (d2 F).2 ≠ 0 then (0, (d2 F).2) else (cmq op (d1 F).1 (d2 F).1, 0)
theorem CC_cmp {J a b c u1 u2 : Nat} {K V : Nat → Int} {op : Int} {d1 d2 : Dn} (h1 : CS J K V a b u1 d1) (h2 : CS J K V b c u2 d2) (hk : K c = op) (ho : op = 6 ∨ op = 7 ∨ op = 8) (hu : u1 ≤ 1 + u2) : CC J K V a (c + 1) (1 + u2) (dcmp op d1 d2) := by
  refine ⟨by have := h1.1.1; have := h2.1.1; omega, fun n st to F σ0 g hF ht ht4 h T fl σ hu' hfl cf => ?_⟩
  obtain ⟨l1, l1'⟩ := h1.1
  obtain ⟨l2, l2'⟩ := h2.1
  obtain ⟨c1, z1, σ1, e1, s1, r1⟩ := h1.2 n st to F σ0 (g.sub (Nat.le_refl _) (by omega)) hF (by omega) ht4 h T fl σ (by omega) hfl cf
  rcases r1 with ⟨t1, g1, rfl, cf1⟩ | ⟨t1, f1, f2⟩
  · obtain ⟨c2, z2, σ2, e2, s2, r2⟩ := h2.2 n st to F σ0 (g.sub (by omega) (by omega)) hF (by omega) ht4 (h + 1) _ fl σ1 (by omega) hfl cf1
    rcases r2 with ⟨t2, g2, rfl, cf2⟩ | ⟨t2, f1, f2⟩
    · have ed : dcmp op d1 d2 F = (cmq op (d1 F).1 (d2 F).1, 0) := by
        unfold dcmp
        rw [if_neg (fun q => q t1), if_neg (fun q => q t2)]
      obtain ⟨p1, p2, p3⟩ := cf2.1.pg g
      have g' := g
      obtain ⟨hJ, -, -, g3, g4, -⟩ := g'
      obtain ⟨q1, q2⟩ := p2 c (by omega) (by omega)
      have x1 := w32_r g1
      have x2 := w32_r g2
      obtain ⟨⟨z, σ'⟩, s3, s4⟩ := wp_1 (f := fC n J to) (x := ((c : Int), σ2)) (P := fun x => x.1 = ((c + 1 : Nat) : Int) ∧ CF J σ0 h T (cmq op (d1 F).1 (d2 F).1) x.2) (by
        show wp (X2_run_l2 n (to : Int) J (c : Int) σ2) _
        refine step_in (k := op) (v := V c) (by omega) ht4 p1 g3 (by omega) cf2.2.2.2.1 (q1.trans hk) q2 ?_
        have hop : ¬ w32 op = 0 ∧ ¬ w32 op = 1 ∧ ¬ w32 op = 9 ∧ ¬ w32 op = 10 ∧ ¬ w32 op = 11 := by rcases ho with rfl | rfl | rfl <;> decide
        obtain ⟨o1, o2, o3, o4, o5⟩ := hop
        have v2 : σ2 (J + 7) (h + 1) = (d2 F).1 := (cf2.2.2.2.2 (h + 1) (by omega)).trans setT_eq
        have v1 : σ2 (J + 7) h = (d1 F).1 := (cf2.2.2.2.2 h (by omega)).trans ((setT_ne (by omega)).trans setT_eq)
        refine wp_ifF o1 (wp_ifF o2 (wp_ifF o3 (wp_ifF o4 (wp_ifF o5 (wp_bnd2 (wp_of (pop_ok (h := h + 1) cf2.2.1 (by omega) v2) (wp_bnd2 (wp_of (pop_ok (h := h) (up_eq rfl rfl) (by omega) ((up_ne (by omega)).trans v1)) ?_))))))))
        dsimp only
        have cfp : ∀ v : Int, CF J σ0 h T v (up (up (up σ2 J 9 ((h + 1 : Nat) : Int)) J 9 (h : Int)) J 10 v) := fun v => by
          refine ⟨((cf2.1.up (by omega)).up (by omega)).up (by omega), ?_, up_eq rfl rfl, ?_, fun i hi => ?_⟩
          · (simp (disch := omega) only [up_eq, up_ne, w32i, mx32_m, mn32_m, ab32_m])
          · (simp (disch := omega) only [up_eq, up_ne, w32i, mx32_m, mn32_m, ab32_m])
            exact cf2.2.2.2.1
          · rw [up_ne (by omega), up_ne (by omega), up_ne (by omega), cf2.2.2.2.2 i (by omega), setT_ne (by omega), setT_ne (by omega)]
        simp only [x1, x2]
        unfold cmq
        rcases ho with rfl | rfl | rfl
        · rw [if_pos (show (6 : Int) = 6 from rfl)]
          by_cases q : (d1 F).1 < (d2 F).1
          · refine wp_ifT rfl (wp_bind (wp_ifT rfl (wp_ifF (by omega) (wp_some ?_))))
            unfold X2_run_j257 X2_run_j277
            refine wp_ifT (Or.inr rfl) (wp_lt (wp_some (wp_lt (wp_some ⟨_, rfl, by simp only []; omega, by rw [if_pos q]; exact cfp 1⟩))))
          · refine wp_ifT rfl (wp_bind (wp_ifT rfl (wp_ifT (by omega) (wp_some ?_))))
            unfold X2_run_j257 X2_run_j277
            refine wp_ifT (Or.inl rfl) (wp_lt (wp_some (wp_lt (wp_some ⟨_, rfl, by simp only []; omega, by rw [if_neg q]; exact cfp 0⟩))))
        · rw [if_neg (show ¬ (7 : Int) = 6 by decide), if_pos (show (7 : Int) = 7 from rfl)]
          by_cases q : (d1 F).1 = (d2 F).1
          · refine wp_ifF (by decide) (wp_ifT rfl (wp_bind (wp_ifF (by decide) (wp_ifT rfl (wp_ifT (by omega) (wp_some ?_))))))
            unfold X2_run_j257x X2_run_j277
            refine wp_ifT (Or.inr rfl) (wp_lt (wp_some (wp_lt (wp_some ⟨_, rfl, by simp only []; omega, by rw [if_pos q]; exact cfp 1⟩))))
          · refine wp_ifF (by decide) (wp_ifT rfl (wp_bind (wp_ifF (by decide) (wp_ifT rfl (wp_ifF (by omega) (wp_some ?_))))))
            unfold X2_run_j257x X2_run_j277
            refine wp_ifT (Or.inl rfl) (wp_lt (wp_some (wp_lt (wp_some ⟨_, rfl, by simp only []; omega, by rw [if_neg q]; exact cfp 0⟩))))
        · rw [if_neg (show ¬ (8 : Int) = 6 by decide), if_neg (show ¬ (8 : Int) = 7 by decide)]
          by_cases q : (d2 F).1 < (d1 F).1
          · refine wp_ifF (by decide) (wp_ifF (by decide) (wp_ifT rfl (wp_bind (wp_ifF (by decide) (wp_ifF (by decide) (wp_ifF (by omega) (wp_some ?_)))))))
            unfold X2_run_j257xx X2_run_j277
            refine wp_ifT (Or.inr rfl) (wp_lt (wp_some (wp_lt (wp_some ⟨_, rfl, by simp only []; omega, by rw [if_pos q]; exact cfp 1⟩))))
          · refine wp_ifF (by decide) (wp_ifF (by decide) (wp_ifT rfl (wp_bind (wp_ifF (by decide) (wp_ifF (by decide) (wp_ifT (by omega) (wp_some ?_)))))))
            unfold X2_run_j257xx X2_run_j277
            refine wp_ifT (Or.inl rfl) (wp_lt (wp_some (wp_lt (wp_some ⟨_, rfl, by simp only []; omega, by rw [if_neg q]; exact cfp 0⟩)))))
      refine ⟨_, z, σ', by omega, stp_tr (stp_tr s1 s2) s3, ?_⟩
      rw [ed]
      exact Or.inl ⟨rfl, cmq_b, s4.1, s4.2⟩
    · have ed : dcmp op d1 d2 F = (0, (d2 F).2) := by
        unfold dcmp
        rw [if_neg (fun q => q t1), if_pos (by omega)]
      refine ⟨_, z2, σ2, by omega, stp_tr s1 s2, ?_⟩
      rw [ed]
      exact Or.inr ⟨t2, f1, f2⟩
  · have ed : dcmp op d1 d2 F = (0, (d1 F).2) := by
      unfold dcmp
      rw [if_pos (by omega)]
    refine ⟨_, z1, σ1, by omega, s1, ?_⟩
    rw [ed]
    exact Or.inr ⟨t1, f1, f2⟩
def dnot (d : Dn) : Dn := fun F => if (d F).2 ≠ 0 then (0, (d F).2) else (1 - (d F).1, 0)
theorem CC_not {J a b u : Nat} {K V : Nat → Int} {d : Dn} (h1 : CC J K V a b u d) (hk : K b = 9) : CC J K V a (b + 1) u (dnot d) := by
  refine ⟨by have := h1.1; omega, fun n st to F σ0 g hF ht ht4 h T fl σ hu' hfl cf => ?_⟩
  have l1 := h1.1
  obtain ⟨c1, z1, σ1, e1, s1, r1⟩ := h1.2 n st to F σ0 (g.sub (Nat.le_refl _) (by omega)) hF (by omega) ht4 h T fl σ (by omega) hfl cf
  rcases r1 with ⟨t1, g1, rfl, cf1⟩ | ⟨t1, f1, f2⟩
  · have ed : dnot d F = (1 - (d F).1, 0) := by
      unfold dnot
      rw [if_neg (fun q => q t1)]
    obtain ⟨p1, p2, p3⟩ := cf1.1.pg g
    have g' := g
    obtain ⟨hJ, -, -, g3, g4, -⟩ := g'
    obtain ⟨q1, q2⟩ := p2 b (by omega) (by omega)
    obtain ⟨⟨z, σ'⟩, s3, s4⟩ := wp_1 (f := fC n J to) (x := ((b : Int), σ1)) (P := fun x => x.1 = ((b + 1 : Nat) : Int) ∧ CF J σ0 h T (1 - (d F).1) x.2) (by
      show wp (X2_run_l2 n (to : Int) J (b : Int) σ1) _
      refine step_in (k := 9) (v := V b) (by omega) ht4 p1 g3 (by omega) cf1.2.2.2.1 (q1.trans hk) q2 ?_
      have cfp : ∀ v : Int, CF J σ0 h T v (up σ1 J 10 v) := fun v => by
        refine ⟨cf1.1.up (by omega), ?_, up_eq rfl rfl, ?_, fun i hi => ?_⟩
        · (simp (disch := omega) only [up_eq, up_ne, w32i, mx32_m, mn32_m, ab32_m])
          exact cf1.2.1
        · (simp (disch := omega) only [up_eq, up_ne, w32i, mx32_m, mn32_m, ab32_m])
          exact cf1.2.2.2.1
        · rw [up_ne (by omega)]
          exact cf1.2.2.2.2 i hi
      refine wp_ifF (by decide) (wp_ifF (by decide) (wp_ifT rfl (wp_bind ?_)))
      rw [cf1.2.2.1]
      rcases g1 with g1 | g1
      · rw [g1]
        refine wp_ifT rfl (wp_some ?_)
        unfold X2_run_j112 X2_run_j277
        exact wp_ifT (Or.inr rfl) (wp_lt (wp_some (wp_lt (wp_some ⟨_, rfl, by simp only []; omega, cfp 1⟩))))
      · rw [g1]
        refine wp_ifF (by decide) (wp_some ?_)
        unfold X2_run_j112 X2_run_j277
        exact wp_ifT (Or.inl rfl) (wp_lt (wp_some (wp_lt (wp_some ⟨_, rfl, by simp only []; omega, cfp 0⟩)))))
    refine ⟨_, z, σ', by omega, stp_tr s1 s3, ?_⟩
    rw [ed]
    exact Or.inl ⟨rfl, by rcases g1 with g1 | g1 <;> rw [g1] <;> decide, s4.1, s4.2⟩
  · have ed : dnot d F = (0, (d F).2) := by
      unfold dnot
      rw [if_pos (by omega)]
    refine ⟨_, z1, σ1, by omega, s1, ?_⟩
    rw [ed]
    exact Or.inr ⟨t1, f1, f2⟩
/-- or (w 1), and (w 0): the first one, and where it isn't enough the second one -/
def djmp (w : Int) (d1 d2 : Dn) : Dn := fun F => if (d1 F).2 ≠ 0 then (0, (d1 F).2) else if (d1 F).1 = w then (w, 0) else d2 F
theorem CC_jmp {J a b e u : Nat} {K V : Nat → Int} {w : Int} {d1 d2 : Dn} (h1 : CC J K V a b u d1) (h2 : CC J K V (b + 1) e u d2) (hk : (w = 1 ∧ K b = 10) ∨ (w = 0 ∧ K b = 11)) (hv : V b = (e : Int)) : CC J K V a e u (djmp w d1 d2) := by
  refine ⟨by have := h1.1; have := h2.1; omega, fun n st to F σ0 g hF ht ht4 h T fl σ hu' hfl cf => ?_⟩
  have l1 := h1.1
  have l2 := h2.1
  obtain ⟨c1, z1, σ1, e1, s1, r1⟩ := h1.2 n st to F σ0 (g.sub (Nat.le_refl _) (by omega)) hF (by omega) ht4 h T fl σ (by omega) hfl cf
  rcases r1 with ⟨t1, g1, rfl, cf1⟩ | ⟨t1, f1, f2⟩
  · obtain ⟨p1, p2, p3⟩ := cf1.1.pg g
    have g' := g
    obtain ⟨hJ, -, -, g3, g4, -⟩ := g'
    obtain ⟨q1, q2⟩ := p2 b (by omega) (by omega)
    obtain ⟨⟨z, σ'⟩, s3, s4, s5⟩ := wp_1 (f := fC n J to) (x := ((b : Int), σ1)) (P := fun x => x.2 = σ1 ∧ x.1 = if (d1 F).1 = w then (e : Int) else ((b + 1 : Nat) : Int)) (by
      rcases hk with ⟨rfl, hk⟩ | ⟨rfl, hk⟩
      · refine step_in (k := 10) (v := (e : Int)) (by omega) ht4 p1 g3 (by omega) cf1.2.2.2.1 (q1.trans hk) (q2.trans hv) ?_
        refine wp_ifF (by decide) (wp_ifF (by decide) (wp_ifF (by decide) (wp_ifT rfl (wp_bind (wp_ifT rfl (wp_some ?_))))))
        unfold X2_run_j148 X2_run_j163 X2_run_j277
        dsimp only
        rcases g1 with g1 | g1
        · have e10 : w32 (σ1 J 10) = 0 := by rw [cf1.2.2.1, g1]; rfl
          refine wp_bind (wp_ifF (by rw [e10]; decide) (wp_some (wp_some (wp_lt (wp_some ⟨_, rfl, rfl, ?_⟩)))))
          rw [if_neg (by rw [g1]; decide)]
          simp only []
          omega
        · have e10 : w32 (σ1 J 10) = 1 := by rw [cf1.2.2.1, g1]; rfl
          refine wp_bind (wp_ifT (by rw [e10]; rfl) (wp_some (wp_some (wp_lt (wp_some ⟨_, rfl, rfl, ?_⟩)))))
          rw [if_pos g1]
          simp only []
          rw [mx32_m (by omega)]
          omega
      · refine step_in (k := 11) (v := (e : Int)) (by omega) ht4 p1 g3 (by omega) cf1.2.2.2.1 (q1.trans hk) (q2.trans hv) ?_
        refine wp_ifF (by decide) (wp_ifF (by decide) (wp_ifF (by decide) (wp_ifF (by decide) (wp_ifT rfl (wp_bind (wp_ifF (by decide) (wp_some ?_)))))))
        unfold X2_run_j148x X2_run_j163x X2_run_j277
        dsimp only
        rcases g1 with g1 | g1
        · have e10 : w32 (σ1 J 10) = 0 := by rw [cf1.2.2.1, g1]; rfl
          refine wp_bind (wp_ifT (by rw [e10]; rfl) (wp_some (wp_some (wp_lt (wp_some ⟨_, rfl, rfl, ?_⟩)))))
          rw [if_pos g1]
          simp only []
          rw [mx32_m (by omega)]
          omega
        · have e10 : w32 (σ1 J 10) = 1 := by rw [cf1.2.2.1, g1]; rfl
          refine wp_bind (wp_ifF (by rw [e10]; decide) (wp_some (wp_some (wp_lt (wp_some ⟨_, rfl, rfl, ?_⟩)))))
          rw [if_neg (by rw [g1]; decide)]
          simp only []
          omega)
    have s4 : σ' = σ1 := s4
    have s5 : z = if (d1 F).1 = w then (e : Int) else ((b + 1 : Nat) : Int) := s5
    subst s4
    by_cases q : (d1 F).1 = w
    · rw [if_pos q] at s5
      have ed : djmp w d1 d2 F = (w, 0) := by
        unfold djmp
        rw [if_neg (fun q => q t1), if_pos q]
      refine ⟨_, z, σ', by omega, stp_tr s1 s3, ?_⟩
      rw [ed]
      exact Or.inl ⟨rfl, by rw [q] at g1; exact g1, s5, by rw [q] at cf1; exact cf1⟩
    · rw [if_neg q] at s5
      subst s5
      have ed : djmp w d1 d2 F = d2 F := by
        unfold djmp
        rw [if_neg (fun q => q t1), if_neg q]
      obtain ⟨c2, z2, σ2, e2, s2, r2⟩ := h2.2 n st to F σ0 (g.sub (by omega) (by omega)) hF (by omega) ht4 h T _ σ' (by omega) g1 cf1
      refine ⟨_, z2, σ2, ?_, stp_tr (stp_tr s1 s3) s2, ?_⟩
      · omega
      · rw [ed]
        exact r2
  · have ed : djmp w d1 d2 F = (0, (d1 F).2) := by
      unfold djmp
      rw [if_pos (by omega)]
    refine ⟨_, z1, σ1, by omega, s1, ?_⟩
    rw [ed]
    exact Or.inr ⟨t1, f1, f2⟩
