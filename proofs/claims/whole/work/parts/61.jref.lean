/-! ===== what a piece of the judge's text comes to, in the reference ===== -/
def FrP (ρ0 ρ : SG) : Prop := ∀ c j, c ≠ 67 → ¬ (c = 57 ∧ j = 23) → ρ c j = ρ0 c j
theorem FrP.rf {ρ : SG} : FrP ρ ρ := fun _ _ _ _ => rfl
theorem FrP.tr {σ τ υ : SG} (h : FrP σ τ) (h' : FrP τ υ) : FrP σ υ := fun c j a b => (h' c j a b).trans (h c j a b)
theorem FrP.up {σ τ : SG} {k j : Nat} {v : Int} (h : FrP σ τ) (hk : k = 67 ∨ (k = 57 ∧ j = 23)) : FrP σ (up τ k j v) := fun c i h1 h2 => by
  rw [up_ne (by omega)]
  exact h c i h1 h2
def CR (ρ0 : SG) (h : Nat) (T : Nat → Int) (ρ : SG) : Prop := FrP ρ0 ρ ∧ ρ 57 23 = 0 ∧ ∀ i, i < h → ρ 67 i = T i
def PR (ρ0 : SG) (K : Nat → Int) (a b : Nat) (F : Fx) : Prop := (∀ i, a ≤ i → i < b → ρ0 62 i = K i) ∧ ∀ i, i < 8 → ρ0 66 i = F i
theorem PR.sub {ρ0 : SG} {K : Nat → Int} {a b a' b' : Nat} {F : Fx} (h : PR ρ0 K a b F) (ha : a ≤ a') (hb : b' ≤ b) : PR ρ0 K a' b' F := ⟨fun i h1 h2 => h.1 i (by omega) (by omega), h.2⟩
abbrev fR (n : Nat) (to : Nat) : Int × Int × SG → Option ((Int × Int × SG) ⊕ SG) := fun s => X12_worked_l5 n (to : Int) s.1 s.2.1 s.2.2
/-- a piece that puts a number onto the pile (a truth as 1 or 0) -/
def RS (K : Nat → Int) (a b u : Nat) (d : Dn) : Prop := (a < b ∧ 1 ≤ u) ∧ ∀ (n to : Nat) (F : Fx) (ρ0 : SG), PR ρ0 K a b F → Fok F → b ≤ to → to ≤ 900 → ∀ (h : Nat) (T : Nat → Int) (ρ : SG), h + u ≤ 400 → CR ρ0 h T ρ →
  ∃ (c : Nat) (z1 z2 : Int) (ρ' : SG), c ≤ b - a ∧ stp (fR n to) c ((h : Int), (a : Int), ρ) (z1, z2, ρ') ∧ (((d F).2 = 0 ∧ rng (d F).1 ∧ z1 = ((h + 1 : Nat) : Int) ∧ z2 = (b : Int) ∧ CR ρ0 (h + 1) (setT T h (d F).1) ρ') ∨ (((d F).2 = 1 ∨ (d F).2 = 2) ∧ FrP ρ0 ρ' ∧ ρ' 57 23 = (d F).2))
theorem RS.cg {K K' : Nat → Int} {a b u : Nat} {d : Dn} (h : RS K a b u d) (e : ∀ i, a ≤ i → i < b → K' i = K i) : RS K' a b u d := ⟨h.1, fun n to F ρ0 g => h.2 n to F ρ0 ⟨fun i h1 h2 => by rw [← e i h1 h2]; exact g.1 i h1 h2, g.2⟩⟩
theorem RS.u {K : Nat → Int} {a b u u' : Nat} {d : Dn} (h : RS K a b u d) (e : u ≤ u') : RS K a b u' d := ⟨⟨h.1.1, by have := h.1.2; omega⟩, fun n to F ρ0 g1 g2 g3 g4 h' T ρ g5 => h.2 n to F ρ0 g1 g2 g3 g4 h' T ρ (by omega)⟩
theorem CR.push {h : Nat} {ρ0 ρ : SG} {T : Nat → Int} {v : Int} (c : CR ρ0 h T ρ) : CR ρ0 (h + 1) (setT T h v) (up ρ 67 h v) := by
  obtain ⟨c1, c2, c3⟩ := c
  refine ⟨c1.up (by omega), ?_, fun i hi => ?_⟩
  · (simp (disch := omega) only [up_eq, up_ne, w32i, mx32_m, mn32_m, ab32_m])
    exact c2
  · by_cases q : i = h
    · subst q
      rw [up_eq rfl rfl, setT_eq]
    · rw [up_ne (by omega), setT_ne q]
      exact c3 i (by omega)
theorem FrP.pr {ρ0 ρ : SG} {K : Nat → Int} {a b : Nat} {F : Fx} (g : PR ρ0 K a b F) (f : FrP ρ0 ρ) : (∀ i, a ≤ i → i < b → ρ 62 i = K i) ∧ ∀ i, i < 8 → ρ 66 i = F i :=
  ⟨fun i h1 h2 => (f 62 i (by decide) (by omega)).trans (g.1 i h1 h2), fun i hi => (f 66 i (by decide) (by omega)).trans (g.2 i hi)⟩
theorem RS_put {a : Nat} {K : Nat → Int} {v : Int} (hk : K a = 1000 + v) (hv : 0 ≤ v ∧ v ≤ 9999) : RS K a (a + 1) 1 (fun _ => (v, 0)) := by
  refine ⟨⟨by omega, by decide⟩, fun n to F ρ0 g hF ht ht4 h T ρ hu c => ?_⟩
  obtain ⟨p2, p3⟩ := c.1.pr g
  have q1 := (p2 a (by omega) (by omega)).trans hk
  have c2 := c.2.1
  obtain ⟨⟨z1, z2, ρ'⟩, s1, s2⟩ := wp_1 (f := fR n to) (x := ((h : Int), (a : Int), ρ)) (P := fun x => x.1 = ((h + 1 : Nat) : Int) ∧ x.2.1 = ((a + 1 : Nat) : Int) ∧ CR ρ0 (h + 1) (setT T h v) x.2.2) (by
    show wp (X12_worked_l5 n (to : Int) (h : Int) (a : Int) ρ) _
    unfold X12_worked_l5 X12_worked_j76 X12_worked_j228
    repeat' (first | with_reducible refine wp_lt ?_ | with_reducible refine wp_bind ?_ | with_reducible refine wp_bnd2 ?_ | with_reducible refine wp_some ?_ | ((with_reducible refine wp_ifT ?_ ?_); (focus ((try simp (disch := omega) only [up_eq, up_ne, w32i, mx32_m, mn32_m, ab32_m]) <;> omega))) | ((with_reducible refine wp_ifF ?_ ?_); (focus ((try simp (disch := omega) only [up_eq, up_ne, w32i, mx32_m, mn32_m, ab32_m]) <;> omega))) | ((with_reducible refine wp_in1 ?_ ?_); (focus ((try simp (disch := omega) only [up_eq, up_ne, w32i, mx32_m, mn32_m, ab32_m]) <;> omega))) | ((with_reducible refine wp_in0 ?_ ?_); (focus ((try simp (disch := omega) only [up_eq, up_ne, w32i, mx32_m, mn32_m, ab32_m]) <;> omega))) | with_reducible refine wp_th0 ?_ | with_reducible refine wp_th1 ?_ | with_reducible refine wp_surfers ?_ | ((with_reducible refine wp_noS0 (m := m) ?_ n5 ?_ ?_ ?_); (focus ((try simp (disch := omega) only [up_eq, up_ne, w32i, mx32_m, mn32_m, ab32_m]) <;> omega)); (focus ((try simp (disch := omega) only [up_eq, up_ne, w32i, mx32_m, mn32_m, ab32_m]) <;> omega)); (focus ((try simp (disch := omega) only [up_eq, up_ne, w32i, mx32_m, mn32_m, ab32_m]) <;> omega))) | ((with_reducible refine wp_noS1 (m := m) ?_ n5 ?_ ?_ ?_); (focus ((try simp (disch := omega) only [up_eq, up_ne, w32i, mx32_m, mn32_m, ab32_m]) <;> omega)); (focus ((try simp (disch := omega) only [up_eq, up_ne, w32i, mx32_m, mn32_m, ab32_m]) <;> omega)); (focus ((try simp (disch := omega) only [up_eq, up_ne, w32i, mx32_m, mn32_m, ab32_m]) <;> omega))) | ((with_reducible refine wp_mS0 (m := m) hU hS n1 n5 ?_ ?_ ?_); (focus ((try simp (disch := omega) only [up_eq, up_ne, w32i, mx32_m, mn32_m, ab32_m]) <;> omega)); (focus ((try simp (disch := omega) only [up_eq, up_ne, w32i, mx32_m, mn32_m, ab32_m]) <;> omega))) | ((with_reducible refine wp_mS1 (m := m) hU hS n1 n5 ?_ ?_ ?_); (focus ((try simp (disch := omega) only [up_eq, up_ne, w32i, mx32_m, mn32_m, ab32_m]) <;> omega)); (focus ((try simp (disch := omega) only [up_eq, up_ne, w32i, mx32_m, mn32_m, ab32_m]) <;> omega))) | ((with_reducible refine wp_mW0 (m := q) hU hS n2 n6 ?_ ?_ ?_); (focus ((try simp (disch := omega) only [up_eq, up_ne, w32i, mx32_m, mn32_m, ab32_m]) <;> omega)); (focus ((try simp (disch := omega) only [up_eq, up_ne, w32i, mx32_m, mn32_m, ab32_m]) <;> omega))) | ((with_reducible refine wp_mW1 (m := q) hU hS n2 n6 ?_ ?_ ?_); (focus ((try simp (disch := omega) only [up_eq, up_ne, w32i, mx32_m, mn32_m, ab32_m]) <;> omega)); (focus ((try simp (disch := omega) only [up_eq, up_ne, w32i, mx32_m, mn32_m, ab32_m]) <;> omega))) | ((with_reducible refine wp_mO0 ?_ ?_); (focus ((try simp (disch := omega) only [up_eq, up_ne, w32i, mx32_m, mn32_m, ab32_m]) <;> omega))) | ((with_reducible refine wp_mO1 ?_ ?_); (focus ((try simp (disch := omega) only [up_eq, up_ne, w32i, mx32_m, mn32_m, ab32_m]) <;> omega))) | ((with_reducible refine wp_mP0 ?_ ?_); (focus ((try simp (disch := omega) only [up_eq, up_ne, w32i, mx32_m, mn32_m, ab32_m]) <;> omega))) | ((with_reducible refine wp_mP1 ?_ ?_); (focus ((try simp (disch := omega) only [up_eq, up_ne, w32i, mx32_m, mn32_m, ab32_m]) <;> omega))) | ((with_reducible refine wp_mR0 ?_ ?_); (focus ((try simp (disch := omega) only [up_eq, up_ne, w32i, mx32_m, mn32_m, ab32_m]) <;> omega))) | ((with_reducible refine wp_mR1 ?_ ?_); (focus ((try simp (disch := omega) only [up_eq, up_ne, w32i, mx32_m, mn32_m, ab32_m]) <;> omega))) | ((with_reducible refine wp_rdn ?_ ?_ ?_); (focus omega); (focus omega)) | ((with_reducible refine wp_rdI 0 ?_ ?_ ?_ ?_); (focus exact rfl); (focus decide); (focus decide)) | ((with_reducible refine wp_rdI 1 ?_ ?_ ?_ ?_); (focus exact rfl); (focus decide); (focus decide)) | ((with_reducible refine wp_rdI 2 ?_ ?_ ?_ ?_); (focus exact rfl); (focus decide); (focus decide)) | ((with_reducible refine wp_rdI 3 ?_ ?_ ?_ ?_); (focus exact rfl); (focus decide); (focus decide)) | ((with_reducible refine wp_rdI h ?_ ?_ ?_ ?_); (focus ((try simp (disch := omega) only [up_eq, up_ne, w32i, mx32_m, mn32_m, ab32_m]) <;> omega)); (focus omega); (focus decide)) | ((with_reducible refine wp_ckI (39 + 2 * s) ?_ (isSw_s (by omega)) ?_); (focus ((try simp (disch := omega) only [up_eq, up_ne, w32i, mx32_m, mn32_m, ab32_m]) <;> omega))) | ((with_reducible refine wp_ckI (39 + 2 * k) ?_ (isSw_s (by omega)) ?_); (focus ((try simp (disch := omega) only [up_eq, up_ne, w32i, mx32_m, mn32_m, ab32_m]) <;> omega))) | ((with_reducible refine wp_ckI S ?_ (isSea_S hS) ?_); (focus ((try simp (disch := omega) only [up_eq, up_ne, w32i, mx32_m, mn32_m, ab32_m]) <;> omega))) | ((with_reducible refine wp_ckI J ?_ (isJudge_J hJ) ?_); (focus ((try simp (disch := omega) only [up_eq, up_ne, w32i, mx32_m, mn32_m, ab32_m]) <;> omega))) | fail )
    refine ⟨_, rfl, by simp only []; omega, by simp only []; omega, ?_⟩
    dsimp only
    rw [w32i (by omega), q1, show 1000 + v - 1000 = v by omega]
    exact c.push)
  exact ⟨1, z1, z2, ρ', by omega, s1, Or.inl ⟨rfl, ⟨by simp only []; omega, by simp only []; omega⟩, s2.1, s2.2.1, s2.2.2⟩⟩
theorem RS_fetch {a f : Nat} {K : Nat → Int} (hk : K a = (f : Int)) (hf : f < 8) : RS K a (a + 1) 1 (fun F => (F f, 0)) := by
  refine ⟨⟨by omega, by decide⟩, fun n to F ρ0 g hF ht ht4 h T ρ hu c => ?_⟩
  obtain ⟨p2, p3⟩ := c.1.pr g
  have q1 := (p2 a (by omega) (by omega)).trans hk
  have q3 := p3 f hf
  have c2 := c.2.1
  obtain ⟨⟨z1, z2, ρ'⟩, s1, s2⟩ := wp_1 (f := fR n to) (x := ((h : Int), (a : Int), ρ)) (P := fun x => x.1 = ((h + 1 : Nat) : Int) ∧ x.2.1 = ((a + 1 : Nat) : Int) ∧ CR ρ0 (h + 1) (setT T h (F f)) x.2.2) (by
    show wp (X12_worked_l5 n (to : Int) (h : Int) (a : Int) ρ) _
    unfold X12_worked_l5 X12_worked_j76x X12_worked_j228
    repeat' (first | with_reducible refine wp_lt ?_ | with_reducible refine wp_bind ?_ | with_reducible refine wp_bnd2 ?_ | with_reducible refine wp_some ?_ | ((with_reducible refine wp_ifT ?_ ?_); (focus ((try simp (disch := omega) only [up_eq, up_ne, w32i, mx32_m, mn32_m, ab32_m]) <;> omega))) | ((with_reducible refine wp_ifF ?_ ?_); (focus ((try simp (disch := omega) only [up_eq, up_ne, w32i, mx32_m, mn32_m, ab32_m]) <;> omega))) | ((with_reducible refine wp_in1 ?_ ?_); (focus ((try simp (disch := omega) only [up_eq, up_ne, w32i, mx32_m, mn32_m, ab32_m]) <;> omega))) | ((with_reducible refine wp_in0 ?_ ?_); (focus ((try simp (disch := omega) only [up_eq, up_ne, w32i, mx32_m, mn32_m, ab32_m]) <;> omega))) | with_reducible refine wp_th0 ?_ | with_reducible refine wp_th1 ?_ | with_reducible refine wp_surfers ?_ | ((with_reducible refine wp_noS0 (m := m) ?_ n5 ?_ ?_ ?_); (focus ((try simp (disch := omega) only [up_eq, up_ne, w32i, mx32_m, mn32_m, ab32_m]) <;> omega)); (focus ((try simp (disch := omega) only [up_eq, up_ne, w32i, mx32_m, mn32_m, ab32_m]) <;> omega)); (focus ((try simp (disch := omega) only [up_eq, up_ne, w32i, mx32_m, mn32_m, ab32_m]) <;> omega))) | ((with_reducible refine wp_noS1 (m := m) ?_ n5 ?_ ?_ ?_); (focus ((try simp (disch := omega) only [up_eq, up_ne, w32i, mx32_m, mn32_m, ab32_m]) <;> omega)); (focus ((try simp (disch := omega) only [up_eq, up_ne, w32i, mx32_m, mn32_m, ab32_m]) <;> omega)); (focus ((try simp (disch := omega) only [up_eq, up_ne, w32i, mx32_m, mn32_m, ab32_m]) <;> omega))) | ((with_reducible refine wp_mS0 (m := m) hU hS n1 n5 ?_ ?_ ?_); (focus ((try simp (disch := omega) only [up_eq, up_ne, w32i, mx32_m, mn32_m, ab32_m]) <;> omega)); (focus ((try simp (disch := omega) only [up_eq, up_ne, w32i, mx32_m, mn32_m, ab32_m]) <;> omega))) | ((with_reducible refine wp_mS1 (m := m) hU hS n1 n5 ?_ ?_ ?_); (focus ((try simp (disch := omega) only [up_eq, up_ne, w32i, mx32_m, mn32_m, ab32_m]) <;> omega)); (focus ((try simp (disch := omega) only [up_eq, up_ne, w32i, mx32_m, mn32_m, ab32_m]) <;> omega))) | ((with_reducible refine wp_mW0 (m := q) hU hS n2 n6 ?_ ?_ ?_); (focus ((try simp (disch := omega) only [up_eq, up_ne, w32i, mx32_m, mn32_m, ab32_m]) <;> omega)); (focus ((try simp (disch := omega) only [up_eq, up_ne, w32i, mx32_m, mn32_m, ab32_m]) <;> omega))) | ((with_reducible refine wp_mW1 (m := q) hU hS n2 n6 ?_ ?_ ?_); (focus ((try simp (disch := omega) only [up_eq, up_ne, w32i, mx32_m, mn32_m, ab32_m]) <;> omega)); (focus ((try simp (disch := omega) only [up_eq, up_ne, w32i, mx32_m, mn32_m, ab32_m]) <;> omega))) | ((with_reducible refine wp_mO0 ?_ ?_); (focus ((try simp (disch := omega) only [up_eq, up_ne, w32i, mx32_m, mn32_m, ab32_m]) <;> omega))) | ((with_reducible refine wp_mO1 ?_ ?_); (focus ((try simp (disch := omega) only [up_eq, up_ne, w32i, mx32_m, mn32_m, ab32_m]) <;> omega))) | ((with_reducible refine wp_mP0 ?_ ?_); (focus ((try simp (disch := omega) only [up_eq, up_ne, w32i, mx32_m, mn32_m, ab32_m]) <;> omega))) | ((with_reducible refine wp_mP1 ?_ ?_); (focus ((try simp (disch := omega) only [up_eq, up_ne, w32i, mx32_m, mn32_m, ab32_m]) <;> omega))) | ((with_reducible refine wp_mR0 ?_ ?_); (focus ((try simp (disch := omega) only [up_eq, up_ne, w32i, mx32_m, mn32_m, ab32_m]) <;> omega))) | ((with_reducible refine wp_mR1 ?_ ?_); (focus ((try simp (disch := omega) only [up_eq, up_ne, w32i, mx32_m, mn32_m, ab32_m]) <;> omega))) | ((with_reducible refine wp_rdn ?_ ?_ ?_); (focus omega); (focus omega)) | ((with_reducible refine wp_rdI 0 ?_ ?_ ?_ ?_); (focus exact rfl); (focus decide); (focus decide)) | ((with_reducible refine wp_rdI 1 ?_ ?_ ?_ ?_); (focus exact rfl); (focus decide); (focus decide)) | ((with_reducible refine wp_rdI 2 ?_ ?_ ?_ ?_); (focus exact rfl); (focus decide); (focus decide)) | ((with_reducible refine wp_rdI 3 ?_ ?_ ?_ ?_); (focus exact rfl); (focus decide); (focus decide)) | ((with_reducible refine wp_rdI h ?_ ?_ ?_ ?_); (focus ((try simp (disch := omega) only [up_eq, up_ne, w32i, mx32_m, mn32_m, ab32_m]) <;> omega)); (focus omega); (focus decide)) | ((with_reducible refine wp_ckI (39 + 2 * s) ?_ (isSw_s (by omega)) ?_); (focus ((try simp (disch := omega) only [up_eq, up_ne, w32i, mx32_m, mn32_m, ab32_m]) <;> omega))) | ((with_reducible refine wp_ckI (39 + 2 * k) ?_ (isSw_s (by omega)) ?_); (focus ((try simp (disch := omega) only [up_eq, up_ne, w32i, mx32_m, mn32_m, ab32_m]) <;> omega))) | ((with_reducible refine wp_ckI S ?_ (isSea_S hS) ?_); (focus ((try simp (disch := omega) only [up_eq, up_ne, w32i, mx32_m, mn32_m, ab32_m]) <;> omega))) | ((with_reducible refine wp_ckI J ?_ (isJudge_J hJ) ?_); (focus ((try simp (disch := omega) only [up_eq, up_ne, w32i, mx32_m, mn32_m, ab32_m]) <;> omega))) | fail )
    refine wp_rdI f q1 (by omega) (by decide) ?_
    repeat' (first | with_reducible refine wp_lt ?_ | with_reducible refine wp_bind ?_ | with_reducible refine wp_bnd2 ?_ | with_reducible refine wp_some ?_ | ((with_reducible refine wp_ifT ?_ ?_); (focus ((try simp (disch := omega) only [up_eq, up_ne, w32i, mx32_m, mn32_m, ab32_m]) <;> omega))) | ((with_reducible refine wp_ifF ?_ ?_); (focus ((try simp (disch := omega) only [up_eq, up_ne, w32i, mx32_m, mn32_m, ab32_m]) <;> omega))) | ((with_reducible refine wp_in1 ?_ ?_); (focus ((try simp (disch := omega) only [up_eq, up_ne, w32i, mx32_m, mn32_m, ab32_m]) <;> omega))) | ((with_reducible refine wp_in0 ?_ ?_); (focus ((try simp (disch := omega) only [up_eq, up_ne, w32i, mx32_m, mn32_m, ab32_m]) <;> omega))) | with_reducible refine wp_th0 ?_ | with_reducible refine wp_th1 ?_ | with_reducible refine wp_surfers ?_ | ((with_reducible refine wp_noS0 (m := m) ?_ n5 ?_ ?_ ?_); (focus ((try simp (disch := omega) only [up_eq, up_ne, w32i, mx32_m, mn32_m, ab32_m]) <;> omega)); (focus ((try simp (disch := omega) only [up_eq, up_ne, w32i, mx32_m, mn32_m, ab32_m]) <;> omega)); (focus ((try simp (disch := omega) only [up_eq, up_ne, w32i, mx32_m, mn32_m, ab32_m]) <;> omega))) | ((with_reducible refine wp_noS1 (m := m) ?_ n5 ?_ ?_ ?_); (focus ((try simp (disch := omega) only [up_eq, up_ne, w32i, mx32_m, mn32_m, ab32_m]) <;> omega)); (focus ((try simp (disch := omega) only [up_eq, up_ne, w32i, mx32_m, mn32_m, ab32_m]) <;> omega)); (focus ((try simp (disch := omega) only [up_eq, up_ne, w32i, mx32_m, mn32_m, ab32_m]) <;> omega))) | ((with_reducible refine wp_mS0 (m := m) hU hS n1 n5 ?_ ?_ ?_); (focus ((try simp (disch := omega) only [up_eq, up_ne, w32i, mx32_m, mn32_m, ab32_m]) <;> omega)); (focus ((try simp (disch := omega) only [up_eq, up_ne, w32i, mx32_m, mn32_m, ab32_m]) <;> omega))) | ((with_reducible refine wp_mS1 (m := m) hU hS n1 n5 ?_ ?_ ?_); (focus ((try simp (disch := omega) only [up_eq, up_ne, w32i, mx32_m, mn32_m, ab32_m]) <;> omega)); (focus ((try simp (disch := omega) only [up_eq, up_ne, w32i, mx32_m, mn32_m, ab32_m]) <;> omega))) | ((with_reducible refine wp_mW0 (m := q) hU hS n2 n6 ?_ ?_ ?_); (focus ((try simp (disch := omega) only [up_eq, up_ne, w32i, mx32_m, mn32_m, ab32_m]) <;> omega)); (focus ((try simp (disch := omega) only [up_eq, up_ne, w32i, mx32_m, mn32_m, ab32_m]) <;> omega))) | ((with_reducible refine wp_mW1 (m := q) hU hS n2 n6 ?_ ?_ ?_); (focus ((try simp (disch := omega) only [up_eq, up_ne, w32i, mx32_m, mn32_m, ab32_m]) <;> omega)); (focus ((try simp (disch := omega) only [up_eq, up_ne, w32i, mx32_m, mn32_m, ab32_m]) <;> omega))) | ((with_reducible refine wp_mO0 ?_ ?_); (focus ((try simp (disch := omega) only [up_eq, up_ne, w32i, mx32_m, mn32_m, ab32_m]) <;> omega))) | ((with_reducible refine wp_mO1 ?_ ?_); (focus ((try simp (disch := omega) only [up_eq, up_ne, w32i, mx32_m, mn32_m, ab32_m]) <;> omega))) | ((with_reducible refine wp_mP0 ?_ ?_); (focus ((try simp (disch := omega) only [up_eq, up_ne, w32i, mx32_m, mn32_m, ab32_m]) <;> omega))) | ((with_reducible refine wp_mP1 ?_ ?_); (focus ((try simp (disch := omega) only [up_eq, up_ne, w32i, mx32_m, mn32_m, ab32_m]) <;> omega))) | ((with_reducible refine wp_mR0 ?_ ?_); (focus ((try simp (disch := omega) only [up_eq, up_ne, w32i, mx32_m, mn32_m, ab32_m]) <;> omega))) | ((with_reducible refine wp_mR1 ?_ ?_); (focus ((try simp (disch := omega) only [up_eq, up_ne, w32i, mx32_m, mn32_m, ab32_m]) <;> omega))) | ((with_reducible refine wp_rdn ?_ ?_ ?_); (focus omega); (focus omega)) | ((with_reducible refine wp_rdI 0 ?_ ?_ ?_ ?_); (focus exact rfl); (focus decide); (focus decide)) | ((with_reducible refine wp_rdI 1 ?_ ?_ ?_ ?_); (focus exact rfl); (focus decide); (focus decide)) | ((with_reducible refine wp_rdI 2 ?_ ?_ ?_ ?_); (focus exact rfl); (focus decide); (focus decide)) | ((with_reducible refine wp_rdI 3 ?_ ?_ ?_ ?_); (focus exact rfl); (focus decide); (focus decide)) | ((with_reducible refine wp_rdI h ?_ ?_ ?_ ?_); (focus ((try simp (disch := omega) only [up_eq, up_ne, w32i, mx32_m, mn32_m, ab32_m]) <;> omega)); (focus omega); (focus decide)) | ((with_reducible refine wp_ckI (39 + 2 * s) ?_ (isSw_s (by omega)) ?_); (focus ((try simp (disch := omega) only [up_eq, up_ne, w32i, mx32_m, mn32_m, ab32_m]) <;> omega))) | ((with_reducible refine wp_ckI (39 + 2 * k) ?_ (isSw_s (by omega)) ?_); (focus ((try simp (disch := omega) only [up_eq, up_ne, w32i, mx32_m, mn32_m, ab32_m]) <;> omega))) | ((with_reducible refine wp_ckI S ?_ (isSea_S hS) ?_); (focus ((try simp (disch := omega) only [up_eq, up_ne, w32i, mx32_m, mn32_m, ab32_m]) <;> omega))) | ((with_reducible refine wp_ckI J ?_ (isJudge_J hJ) ?_); (focus ((try simp (disch := omega) only [up_eq, up_ne, w32i, mx32_m, mn32_m, ab32_m]) <;> omega))) | fail )
    refine ⟨_, rfl, by simp only []; omega, by simp only []; omega, ?_⟩
    dsimp only
    rw [q3, w32_r (hF f hf)]
    exact c.push)
  exact ⟨1, z1, z2, ρ', by omega, s1, Or.inl ⟨rfl, hF f hf, s2.1, s2.2.1, s2.2.2⟩⟩
theorem checked_ok {n : Nat} {e : Int} {ρ : SG} (h : ρ 57 23 = 0) (he : -9223372036854775808 ≤ e ∧ e < 9223372036854775808) : X12_checked n e ρ = some (if e < -2147483648 ∨ 2147483647 < e then (0, up ρ 57 23 1) else (e, ρ)) := by
  refine of_wp ?_
  have k := cmpL_m (x := e) (y := w32 e) (by have := w32_lo e; have := w32_hi e; omega)
  unfold X12_checked X12_checked_j20
  by_cases q : e < -2147483648 ∨ 2147483647 < e
  · rw [if_pos q]
    have k2 : ¬ w32 (cmpL e (w32 e)) = 0 := by
      rw [k]
      have h1 := w32_lo e
      have h2 := w32_hi e
      generalize w32 e = x at *
      split
      · decide
      · rw [if_neg (by omega)]; decide
    refine wp_bind (wp_ifT (by rw [h]; rfl) (wp_ifF k2 (wp_lt (wp_some ?_))))
    exact wp_ifF (by rw [up_eq rfl rfl]; decide) (wp_some rfl)
  · rw [if_neg q]
    have k2 : w32 (cmpL e (w32 e)) = 0 := by
      rw [k, w32i (by omega), if_neg (by omega), if_pos rfl]
    refine wp_bind (wp_ifT (by rw [h]; rfl) (wp_ifT k2 (wp_some ?_)))
    exact wp_ifT (by rw [h]; rfl) (wp_some rfl)
theorem joined_ok {n : Nat} {op x y : Int} {ρ : SG} (h : ρ 57 23 = 0) (ho : op = 2 ∨ op = 3 ∨ op = 4 ∨ op = 5) (hx : rng x) (hy : rng y) : X12_joined n (op + 18) x y ρ = some ((rk op x y).1, if (rk op x y).2 = 0 then ρ else up ρ 57 23 (rk op x y).2) := by
  refine of_wp ?_
  have eb := exq_b (op := op) hx hy
  have hck := fun e (he : -9223372036854775808 ≤ e ∧ e < 9223372036854775808) => checked_ok (n := n) (e := e) h he
  unfold X12_joined
  have fin : ¬ (op = 5 ∧ y = 0) → ∀ e, e = exq op x y → wp (X12_checked n e ρ) (fun r => r = ((rk op x y).1, if (rk op x y).2 = 0 then ρ else up ρ 57 23 (rk op x y).2)) := by
    rintro h5 e rfl
    refine wp_of (hck _ eb) ?_
    unfold rk
    rw [if_neg h5]
    by_cases q : exq op x y < -2147483648 ∨ 2147483647 < exq op x y
    · rw [if_pos q, if_pos q]
      rfl
    · rw [if_neg q, if_neg q]
      rfl
  rcases ho with rfl | rfl | rfl | rfl
  · exact wp_ifT (by decide) (wp_bnd2 (wp_mono (fin (fun h => absurd h.1 (by decide)) _ rfl) (fun r hr => wp_some hr)))
  · exact wp_ifF (by decide) (wp_ifT (by decide) (wp_bnd2 (wp_mono (fin (fun h => absurd h.1 (by decide)) _ rfl) (fun r hr => wp_some hr))))
  · exact wp_ifF (by decide) (wp_ifF (by decide) (wp_ifT (by decide) (wp_bnd2 (wp_mono (fin (fun h => absurd h.1 (by decide)) _ rfl) (fun r hr => wp_some hr)))))
  · refine wp_ifF (by decide) (wp_ifF (by decide) (wp_ifF (by decide) (wp_ifT (by decide) ?_)))
    have hxr := hx
    have hyr := hy
    obtain ⟨a1, a2⟩ := hxr
    obtain ⟨b1, b2⟩ := hyr
    have k := cmpL_m (x := y) (y := 0) (by omega)
    unfold X12_joined_j86
    by_cases q : y = 0
    · rw [if_neg (by omega), if_pos q] at k
      refine wp_bind (wp_ifT k (wp_ifT (by rw [h]; rfl) (wp_lt (wp_some ?_))))
      refine wp_ifF (by rw [up_eq rfl rfl]; decide) (wp_some ?_)
      unfold rk
      rw [if_pos ⟨rfl, q⟩]
      rfl
    · have k2 : ¬ w32 (cmpL y 0) = 0 := by
        rw [k]
        split
        · decide
        · first | decide | (rw [if_neg (by omega)]; decide)
      refine wp_bind (wp_ifF k2 (wp_some ?_))
      refine wp_ifT (by rw [h]; decide) (wp_ifF (by rw [w64i (by omega)]; exact q) ?_)
      refine wp_bnd2 (wp_mono (fin (fun h => q h.2) _ ?_) (fun r hr => wp_some hr))
      unfold dv64
      rw [w64i (by omega), w64i (by omega)]
      rfl
theorem joinedC_ok {n : Nat} {op x y : Int} {ρ : SG} (ho : op = 6 ∨ op = 7 ∨ op = 8) (hx : rng x) (hy : rng y) : X12_joined n (op + 18) x y ρ = some (cmq op x y, ρ) := by
  refine of_wp ?_
  obtain ⟨a1, a2⟩ := hx
  obtain ⟨b1, b2⟩ := hy
  have k := cmpL_m (x := x) (y := y) (by omega)
  unfold X12_joined cmq
  rcases ho with rfl | rfl | rfl
  · refine wp_ifF (by decide) (wp_ifF (by decide) (wp_ifF (by decide) (wp_ifF (by decide) (wp_ifT (by decide) ?_))))
    by_cases q : x < y
    · rw [if_neg (by omega), if_neg (by omega)] at k
      refine wp_ifF (by rw [k]; decide) (wp_some ?_)
      rw [if_pos rfl, if_pos q]
    · have k2 : 0 ≤ w32 (cmpL x y) := by
        rw [k]
        split
        · decide
        · rw [if_pos (by omega)]; decide
      refine wp_ifT k2 (wp_some ?_)
      rw [if_pos rfl, if_neg q]
  · refine wp_ifF (by decide) (wp_ifF (by decide) (wp_ifF (by decide) (wp_ifF (by decide) (wp_ifF (by decide) (wp_ifT (by decide) ?_)))))
    by_cases q : x = y
    · rw [if_neg (by omega), if_pos q] at k
      refine wp_ifT k (wp_some ?_)
      rw [if_neg (by decide), if_pos rfl, if_pos q]
    · have k2 : ¬ w32 (cmpL x y) = 0 := by
        rw [k]
        split
        · decide
        · first | decide | (rw [if_neg (by omega)]; decide)
      refine wp_ifF k2 (wp_some ?_)
      rw [if_neg (by decide), if_pos rfl, if_neg q]
  · refine wp_ifF (by decide) (wp_ifF (by decide) (wp_ifF (by decide) (wp_ifF (by decide) (wp_ifF (by decide) (wp_ifF (by decide) ?_)))))
    by_cases q : y < x
    · rw [if_pos q] at k
      refine wp_ifF (by rw [k]; decide) (wp_some ?_)
      rw [if_neg (by decide), if_neg (by decide), if_pos q]
    · have k2 : w32 (cmpL x y) ≤ 0 := by
        rw [k, if_neg q]
        split <;> decide
      refine wp_ifT k2 (wp_some ?_)
      rw [if_neg (by decide), if_neg (by decide), if_neg q]
/-- a step that takes two numbers -/
theorem RS_two {a b c u1 u2 : Nat} {K : Nat → Int} {op : Int} {d1 d2 d : Dn} (h1 : RS K a b u1 d1) (h2 : RS K b c u2 d2) (hk : K c = op + 18) (ho : 2 ≤ op ∧ op ≤ 8) (hu : u1 ≤ 1 + u2)
    (hj : ∀ n F ρ, (d1 F).2 = 0 → (d2 F).2 = 0 → rng (d1 F).1 → rng (d2 F).1 → ρ 57 23 = 0 → X12_joined n (op + 18) (d1 F).1 (d2 F).1 ρ = some ((d F).1, if (d F).2 = 0 then ρ else up ρ 57 23 (d F).2) ∧ ((d F).2 = 0 ∧ rng (d F).1 ∨ (d F).2 = 1 ∨ (d F).2 = 2))
    (hd1 : ∀ F, (d1 F).2 ≠ 0 → (d F).2 = (d1 F).2) (hd2 : ∀ F, (d1 F).2 = 0 → (d2 F).2 ≠ 0 → (d F).2 = (d2 F).2) : RS K a (c + 1) (1 + u2) d := by
  refine ⟨⟨by have := h1.1.1; have := h2.1.1; omega, by omega⟩, fun n to F ρ0 g hF ht ht4 h T ρ hu' cf => ?_⟩
  obtain ⟨l1, l1'⟩ := h1.1
  obtain ⟨l2, l2'⟩ := h2.1
  obtain ⟨c1, z1, y1, ρ1, e1, s1, r1⟩ := h1.2 n to F ρ0 (g.sub (Nat.le_refl _) (by omega)) hF (by omega) ht4 h T ρ (by omega) cf
  rcases r1 with ⟨t1, g1, rfl, rfl, cf1⟩ | ⟨t1, f1, f2⟩
  · obtain ⟨c2, z2, y2, ρ2, e2, s2, r2⟩ := h2.2 n to F ρ0 (g.sub (by omega) (by omega)) hF (by omega) ht4 (h + 1) _ ρ1 (by omega) cf1
    rcases r2 with ⟨t2, g2, rfl, rfl, cf2⟩ | ⟨t2, f1, f2⟩
    · obtain ⟨p2, p3⟩ := cf2.1.pr g
      have q1 := (p2 c (by omega) (by omega)).trans hk
      have c2' := cf2.2.1
      have v2 : ρ2 67 (h + 1) = (d2 F).1 := (cf2.2.2 (h + 1) (by omega)).trans setT_eq
      have v1 : ρ2 67 h = (d1 F).1 := (cf2.2.2 h (by omega)).trans ((setT_ne (by omega)).trans setT_eq)
      obtain ⟨j1, j2⟩ := hj n F ρ2 t1 t2 g1 g2 c2'
      obtain ⟨⟨z1, z2, ρ'⟩, s3, s4⟩ := wp_1 (f := fR n to) (x := (((h + 1 + 1 : Nat) : Int), (c : Int), ρ2)) (P := fun x => x.1 = ((h + 1 : Nat) : Int) ∧ x.2.1 = ((c + 1 : Nat) : Int) ∧ ((d F).2 = 0 → CR ρ0 (h + 1) (setT T h (d F).1) x.2.2) ∧ ((d F).2 ≠ 0 → FrP ρ0 x.2.2 ∧ x.2.2 57 23 = (d F).2)) (by
        show wp (X12_worked_l5 n (to : Int) ((h + 1 + 1 : Nat) : Int) (c : Int) ρ2) _
        unfold X12_worked_l5 X12_worked_j228
        refine wp_ifF (by (focus ((try simp (disch := omega) only [up_eq, up_ne, w32i, mx32_m, mn32_m, ab32_m]) <;> omega))) (wp_ifT (by (focus ((try simp (disch := omega) only [up_eq, up_ne, w32i, mx32_m, mn32_m, ab32_m]) <;> omega))) (wp_rdn (by omega) (by omega) (wp_lt (wp_lt (wp_bind ?_)))))
        rw [q1]
        refine wp_ifF (by (focus ((try simp (disch := omega) only [up_eq, up_ne, w32i, mx32_m, mn32_m, ab32_m]) <;> omega))) (wp_ifT (by (focus ((try simp (disch := omega) only [up_eq, up_ne, w32i, mx32_m, mn32_m, ab32_m]) <;> omega))) (wp_ifF (by (focus ((try simp (disch := omega) only [up_eq, up_ne, w32i, mx32_m, mn32_m, ab32_m]) <;> omega))) (wp_ifF (by (focus ((try simp (disch := omega) only [up_eq, up_ne, w32i, mx32_m, mn32_m, ab32_m]) <;> omega))) (wp_ifF (by (focus ((try simp (disch := omega) only [up_eq, up_ne, w32i, mx32_m, mn32_m, ab32_m]) <;> omega))) (wp_lt ?_)))))
        refine wp_rdI h (by omega) (by omega) (by decide) (wp_rdI (h + 1) (by omega) (by omega) (by decide) ?_)
        rw [v1, v2]
        refine wp_bnd2 (wp_of j1 (wp_rdI h (by omega) (by omega) (by decide) (wp_lt (wp_some (wp_some ⟨_, rfl, by simp only []; omega, by simp only []; omega, fun q => ?_, fun q => ?_⟩)))))
        · dsimp only
          rw [if_pos q]
          refine ⟨cf2.1.up (by omega), ?_, fun i hi => ?_⟩
          · (simp (disch := omega) only [up_eq, up_ne, w32i, mx32_m, mn32_m, ab32_m])
            exact c2'
          · by_cases q : i = h
            · subst q
              rw [up_eq rfl rfl, setT_eq]
            · rw [up_ne (by omega), setT_ne q, cf2.2.2 i (by omega), setT_ne (by omega), setT_ne (by omega)]
        · dsimp only
          rw [if_neg q]
          refine ⟨(cf2.1.up (by omega)).up (by omega), ?_⟩
          (simp (disch := omega) only [up_eq, up_ne, w32i, mx32_m, mn32_m, ab32_m]))
      refine ⟨_, z1, z2, ρ', by omega, stp_tr (stp_tr s1 s2) s3, ?_⟩
      rcases j2 with ⟨m1, m2⟩ | m
      · exact Or.inl ⟨m1, m2, s4.1, s4.2.1, s4.2.2.1 m1⟩
      · exact Or.inr ⟨m, s4.2.2.2 (by omega)⟩
    · refine ⟨_, z2, y2, ρ2, by omega, stp_tr s1 s2, ?_⟩
      rw [hd2 F t1 (by omega)]
      exact Or.inr ⟨t2, f1, f2⟩
  · refine ⟨_, z1, y1, ρ1, by omega, s1, ?_⟩
    rw [hd1 F (by omega)]
    exact Or.inr ⟨t1, f1, f2⟩
theorem RS_bin {a b c u1 u2 : Nat} {K : Nat → Int} {op : Int} {d1 d2 : Dn} (h1 : RS K a b u1 d1) (h2 : RS K b c u2 d2) (hk : K c = op + 18) (ho : op = 2 ∨ op = 3 ∨ op = 4 ∨ op = 5) (hu : u1 ≤ 1 + u2) : RS K a (c + 1) (1 + u2) (dbin op d1 d2) := by
  refine RS_two h1 h2 hk (by omega) hu (fun n F ρ t1 t2 g1 g2 h => ?_) (fun F t => ?_) (fun F t1 t2 => ?_)
  · have ed : dbin op d1 d2 F = rk op (d1 F).1 (d2 F).1 := by
      unfold dbin
      rw [if_neg (fun q => q t1), if_neg (fun q => q t2)]
    rw [ed]
    exact ⟨joined_ok h ho g1 g2, rk_b⟩
  · unfold dbin
    rw [if_pos t]
  · unfold dbin
    rw [if_neg (fun q => q t1), if_pos t2]
theorem RS_cmp {a b c u1 u2 : Nat} {K : Nat → Int} {op : Int} {d1 d2 : Dn} (h1 : RS K a b u1 d1) (h2 : RS K b c u2 d2) (hk : K c = op + 18) (ho : op = 6 ∨ op = 7 ∨ op = 8) (hu : u1 ≤ 1 + u2) : RS K a (c + 1) (1 + u2) (dcmp op d1 d2) := by
  refine RS_two h1 h2 hk (by omega) hu (fun n F ρ t1 t2 g1 g2 h => ?_) (fun F t => ?_) (fun F t1 t2 => ?_)
  · have ed : dcmp op d1 d2 F = (cmq op (d1 F).1 (d2 F).1, 0) := by
      unfold dcmp
      rw [if_neg (fun q => q t1), if_neg (fun q => q t2)]
    rw [ed]
    exact ⟨joinedC_ok ho g1 g2, Or.inl ⟨rfl, by have := cmq_b (op := op) (x := (d1 F).1) (y := (d2 F).1); unfold rng; simp only []; omega⟩⟩
  · unfold dcmp
    rw [if_pos t]
  · unfold dcmp
    rw [if_neg (fun q => q t1), if_pos t2]
/-- a condition's value is 0 or 1 -/
def Bl (d : Dn) : Prop := ∀ F, (d F).2 = 0 → (d F).1 = 0 ∨ (d F).1 = 1
theorem Bl_cmp {op : Int} {d1 d2 : Dn} : Bl (dcmp op d1 d2) := fun F h => by
  unfold dcmp at *
  split
  · exact Or.inl rfl
  · split
    · exact Or.inl rfl
    · exact cmq_b
theorem Bl_not {d : Dn} (h : Bl d) : Bl (dnot d) := fun F hh => by
  unfold dnot at *
  by_cases q : (d F).2 ≠ 0
  · rw [if_pos q]
    exact Or.inl rfl
  · rw [if_neg q]
    have := h F (by omega)
    simp only []
    omega
theorem Bl_jmp {w : Int} {d1 d2 : Dn} (hw : w = 0 ∨ w = 1) (h : Bl d2) : Bl (djmp w d1 d2) := fun F hh => by
  unfold djmp at *
  by_cases q : (d1 F).2 ≠ 0
  · rw [if_pos q]
    exact Or.inl rfl
  · rw [if_neg q] at *
    by_cases q2 : (d1 F).1 = w
    · rw [if_pos q2]
      exact hw
    · rw [if_neg q2] at *
      exact h F hh
theorem RS_not {a b u : Nat} {K : Nat → Int} {d : Dn} (h1 : RS K a b u d) (hB : Bl d) (hk : K b = 27) : RS K a (b + 1) u (dnot d) := by
  refine ⟨⟨by have := h1.1.1; omega, h1.1.2⟩, fun n to F ρ0 g hF ht ht4 h T ρ hu' cf => ?_⟩
  obtain ⟨l1, l1'⟩ := h1.1
  obtain ⟨c1, z1, y1, ρ1, e1, s1, r1⟩ := h1.2 n to F ρ0 (g.sub (Nat.le_refl _) (by omega)) hF (by omega) ht4 h T ρ (by omega) cf
  rcases r1 with ⟨t1, g1, rfl, rfl, cf1⟩ | ⟨t1, f1, f2⟩
  · have ed : dnot d F = (1 - (d F).1, 0) := by
      unfold dnot
      rw [if_neg (fun q => q t1)]
    obtain ⟨p2, p3⟩ := cf1.1.pr g
    have q1 := (p2 b (by omega) (by omega)).trans hk
    have c2' := cf1.2.1
    have v1 : ρ1 67 h = (d F).1 := (cf1.2.2 h (by omega)).trans setT_eq
    have hb := hB F t1
    obtain ⟨⟨z1, z2, ρ'⟩, s3, s4⟩ := wp_1 (f := fR n to) (x := (((h + 1 : Nat) : Int), (b : Int), ρ1)) (P := fun x => x.1 = ((h + 1 : Nat) : Int) ∧ x.2.1 = ((b + 1 : Nat) : Int) ∧ CR ρ0 (h + 1) (setT T h (1 - (d F).1)) x.2.2) (by
      show wp (X12_worked_l5 n (to : Int) ((h + 1 : Nat) : Int) (b : Int) ρ1) _
      unfold X12_worked_l5 X12_worked_j228
      refine wp_ifF (by (focus ((try simp (disch := omega) only [up_eq, up_ne, w32i, mx32_m, mn32_m, ab32_m]) <;> omega))) (wp_ifT (by (focus ((try simp (disch := omega) only [up_eq, up_ne, w32i, mx32_m, mn32_m, ab32_m]) <;> omega))) (wp_rdn (by omega) (by omega) (wp_lt (wp_lt (wp_bind ?_)))))
      rw [q1]
      refine wp_ifF (by (focus ((try simp (disch := omega) only [up_eq, up_ne, w32i, mx32_m, mn32_m, ab32_m]) <;> omega))) (wp_ifT (by (focus ((try simp (disch := omega) only [up_eq, up_ne, w32i, mx32_m, mn32_m, ab32_m]) <;> omega))) (wp_ifT (by (focus ((try simp (disch := omega) only [up_eq, up_ne, w32i, mx32_m, mn32_m, ab32_m]) <;> omega))) ?_))
      refine wp_rdI h (by omega) (by omega) (by decide) (wp_rdI h (by omega) (by omega) (by decide) (wp_lt (wp_some (wp_some ⟨_, rfl, rfl, by simp only []; omega, ?_⟩))))
      dsimp only
      rw [v1]
      refine ⟨cf1.1.up (by omega), ?_, fun i hi => ?_⟩
      · (simp (disch := omega) only [up_eq, up_ne, w32i, mx32_m, mn32_m, ab32_m])
        exact c2'
      · by_cases q : i = h
        · subst q
          rw [up_eq rfl rfl, setT_eq]
        · rw [up_ne (by omega), setT_ne q, cf1.2.2 i (by omega), setT_ne (by omega)])
    refine ⟨_, z1, z2, ρ', by omega, stp_tr s1 s3, ?_⟩
    rw [ed]
    exact Or.inl ⟨rfl, by unfold rng; simp only []; omega, s4.1, s4.2.1, s4.2.2⟩
  · have ed : dnot d F = (0, (d F).2) := by
      unfold dnot
      rw [if_pos (by omega)]
    refine ⟨_, z1, y1, ρ1, by omega, s1, ?_⟩
    rw [ed]
    exact Or.inr ⟨t1, f1, f2⟩
theorem RS_jmp {a b e u : Nat} {K : Nat → Int} {w : Int} {d1 d2 : Dn} (h1 : RS K a b u d1) (h2 : RS K (b + 2) e u d2) (hB : Bl d1) (hk : (w = 1 ∧ K b = 29) ∨ (w = 0 ∧ K b = 28)) (hv : K (b + 1) = (e : Int)) (he : e ≤ 900) : RS K a e u (djmp w d1 d2) := by
  refine ⟨⟨by have := h1.1.1; have := h2.1.1; omega, h1.1.2⟩, fun n to F ρ0 g hF ht ht4 h T ρ hu' cf => ?_⟩
  obtain ⟨l1, l1'⟩ := h1.1
  obtain ⟨l2, l2'⟩ := h2.1
  obtain ⟨c1, z1, y1, ρ1, e1, s1, r1⟩ := h1.2 n to F ρ0 (g.sub (Nat.le_refl _) (by omega)) hF (by omega) ht4 h T ρ (by omega) cf
  rcases r1 with ⟨t1, g1, rfl, rfl, cf1⟩ | ⟨t1, f1, f2⟩
  · obtain ⟨p2, p3⟩ := cf1.1.pr g
    have q2 := (p2 (b + 1) (by omega) (by omega)).trans hv
    have c2' := cf1.2.1
    have v1 : ρ1 67 h = (d1 F).1 := (cf1.2.2 h (by omega)).trans setT_eq
    have hb := hB F t1
    obtain ⟨⟨z1, z2, ρ'⟩, s3, s4, s5, s6⟩ := wp_1 (f := fR n to) (x := (((h + 1 : Nat) : Int), (b : Int), ρ1)) (P := fun x => x.2.2 = ρ1 ∧ x.1 = (if (d1 F).1 = w then ((h + 1 : Nat) : Int) else (h : Int)) ∧ x.2.1 = if (d1 F).1 = w then (e : Int) else ((b + 2 : Nat) : Int)) (by
      show wp (X12_worked_l5 n (to : Int) ((h + 1 : Nat) : Int) (b : Int) ρ1) _
      unfold X12_worked_l5 X12_worked_j228
      refine wp_ifF (by (focus ((try simp (disch := omega) only [up_eq, up_ne, w32i, mx32_m, mn32_m, ab32_m]) <;> omega))) (wp_ifT (by (focus ((try simp (disch := omega) only [up_eq, up_ne, w32i, mx32_m, mn32_m, ab32_m]) <;> omega))) (wp_rdn (by omega) (by omega) (wp_lt (wp_lt (wp_bind ?_)))))
      rcases hk with ⟨rfl, hk⟩ | ⟨rfl, hk⟩
      · have q1 := (p2 b (by omega) (by omega)).trans hk
        rw [q1]
        refine wp_ifF (by (focus ((try simp (disch := omega) only [up_eq, up_ne, w32i, mx32_m, mn32_m, ab32_m]) <;> omega))) (wp_ifT (by (focus ((try simp (disch := omega) only [up_eq, up_ne, w32i, mx32_m, mn32_m, ab32_m]) <;> omega))) (wp_ifF (by (focus ((try simp (disch := omega) only [up_eq, up_ne, w32i, mx32_m, mn32_m, ab32_m]) <;> omega))) (wp_ifF (by (focus ((try simp (disch := omega) only [up_eq, up_ne, w32i, mx32_m, mn32_m, ab32_m]) <;> omega))) (wp_ifT (by (focus ((try simp (disch := omega) only [up_eq, up_ne, w32i, mx32_m, mn32_m, ab32_m]) <;> omega))) (wp_rdI h (by omega) (by omega) (by decide) (wp_bind (wp_ifF (by (focus ((try simp (disch := omega) only [up_eq, up_ne, w32i, mx32_m, mn32_m, ab32_m]) <;> omega))) (wp_some ?_))))))))
        unfold X12_worked_j145x X12_worked_j154x X12_worked_j179x X12_worked_j192x
        have k := cmpL_m (x := ρ1 67 h) (y := 1) (by rw [v1]; omega)
        rw [v1] at k
        rcases hb with hb | hb
        · rw [if_neg (by omega), if_neg (by omega)] at k
          rw [v1]
          refine wp_bind (wp_ifF (by rw [k]; decide) (wp_some (wp_rdI (b + 1) (by omega) (by omega) (by decide) (wp_lt (wp_bind (wp_ifT rfl (wp_some (wp_bind (wp_ifT rfl (wp_some (wp_lt (wp_some (wp_some ⟨_, rfl, rfl, ?_, ?_⟩)))))))))))))
          · rw [if_neg (by omega)]; simp only []; omega
          · rw [if_neg (by omega)]; simp only []; omega
        · rw [if_neg (by omega), if_pos hb] at k
          rw [v1]
          refine wp_bind (wp_ifT k (wp_some (wp_rdI (b + 1) (by omega) (by omega) (by decide) (wp_lt (wp_bind (wp_ifF (by decide) (wp_some (wp_bind (wp_ifF (by decide) (wp_some (wp_lt (wp_some (wp_some ⟨_, rfl, rfl, ?_, ?_⟩)))))))))))))
          · rw [if_pos hb]; simp only []; omega
          · rw [if_pos hb]; simp only []; omega
      · have q1 := (p2 b (by omega) (by omega)).trans hk
        rw [q1]
        refine wp_ifF (by (focus ((try simp (disch := omega) only [up_eq, up_ne, w32i, mx32_m, mn32_m, ab32_m]) <;> omega))) (wp_ifT (by (focus ((try simp (disch := omega) only [up_eq, up_ne, w32i, mx32_m, mn32_m, ab32_m]) <;> omega))) (wp_ifF (by (focus ((try simp (disch := omega) only [up_eq, up_ne, w32i, mx32_m, mn32_m, ab32_m]) <;> omega))) (wp_ifT (by (focus ((try simp (disch := omega) only [up_eq, up_ne, w32i, mx32_m, mn32_m, ab32_m]) <;> omega))) (wp_rdI h (by omega) (by omega) (by decide) (wp_bind (wp_ifT (by (focus ((try simp (disch := omega) only [up_eq, up_ne, w32i, mx32_m, mn32_m, ab32_m]) <;> omega))) (wp_some ?_)))))))
        unfold X12_worked_j145 X12_worked_j154 X12_worked_j179 X12_worked_j192
        have k := cmpL_m (x := ρ1 67 h) (y := 0) (by rw [v1]; omega)
        rw [v1] at k
        rcases hb with hb | hb
        · rw [if_neg (by omega), if_pos hb] at k
          rw [v1]
          refine wp_bind (wp_ifT k (wp_some (wp_rdI (b + 1) (by omega) (by omega) (by decide) (wp_lt (wp_bind (wp_ifF (by decide) (wp_some (wp_bind (wp_ifF (by decide) (wp_some (wp_lt (wp_some (wp_some ⟨_, rfl, rfl, ?_, ?_⟩)))))))))))))
          · rw [if_pos hb]; simp only []; omega
          · rw [if_pos hb]; simp only []; omega
        · rw [if_pos (by omega)] at k
          rw [v1]
          refine wp_bind (wp_ifF (by rw [k]; decide) (wp_some (wp_rdI (b + 1) (by omega) (by omega) (by decide) (wp_lt (wp_bind (wp_ifT rfl (wp_some (wp_bind (wp_ifT rfl (wp_some (wp_lt (wp_some (wp_some ⟨_, rfl, rfl, ?_, ?_⟩)))))))))))))
          · rw [if_neg (by omega)]; simp only []; omega
          · rw [if_neg (by omega)]; simp only []; omega)
    have s4 : ρ' = ρ1 := s4
    subst s4
    have s5 : z1 = if (d1 F).1 = w then ((h + 1 : Nat) : Int) else (h : Int) := s5
    have s6 : z2 = if (d1 F).1 = w then (e : Int) else ((b + 2 : Nat) : Int) := s6
    by_cases q : (d1 F).1 = w
    · rw [if_pos q] at s5 s6
      have ed : djmp w d1 d2 F = (w, 0) := by
        unfold djmp
        rw [if_neg (fun q => q t1), if_pos q]
      refine ⟨_, z1, z2, ρ', by omega, stp_tr s1 s3, ?_⟩
      rw [ed]
      exact Or.inl ⟨rfl, by rw [← q]; exact g1, s5, s6, by rw [← q]; exact cf1⟩
    · rw [if_neg q] at s5 s6
      rw [s5, s6] at s3
      have ed : djmp w d1 d2 F = d2 F := by
        unfold djmp
        rw [if_neg (fun q => q t1), if_neg q]
      obtain ⟨c2, z2, y2, ρ2, e2, s2, r2⟩ := h2.2 n to F ρ0 (g.sub (by omega) (by omega)) hF (by omega) ht4 h T ρ' hu' ⟨cf1.1, cf1.2.1, fun i hi => (cf1.2.2 i (by omega)).trans (setT_ne (by omega))⟩
      refine ⟨_, z2, y2, ρ2, ?_, stp_tr (stp_tr s1 s3) s2, ?_⟩
      · omega
      · rw [ed]
        exact r2
  · have ed : djmp w d1 d2 F = (0, (d1 F).2) := by
      unfold djmp
      rw [if_pos (by omega)]
    refine ⟨_, z1, y1, ρ1, by omega, s1, ?_⟩
    rw [ed]
    exact Or.inr ⟨t1, f1, f2⟩
