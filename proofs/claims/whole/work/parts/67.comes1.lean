/-! ===== a wave comes: small changes of the relation ===== -/
theorem Rl.upd {σ ρ σ' ρ' : SG} {S J m q : Nat} (R : Rl σ ρ S J m q) (hσ : ∀ c j, ¬ (c = 19 ∧ 6 ≤ j) → ¬ (35 ≤ c ∧ c ≤ 38) → ¬ (39 ≤ c ∧ c ≤ 48 ∧ ¬ (c % 2 = 1 ∧ j = 0)) → c < 57 → ¬ ((c = J ∧ 9 ≤ j) ∨ c = J + 6 ∨ c = J + 7) → σ' c j = σ c j) (hρ : ∀ c j, (c = 57 ∧ j = 11) ∨ c = 60 → ρ' c j = ρ c j)
    (h1 : IHeat σ' ρ' S q) (h2 : IRow σ' ρ' m) (h3 : ISeen σ' ρ') (h4 : ∀ s : Nat, s < m → ISw σ' ρ' S s) (h5 : ∀ s : Nat, s < m → IRid σ' ρ' s) (h6 : ρ' 57 30 = msk (fun s => σ' (39 + 2 * s) 7) m) (h7 : IGone σ' m) : Rl σ' ρ' S J m q := by
  obtain ⟨hS, hJ, -⟩ := R.use
  have cS : ∀ i, i < 6 → σ' (S + i) = σ (S + i) := fun i hi => funext fun j => hσ _ j (by omega) (by omega) (by omega) (by omega) (by omega)
  have c60 : ρ' 60 = ρ 60 := funext fun j => hρ 60 j (Or.inr rfl)
  exact ⟨R.use.cg (hσ 0 0 (by omega) (by omega) (by omega) (by omega) (by omega)) (hσ 0 1 (by omega) (by omega) (by omega) (by omega) (by omega)) (hσ 19 0 (by omega) (by omega) (by omega) (by omega) (by omega)) (hσ 19 1 (by omega) (by omega) (by omega) (by omega) (by omega)) (funext fun j => hσ 34 j (by omega) (by omega) (by omega) (by omega) (by omega)) (fun s hs => hσ _ 0 (by omega) (by omega) (by omega) (by omega) (by omega)),
    R.num.cg (cS 0 (by decide)) c60 (hρ 57 11 (Or.inl ⟨rfl, rfl⟩)), fun s hs => (R.seaS hs).cg (fun i _ hi => cS i hi) c60, fun w hw => (R.seaW hw).cg (fun i _ hi => cS i hi) c60, h1, h2, h3, h4, h5, h6, h7⟩
/-- START is AGAIN more -/
theorem Rl.start {σ ρ : SG} {S J m q : Nat} {x : Int} (R : Rl σ ρ S J m q) (hx : 0 ≤ x ∧ x ≤ 99) : Rl (up (up σ 19 11 (σ 19 11 + 1)) 19 10 x) (up (up ρ 57 26 x) 57 29 (ρ 57 29 + 1)) S J m q := by
  have n5 := R.num.2.1
  refine R.upd (fun c j h1 h2 h3 h4 h5 => by simp (disch := omega) only [up_ne]) (fun c j h => by simp (disch := omega) only [up_ne]) ?_ (R.row.cg (by simp (disch := omega) only [up_rw]) (by simp (disch := omega) only [up_rw]) (by simp (disch := omega) only [up_rw]) (by (simp (disch := omega) only [up_eq, up_ne, w32i, mx32_m, mn32_m, ab32_m])) (by (simp (disch := omega) only [up_eq, up_ne, w32i, mx32_m, mn32_m, ab32_m])) (fun t ht => ?_)) (R.seen.cg (by (simp (disch := omega) only [up_eq, up_ne, w32i, mx32_m, mn32_m, ab32_m])) (by simp (disch := omega) only [up_rw]) (by (simp (disch := omega) only [up_eq, up_ne, w32i, mx32_m, mn32_m, ab32_m])) (by simp (disch := omega) only [up_rw]))
    (fun t ht => (R.sw ht).cg (by simp (disch := omega) only [up_rw]) (by (simp (disch := omega) only [up_eq, up_ne, w32i, mx32_m, mn32_m, ab32_m])) (by (simp (disch := omega) only [up_eq, up_ne, w32i, mx32_m, mn32_m, ab32_m])) (by have := R.use.1; simp (disch := omega) only [up_rw]) (fun k h1 h2 h3 h4 => by (simp (disch := omega) only [up_eq, up_ne, w32i, mx32_m, mn32_m, ab32_m]))) (fun t ht => (R.rid ht).cg (by (simp (disch := omega) only [up_eq, up_ne, w32i, mx32_m, mn32_m, ab32_m])) (by (simp (disch := omega) only [up_eq, up_ne, w32i, mx32_m, mn32_m, ab32_m])) (by (simp (disch := omega) only [up_eq, up_ne, w32i, mx32_m, mn32_m, ab32_m])) (by simp (disch := omega) only [up_rw]) (by (simp (disch := omega) only [up_eq, up_ne, w32i, mx32_m, mn32_m, ab32_m])) (by (simp (disch := omega) only [up_eq, up_ne, w32i, mx32_m, mn32_m, ab32_m])) (by simp (disch := omega) only [up_rw])) ?_ (R.gone.cg (by (simp (disch := omega) only [up_eq, up_ne, w32i, mx32_m, mn32_m, ab32_m])) (by (simp (disch := omega) only [up_eq, up_ne, w32i, mx32_m, mn32_m, ab32_m])) (by simp (disch := omega) only [up_rw]) (fun t ht => ⟨by simp (disch := omega) only [up_rw], by (simp (disch := omega) only [up_eq, up_ne, w32i, mx32_m, mn32_m, ab32_m])⟩))
  · have h := R.heat
    have hS := R.use.1
    unfold IHeat at *
    simp (disch := omega) only [up_eq, up_ne]
    exact ⟨h.1, ⟨trivial, hx.1, hx.2⟩, h.2.2.1, ⟨by rw [h.2.2.2.1.1], h.2.2.2.1.2⟩, h.2.2.2.2.1, h.2.2.2.2.2.1, h.2.2.2.2.2.2⟩
  · unfold awy
    simp (disch := omega) only [up_ne]
    exact ⟨trivial, trivial⟩
  · simp (disch := omega) only [up_ne]
    rw [R.bits]
/-- one who is out has swum -/
theorem Rl.place {σ ρ : SG} {S J m q s : Nat} {p : Int} (R : Rl σ ρ S J m q) (hs : s < m) (hp : 0 ≤ p ∧ p ≤ 40) : Rl (up σ (39 + 2 * s) 3 p) (up ρ 68 s p) S J m q := by
  have n5 := R.num.2.1
  refine R.upd (fun c j h1 h2 h3 h4 h5 => by simp (disch := omega) only [up_ne]) (fun c j h => by simp (disch := omega) only [up_ne]) ?_ (R.row.cg (by simp (disch := omega) only [up_rw]) (by simp (disch := omega) only [up_rw]) (by simp (disch := omega) only [up_rw]) (by (simp (disch := omega) only [up_eq, up_ne, w32i, mx32_m, mn32_m, ab32_m])) (by (simp (disch := omega) only [up_eq, up_ne, w32i, mx32_m, mn32_m, ab32_m])) (fun t ht => ?_)) (R.seen.cg (by (simp (disch := omega) only [up_eq, up_ne, w32i, mx32_m, mn32_m, ab32_m])) (by simp (disch := omega) only [up_rw]) (by (simp (disch := omega) only [up_eq, up_ne, w32i, mx32_m, mn32_m, ab32_m])) (by simp (disch := omega) only [up_rw]))
    (fun t ht => ?_) (fun t ht => (R.rid ht).cg (by (simp (disch := omega) only [up_eq, up_ne, w32i, mx32_m, mn32_m, ab32_m])) (by (simp (disch := omega) only [up_eq, up_ne, w32i, mx32_m, mn32_m, ab32_m])) (by (simp (disch := omega) only [up_eq, up_ne, w32i, mx32_m, mn32_m, ab32_m])) (by simp (disch := omega) only [up_rw]) (by (simp (disch := omega) only [up_eq, up_ne, w32i, mx32_m, mn32_m, ab32_m])) (by (simp (disch := omega) only [up_eq, up_ne, w32i, mx32_m, mn32_m, ab32_m])) (by simp (disch := omega) only [up_rw])) ?_ (R.gone.cg (by (simp (disch := omega) only [up_eq, up_ne, w32i, mx32_m, mn32_m, ab32_m])) (by (simp (disch := omega) only [up_eq, up_ne, w32i, mx32_m, mn32_m, ab32_m])) (by simp (disch := omega) only [up_rw]) (fun t ht => ⟨by simp (disch := omega) only [up_rw], by (simp (disch := omega) only [up_eq, up_ne, w32i, mx32_m, mn32_m, ab32_m])⟩))
  · have h := R.heat
    have hS := R.use.1
    unfold IHeat at *
    simp (disch := omega) only [up_ne]
    exact h
  · unfold awy
    simp (disch := omega) only [up_ne]
    exact ⟨trivial, trivial⟩
  · have hS := R.use.1
    by_cases q0 : t = s
    · subst q0
      have h := R.sw hs
      unfold ISw at *
      simp (disch := omega) only [up_eq, up_ne]
      exact ⟨⟨trivial, hp.1, hp.2⟩, h.2⟩
    · exact (R.sw ht).cg (by simp (disch := omega) only [up_rw]) (by (simp (disch := omega) only [up_eq, up_ne, w32i, mx32_m, mn32_m, ab32_m])) (by (simp (disch := omega) only [up_eq, up_ne, w32i, mx32_m, mn32_m, ab32_m])) (by simp (disch := omega) only [up_rw]) (fun k h1 h2 h3 h4 => by (simp (disch := omega) only [up_eq, up_ne, w32i, mx32_m, mn32_m, ab32_m]))
  · simp (disch := omega) only [up_ne]
    rw [R.bits]
/-- goal -/
theorem Rl.goal {σ ρ : SG} {S J m q s : Nat} {p : Int} (R : Rl σ ρ S J m q) (hs : s < m) (hp : 0 ≤ p ∧ p ≤ 40) : Rl (up σ (39 + 2 * s) 4 p) (up ρ 69 s p) S J m q := by
  have n5 := R.num.2.1
  refine R.upd (fun c j h1 h2 h3 h4 h5 => by simp (disch := omega) only [up_ne]) (fun c j h => by simp (disch := omega) only [up_ne]) ?_ (R.row.cg (by simp (disch := omega) only [up_rw]) (by simp (disch := omega) only [up_rw]) (by simp (disch := omega) only [up_rw]) (by (simp (disch := omega) only [up_eq, up_ne, w32i, mx32_m, mn32_m, ab32_m])) (by (simp (disch := omega) only [up_eq, up_ne, w32i, mx32_m, mn32_m, ab32_m])) (fun t ht => ?_)) (R.seen.cg (by (simp (disch := omega) only [up_eq, up_ne, w32i, mx32_m, mn32_m, ab32_m])) (by simp (disch := omega) only [up_rw]) (by (simp (disch := omega) only [up_eq, up_ne, w32i, mx32_m, mn32_m, ab32_m])) (by simp (disch := omega) only [up_rw]))
    (fun t ht => ?_) (fun t ht => (R.rid ht).cg (by (simp (disch := omega) only [up_eq, up_ne, w32i, mx32_m, mn32_m, ab32_m])) (by (simp (disch := omega) only [up_eq, up_ne, w32i, mx32_m, mn32_m, ab32_m])) (by (simp (disch := omega) only [up_eq, up_ne, w32i, mx32_m, mn32_m, ab32_m])) (by simp (disch := omega) only [up_rw]) (by (simp (disch := omega) only [up_eq, up_ne, w32i, mx32_m, mn32_m, ab32_m])) (by (simp (disch := omega) only [up_eq, up_ne, w32i, mx32_m, mn32_m, ab32_m])) (by simp (disch := omega) only [up_rw])) ?_ (R.gone.cg (by (simp (disch := omega) only [up_eq, up_ne, w32i, mx32_m, mn32_m, ab32_m])) (by (simp (disch := omega) only [up_eq, up_ne, w32i, mx32_m, mn32_m, ab32_m])) (by simp (disch := omega) only [up_rw]) (fun t ht => ⟨by simp (disch := omega) only [up_rw], by (simp (disch := omega) only [up_eq, up_ne, w32i, mx32_m, mn32_m, ab32_m])⟩))
  · have h := R.heat
    have hS := R.use.1
    unfold IHeat at *
    simp (disch := omega) only [up_ne]
    exact h
  · unfold awy
    simp (disch := omega) only [up_ne]
    exact ⟨trivial, trivial⟩
  · have hS := R.use.1
    by_cases q0 : t = s
    · subst q0
      have h := R.sw hs
      unfold ISw at *
      simp (disch := omega) only [up_eq, up_ne]
      exact ⟨h.1, ⟨trivial, hp.1, hp.2⟩, h.2.2⟩
    · exact (R.sw ht).cg (by simp (disch := omega) only [up_rw]) (by (simp (disch := omega) only [up_eq, up_ne, w32i, mx32_m, mn32_m, ab32_m])) (by (simp (disch := omega) only [up_eq, up_ne, w32i, mx32_m, mn32_m, ab32_m])) (by simp (disch := omega) only [up_rw]) (fun k h1 h2 h3 h4 => by (simp (disch := omega) only [up_eq, up_ne, w32i, mx32_m, mn32_m, ab32_m]))
  · simp (disch := omega) only [up_ne]
    rw [R.bits]
/-- the minute of the next wave -/
theorem Rl.minute {σ ρ : SG} {S J m q nx : Nat} (R : Rl σ ρ S J m q) (hx : σ 19 12 = (nx : Int)) (hq : nx < q) : Rl (up σ 19 9 (σ (S + 5) (5 * nx))) (up ρ 57 25 (σ (S + 5) (5 * nx))) S J m q := by
  have n5 := R.num.2.1
  obtain ⟨-, v1, v2, -⟩ := R.seaW hq
  refine R.upd (fun c j h1 h2 h3 h4 h5 => by simp (disch := omega) only [up_ne]) (fun c j h => by simp (disch := omega) only [up_ne]) ?_ (R.row.cg (by simp (disch := omega) only [up_rw]) (by simp (disch := omega) only [up_rw]) (by simp (disch := omega) only [up_rw]) (by (simp (disch := omega) only [up_eq, up_ne, w32i, mx32_m, mn32_m, ab32_m])) (by (simp (disch := omega) only [up_eq, up_ne, w32i, mx32_m, mn32_m, ab32_m])) (fun t ht => ?_)) (R.seen.cg (by (simp (disch := omega) only [up_eq, up_ne, w32i, mx32_m, mn32_m, ab32_m])) (by simp (disch := omega) only [up_rw]) (by (simp (disch := omega) only [up_eq, up_ne, w32i, mx32_m, mn32_m, ab32_m])) (by simp (disch := omega) only [up_rw]))
    (fun t ht => (R.sw ht).cg (by simp (disch := omega) only [up_rw]) (by (simp (disch := omega) only [up_eq, up_ne, w32i, mx32_m, mn32_m, ab32_m])) (by (simp (disch := omega) only [up_eq, up_ne, w32i, mx32_m, mn32_m, ab32_m])) (by have := R.use.1; simp (disch := omega) only [up_rw]) (fun k h1 h2 h3 h4 => by (simp (disch := omega) only [up_eq, up_ne, w32i, mx32_m, mn32_m, ab32_m]))) (fun t ht => (R.rid ht).cg (by (simp (disch := omega) only [up_eq, up_ne, w32i, mx32_m, mn32_m, ab32_m])) (by (simp (disch := omega) only [up_eq, up_ne, w32i, mx32_m, mn32_m, ab32_m])) (by (simp (disch := omega) only [up_eq, up_ne, w32i, mx32_m, mn32_m, ab32_m])) (by simp (disch := omega) only [up_rw]) (by (simp (disch := omega) only [up_eq, up_ne, w32i, mx32_m, mn32_m, ab32_m])) (by (simp (disch := omega) only [up_eq, up_ne, w32i, mx32_m, mn32_m, ab32_m])) (by simp (disch := omega) only [up_rw])) ?_ (R.gone.cg (by (simp (disch := omega) only [up_eq, up_ne, w32i, mx32_m, mn32_m, ab32_m])) (by (simp (disch := omega) only [up_eq, up_ne, w32i, mx32_m, mn32_m, ab32_m])) (by simp (disch := omega) only [up_rw]) (fun t ht => ⟨by simp (disch := omega) only [up_rw], by (simp (disch := omega) only [up_eq, up_ne, w32i, mx32_m, mn32_m, ab32_m])⟩))
  · have h := R.heat
    have hS := R.use.1
    unfold IHeat at *
    simp (disch := omega) only [up_eq, up_ne]
    refine ⟨⟨trivial, by omega, v2⟩, h.2.1, h.2.2.1, h.2.2.2.1, h.2.2.2.2.1, h.2.2.2.2.2.1, fun w hw hw2 => ?_⟩
    by_cases c : w = nx
    · rw [c]; exact Int.le_refl _
    · exact (R.seaW hw).2.2.2.2.2.2.2.2.2.2.2 nx (by omega)
  · unfold awy
    simp (disch := omega) only [up_ne]
    exact ⟨trivial, trivial⟩
  · simp (disch := omega) only [up_ne]
    rw [R.bits]
/-- the heat is over -/
theorem Rl.over {σ ρ : SG} {S J m q : Nat} (R : Rl σ ρ S J m q) (ht : σ 19 13 = -1) : Rl (up σ 19 14 1) (up ρ 57 35 1) S J m q := by
  have n5 := R.num.2.1
  refine R.upd (fun c j h1 h2 h3 h4 h5 => by simp (disch := omega) only [up_ne]) (fun c j h => by simp (disch := omega) only [up_ne]) ?_ (R.row.cg (by simp (disch := omega) only [up_rw]) (by simp (disch := omega) only [up_rw]) (by simp (disch := omega) only [up_rw]) (by (simp (disch := omega) only [up_eq, up_ne, w32i, mx32_m, mn32_m, ab32_m])) (by (simp (disch := omega) only [up_eq, up_ne, w32i, mx32_m, mn32_m, ab32_m])) (fun t ht => ?_)) (R.seen.cg (by (simp (disch := omega) only [up_eq, up_ne, w32i, mx32_m, mn32_m, ab32_m])) (by simp (disch := omega) only [up_rw]) (by (simp (disch := omega) only [up_eq, up_ne, w32i, mx32_m, mn32_m, ab32_m])) (by simp (disch := omega) only [up_rw]))
    (fun t ht => (R.sw ht).cg (by simp (disch := omega) only [up_rw]) (by (simp (disch := omega) only [up_eq, up_ne, w32i, mx32_m, mn32_m, ab32_m])) (by (simp (disch := omega) only [up_eq, up_ne, w32i, mx32_m, mn32_m, ab32_m])) (by have := R.use.1; simp (disch := omega) only [up_rw]) (fun k h1 h2 h3 h4 => by (simp (disch := omega) only [up_eq, up_ne, w32i, mx32_m, mn32_m, ab32_m]))) (fun t ht => (R.rid ht).cg (by (simp (disch := omega) only [up_eq, up_ne, w32i, mx32_m, mn32_m, ab32_m])) (by (simp (disch := omega) only [up_eq, up_ne, w32i, mx32_m, mn32_m, ab32_m])) (by (simp (disch := omega) only [up_eq, up_ne, w32i, mx32_m, mn32_m, ab32_m])) (by simp (disch := omega) only [up_rw]) (by (simp (disch := omega) only [up_eq, up_ne, w32i, mx32_m, mn32_m, ab32_m])) (by (simp (disch := omega) only [up_eq, up_ne, w32i, mx32_m, mn32_m, ab32_m])) (by simp (disch := omega) only [up_rw])) ?_ (R.gone.cg (by (simp (disch := omega) only [up_eq, up_ne, w32i, mx32_m, mn32_m, ab32_m])) (by (simp (disch := omega) only [up_eq, up_ne, w32i, mx32_m, mn32_m, ab32_m])) (by simp (disch := omega) only [up_rw]) (fun t ht => ⟨by simp (disch := omega) only [up_rw], by (simp (disch := omega) only [up_eq, up_ne, w32i, mx32_m, mn32_m, ab32_m])⟩))
  · have h := R.heat
    have hS := R.use.1
    unfold IHeat at *
    simp (disch := omega) only [up_eq, up_ne]
    exact ⟨h.1, h.2.1, h.2.2.1, h.2.2.2.1, ⟨trivial, Or.inr ⟨trivial, ht⟩⟩, h.2.2.2.2.2⟩
  · unfold awy
    simp (disch := omega) only [up_ne]
    exact ⟨trivial, trivial⟩
  · simp (disch := omega) only [up_ne]
    rw [R.bits]
/-- the next wave is there -/
theorem Rl.there {σ ρ : SG} {S J m q nx : Nat} (R : Rl σ ρ S J m q) (hx : σ 19 12 = (nx : Int)) (hq : nx < q) (ht : σ 19 13 = -1) (ho : σ 19 14 = 0) : Rl (up (up σ 19 13 nx) 19 12 ((nx : Int) + 1)) (up (up ρ 57 27 nx) 57 28 ((nx : Int) + 1)) S J m q := by
  have n5 := R.num.2.1
  have hS := R.use.1
  refine R.upd (fun c j h1 h2 h3 h4 h5 => by simp (disch := omega) only [up_ne]) (fun c j h => by simp (disch := omega) only [up_ne]) ?_ (R.row.cg (by simp (disch := omega) only [up_rw]) (by simp (disch := omega) only [up_rw]) (by simp (disch := omega) only [up_rw]) (by (simp (disch := omega) only [up_eq, up_ne, w32i, mx32_m, mn32_m, ab32_m])) (by (simp (disch := omega) only [up_eq, up_ne, w32i, mx32_m, mn32_m, ab32_m])) (fun t ht => ?_)) (R.seen.cg (by (simp (disch := omega) only [up_eq, up_ne, w32i, mx32_m, mn32_m, ab32_m])) (by simp (disch := omega) only [up_rw]) (by (simp (disch := omega) only [up_eq, up_ne, w32i, mx32_m, mn32_m, ab32_m])) (by simp (disch := omega) only [up_rw]))
    (fun t ht' => ?_) (fun t ht' => ?_) ?_ ?_
  · have h := R.heat
    unfold IHeat at *
    simp (disch := omega) only [up_eq, up_ne]
    refine ⟨h.1, h.2.1, ⟨trivial, trivial, by omega, by omega, Or.inr ⟨by omega, by omega⟩⟩, h.2.2.2.1, ⟨h.2.2.2.2.1.1, Or.inl ho⟩, h.2.2.2.2.2.1, fun w hw hw2 => h.2.2.2.2.2.2 w hw (by omega)⟩
  · unfold awy
    simp (disch := omega) only [up_ne]
    exact ⟨trivial, trivial⟩
  · have h := R.sw ht'
    unfold ISw at *
    simp (disch := omega) only [up_eq, up_ne]
    obtain ⟨h1, h2, h3, h4, h5, h6, h7, h8⟩ := h
    exact ⟨h1, h2, h3, h4, ⟨h5.1, h5.2.1, by omega, fun _ => by omega⟩, h6, fun q0 => absurd ht (h7 q0).2.2.1, h8⟩
  · have h := R.rid ht'
    unfold IRid at *
    simp (disch := omega) only [up_eq, up_ne, up_rw]
    refine ⟨fun i hi => ?_, h.2⟩
    obtain ⟨a1, a2, a3, a4, a5, a6, a7⟩ := h.1 i hi
    exact ⟨a1, a2, a3, a4, by omega, by omega, a7⟩
  · simp (disch := omega) only [up_ne]
    rw [R.bits]
  · have h := R.gone
    unfold IGone at *
    simp (disch := omega) only [up_eq, up_ne]
    intro w h1 h2
    rw [h w (by omega) (by omega)]
    exact tkA_cg (fun s hs => ⟨by simp (disch := omega) only [up_rw], by simp (disch := omega) only [up_ne]⟩)
