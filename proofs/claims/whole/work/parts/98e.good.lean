/-! ===== every call keeps the relation ===== -/
theorem Tv_re {σ ρ : SG} (h : Tv σ σ) (b : AgR σ ρ) : Tv σ ρ := by
  obtain ⟨hT, S, J, m, q, R, I⟩ := h
  refine ⟨?_, S, J, m, q, R.cgs AgC.rf b, I.cgs R.use.2.1 AgC.rf b⟩
  unfold ITape at *
  rw [b 57 (by decide) (by decide), b 58 (by decide) (by decide)]
  exact hT
theorem Tv_ag {σ ρ σ' ρ' : SG} (h : Tv σ ρ) (a : Ag σ σ') (b : Ag ρ ρ') : Tv σ' ρ' := by
  obtain ⟨hT, S, J, m, q, R, I⟩ := h
  exact ⟨hT.ag a b, S, J, m, q, R.ag a b, I.ag R.use.2.1 a.J b.J⟩
theorem Tv_rl {σ ρ σ' ρ' : SG} {S J m q : Nat} (hT : ITape σ ρ) (I : IJud σ ρ J) (h : Rl σ' ρ' S J m q ∧ AgT σ σ' ∧ AgT ρ ρ') : Tv σ' ρ' := ⟨hT.agT h.2.1 h.2.2, S, J, m, q, h.1, I.ag h.1.use.2.1 h.2.1.J h.2.2.J⟩
theorem Tv_tp {σ ρ σ' ρ' : SG} {S J m q : Nat} (R : Rl σ ρ S J m q) (I : IJud σ ρ J) (h : ITape σ' ρ' ∧ AgH σ σ' ∧ AgH ρ ρ' ∧ AgJ σ σ' ∧ AgJ ρ ρ') : Tv σ' ρ' := ⟨h.1, S, J, m, q, R.agH h.2.1 h.2.2.1, I.ag R.use.2.1 h.2.2.2.1 h.2.2.2.2⟩
theorem PA.mono {σ ρ : SG} {T T' : SG → SG → Prop} {r q : Int × SG} (h : PA σ ρ T r q) (hT : T r.2 q.2 → T' r.2 q.2) : PA σ ρ T' r q := ⟨h.1, h.2.1, hT h.2.2.1, h.2.2.2⟩
theorem PB.mono {σ ρ : SG} {T T' : SG → SG → Prop} {r : Int} {q : Int × SG} (h : PB σ ρ T r q) (hT : T σ q.2 → T' σ q.2) : PB σ ρ T' r q := ⟨h.1, hT h.2.1, h.2.2⟩
theorem S_0 {σ : SG} (h : Tv σ σ) {a1 a2 a3 a4 a5 : Int} (h1 : rng a1) (h2 : rng a2) (h3 : rng a3) (h4 : rng a4) (h5 : rng a5) : ∃ τ, Tv τ τ ∧ ST_0 a1 a2 a3 a4 a5 σ τ := fin_0 Tv_TJ a1 a2 a3 a4 a5 (by
  obtain ⟨hT, S, J, m, q, R, I⟩ := h
  exact wp_mono (G_0 hT h1 h2 h3 h4 h5) (fun r hr => wp_mono hr (fun y hy => hy.mono (fun p => Tv_tp R I p))))
theorem S_1 {σ : SG} (h : Tv σ σ) {a1 a2 a3 a4 a5 : Int} (h1 : rng a1) (h2 : rng a2) (h3 : rng a3) (h4 : rng a4) (h5 : rng a5) : ∃ τ, Tv τ τ ∧ ST_1 a1 a2 a3 a4 a5 σ τ := fin_1 Tv_TJ a1 a2 a3 a4 a5 (by
  obtain ⟨hT, S, J, m, q, R, I⟩ := h
  exact wp_mono (G_1 hT h1) (fun r hr => wp_mono hr (fun y hy => hy.mono (fun p => Tv_tp R I p))))
theorem S_2 {σ : SG} (h : Tv σ σ) {a1 a2 a3 a4 a5 : Int} (h1 : rng a1) (h2 : rng a2) (h3 : rng a3) (h4 : rng a4) (h5 : rng a5) : ∃ τ, Tv τ τ ∧ ST_2 a1 a2 a3 a4 a5 σ τ := fin_2 Tv_TJ a1 a2 a3 a4 a5 (fun ρ hρ => by
  obtain ⟨hT, S, J, m, q, R, I⟩ := Tv_re h hρ
  exact G_2 hT R I)
theorem S_3 {σ : SG} (h : Tv σ σ) {a1 a2 a3 a4 a5 : Int} (h1 : rng a1) (h2 : rng a2) (h3 : rng a3) (h4 : rng a4) (h5 : rng a5) : ∃ τ, Tv τ τ ∧ ST_3 a1 a2 a3 a4 a5 σ τ := fin_3 Tv_TJ a1 a2 a3 a4 a5 (fun ρ hρ => by
  obtain ⟨hT, S, J, m, q, R, I⟩ := Tv_re h hρ
  exact G_3 hT R I)
theorem S_4 {σ : SG} (h : Tv σ σ) {a1 a2 a3 a4 a5 : Int} (h1 : rng a1) (h2 : rng a2) (h3 : rng a3) (h4 : rng a4) (h5 : rng a5) : ∃ τ, Tv τ τ ∧ ST_4 a1 a2 a3 a4 a5 σ τ := fin_4 Tv_TJ a1 a2 a3 a4 a5 (by
  obtain ⟨hT, S, J, m, q, R, I⟩ := id h
  exact wp_mono (G_4 hT) (fun r hr => wp_mono hr (fun y hy => hy.mono (fun p => Tv_ag h p.1 p.2))))
theorem S_5 {σ : SG} (h : Tv σ σ) {a1 a2 a3 a4 a5 : Int} (h1 : rng a1) (h2 : rng a2) (h3 : rng a3) (h4 : rng a4) (h5 : rng a5) : ∃ τ, Tv τ τ ∧ ST_5 a1 a2 a3 a4 a5 σ τ := fin_5 Tv_TJ a1 a2 a3 a4 a5 (fun ρ hρ => by
  obtain ⟨hT, S, J, m, q, R, I⟩ := Tv_re h hρ
  exact wp_mono (G_5 R ) (fun r hr => wp_mono hr (fun y hy => hy.mono (fun p => Tv_rl hT I p))))
theorem S_6 {σ : SG} (h : Tv σ σ) {a1 a2 a3 a4 a5 : Int} (h1 : rng a1) (h2 : rng a2) (h3 : rng a3) (h4 : rng a4) (h5 : rng a5) : ∃ τ, Tv τ τ ∧ ST_6 a1 a2 a3 a4 a5 σ τ := fin_6 Tv_TJ a1 a2 a3 a4 a5 (by
  obtain ⟨hT, S, J, m, q, R, I⟩ := h
  exact wp_mono (G_6 R I) (fun r hr => wp_mono hr (fun y hy => hy.mono (fun p => Tv_rl hT I p))))
theorem S_7 {σ : SG} (h : Tv σ σ) {a1 a2 a3 a4 a5 : Int} (h1 : rng a1) (h2 : rng a2) (h3 : rng a3) (h4 : rng a4) (h5 : rng a5) : ∃ τ, Tv τ τ ∧ ST_7 a1 a2 a3 a4 a5 σ τ := fin_7 Tv_TJ a1 a2 a3 a4 a5 (fun ρ hρ => by
  have hv := Tv_re h hρ
  obtain ⟨hT, S, J, m, q, R, I⟩ := id hv
  exact wp_mono (G_7 R h1 h2) (fun r hr => wp_mono hr (fun y hy => hy.mono (fun p => Tv_ag hv p.1 p.2))))
theorem S_8 {σ : SG} (h : Tv σ σ) {a1 a2 a3 a4 a5 : Int} (h1 : rng a1) (h2 : rng a2) (h3 : rng a3) (h4 : rng a4) (h5 : rng a5) : ∃ τ, Tv τ τ ∧ ST_8 a1 a2 a3 a4 a5 σ τ := fin_8 Tv_TJ a1 a2 a3 a4 a5 (fun ρ hρ => by
  have hv := Tv_re h hρ
  obtain ⟨hT, S, J, m, q, R, I⟩ := id hv
  exact wp_mono (G_8 R h1 h2) (fun r hr => wp_mono hr (fun y hy => hy.mono (fun p => Tv_ag hv p.1 p.2))))
theorem S_9 {σ : SG} (h : Tv σ σ) {a1 a2 a3 a4 a5 : Int} (h1 : rng a1) (h2 : rng a2) (h3 : rng a3) (h4 : rng a4) (h5 : rng a5) : ∃ τ, Tv τ τ ∧ ST_9 a1 a2 a3 a4 a5 σ τ := fin_9 Tv_TJ a1 a2 a3 a4 a5 (fun ρ hρ => by
  have hv := Tv_re h hρ
  obtain ⟨hT, S, J, m, q, R, I⟩ := id hv
  exact wp_mono (G_9 R h1 h2) (fun r hr => wp_mono hr (fun y hy => hy.mono (fun p => Tv_ag hv p.1 p.2))))
theorem S_10 {σ : SG} (h : Tv σ σ) {a1 a2 a3 a4 a5 : Int} (h1 : rng a1) (h2 : rng a2) (h3 : rng a3) (h4 : rng a4) (h5 : rng a5) : ∃ τ, Tv τ τ ∧ ST_10 a1 a2 a3 a4 a5 σ τ := fin_10 Tv_TJ a1 a2 a3 a4 a5 (fun ρ hρ => by
  have hv := Tv_re h hρ
  obtain ⟨hT, S, J, m, q, R, I⟩ := id hv
  refine wp_mono (G_10 R h1 h2) (fun r hr => wp_mono hr (fun y hy => hy.mono (fun p => ?_)))
  rcases p with p | ⟨s, hs, q1, q2, e, b⟩
  · exact Tv_ag hv p.1 p.2
  · have hS := R.use.1
    have hJ := R.use.2.1
    have hm := R.num.2.1
    have R' : Rl (up σ (39 + 2 * s) 4 a2) (up ρ 69 s a2) S J m q := R.goal hs ⟨q1, q2⟩
    have I' : IJud (up σ (39 + 2 * s) 4 a2) (up ρ 69 s a2) J := I.fr (fun c j hc => up_ne (by omega)) (fun c j hc => up_ne (by omega))
    have T' : ITape (up σ (39 + 2 * s) 4 a2) (up ρ 69 s a2) := by
      unfold ITape at *
      rw [show up σ (39 + 2 * s) 4 a2 15 1 = σ 15 1 from up_ne (by omega), show up ρ 69 s a2 57 2 = ρ 57 2 from up_ne (by omega), show up ρ 69 s a2 57 8 = ρ 57 8 from up_ne (by omega), show up σ (39 + 2 * s) 4 a2 0 5 = σ 0 5 from up_ne (by omega), show up σ (39 + 2 * s) 4 a2 16 = σ 16 from funext fun j => up_ne (by omega), show up ρ 69 s a2 58 = ρ 58 from funext fun j => up_ne (by omega)]
      exact hT
    rw [e]
    exact Tv_ag (ρ := up ρ 69 s a2) ⟨T', S, J, m, q, R', I'⟩ Ag.rf b)
theorem S_11 {σ : SG} (h : Tv σ σ) {a1 a2 a3 a4 a5 : Int} (h1 : rng a1) (h2 : rng a2) (h3 : rng a3) (h4 : rng a4) (h5 : rng a5) : ∃ τ, Tv τ τ ∧ ST_11 a1 a2 a3 a4 a5 σ τ := fin_11 Tv_TJ a1 a2 a3 a4 a5 (by
  obtain ⟨hT, S, J, m, q, R, I⟩ := id h
  exact wp_mono (G_11 R h1) (fun r hr => wp_mono hr (fun y hy => hy.mono (fun p => Tv_ag h p.1 p.2))))
theorem S_12 {σ : SG} (h : Tv σ σ) {a1 a2 a3 a4 a5 : Int} (h1 : rng a1) (h2 : rng a2) (h3 : rng a3) (h4 : rng a4) (h5 : rng a5) : ∃ τ, Tv τ τ ∧ ST_12 a1 a2 a3 a4 a5 σ τ := fin_12 Tv_TJ a1 a2 a3 a4 a5 (fun ρ hρ => by
  obtain ⟨hT, S, J, m, q, R, I⟩ := Tv_re h hρ
  exact wp_mono (G_12 R h1 h2 h3 h4) (fun r hr => wp_mono hr (fun y hy => hy.mono (fun p => Tv_rl hT I p))))
theorem S_13 {σ : SG} (h : Tv σ σ) {a1 a2 a3 a4 a5 : Int} (h1 : rng a1) (h2 : rng a2) (h3 : rng a3) (h4 : rng a4) (h5 : rng a5) : ∃ τ, Tv τ τ ∧ ST_13 a1 a2 a3 a4 a5 σ τ := fin_13 Tv_TJ a1 a2 a3 a4 a5 (fun ρ hρ => by
  have hv := Tv_re h hρ
  obtain ⟨hT, S, J, m, q, R, I⟩ := id hv
  exact wp_mono (G_13 R h1 h2) (fun r hr => wp_mono hr (fun y hy => hy.mono (fun p => Tv_ag hv p.1 p.2))))
theorem S_14 {σ : SG} (h : Tv σ σ) {a1 a2 a3 a4 a5 : Int} (h1 : rng a1) (h2 : rng a2) (h3 : rng a3) (h4 : rng a4) (h5 : rng a5) : ∃ τ, Tv τ τ ∧ ST_14 a1 a2 a3 a4 a5 σ τ := fin_14 Tv_TJ a1 a2 a3 a4 a5 (fun ρ hρ => by
  have hv := Tv_re h hρ
  obtain ⟨hT, S, J, m, q, R, I⟩ := id hv
  exact wp_mono (G_14 R h1) (fun r hr => wp_mono hr (fun y hy => hy.mono (fun p => Tv_ag hv p.1 p.2))))
theorem S_15 {σ : SG} (h : Tv σ σ) {a1 a2 a3 a4 a5 : Int} (h1 : rng a1) (h2 : rng a2) (h3 : rng a3) (h4 : rng a4) (h5 : rng a5) : ∃ τ, Tv τ τ ∧ ST_15 a1 a2 a3 a4 a5 σ τ := fin_15 Tv_TJ a1 a2 a3 a4 a5 (fun ρ hρ => by
  have hv := Tv_re h hρ
  obtain ⟨hT, S, J, m, q, R, I⟩ := id hv
  exact wp_mono (G_15 R h1 h2 h3) (fun r hr => wp_mono hr (fun y hy => hy.mono (fun p => Tv_ag hv p.1 p.2))))
theorem S_16 {σ : SG} (h : Tv σ σ) {a1 a2 a3 a4 a5 : Int} (h1 : rng a1) (h2 : rng a2) (h3 : rng a3) (h4 : rng a4) (h5 : rng a5) : ∃ τ, Tv τ τ ∧ ST_16 a1 a2 a3 a4 a5 σ τ := fin_16 Tv_TJ a1 a2 a3 a4 a5 (fun ρ hρ => by
  have hv := Tv_re h hρ
  obtain ⟨hT, S, J, m, q, R, I⟩ := id hv
  exact wp_mono (G_16 R I h1 h2 h3 h4 h5) (fun r hr => wp_mono hr (fun y hy => hy.mono (fun p => Tv_ag hv p.1 p.2))))
theorem S_17 {σ : SG} (h : Tv σ σ) {a1 a2 a3 a4 a5 : Int} (h1 : rng a1) (h2 : rng a2) (h3 : rng a3) (h4 : rng a4) (h5 : rng a5) : ∃ τ, Tv τ τ ∧ ST_17 a1 a2 a3 a4 a5 σ τ := fin_17 Tv_TJ a1 a2 a3 a4 a5 (fun ρ hρ => by
  have hv := Tv_re h hρ
  obtain ⟨hT, S, J, m, q, R, I⟩ := id hv
  exact wp_mono (G_17 R h1) (fun r hr => wp_mono hr (fun y hy => hy.mono (fun p => Tv_ag hv p.1 p.2))))
theorem S_18 {σ : SG} (h : Tv σ σ) {a1 a2 a3 a4 a5 : Int} (h1 : rng a1) (h2 : rng a2) (h3 : rng a3) (h4 : rng a4) (h5 : rng a5) : ∃ τ, Tv τ τ ∧ ST_18 a1 a2 a3 a4 a5 σ τ := fin_18 Tv_TJ a1 a2 a3 a4 a5 (fun ρ hρ => by
  have hv := Tv_re h hρ
  obtain ⟨hT, S, J, m, q, R, I⟩ := id hv
  exact wp_mono (G_18 R h1) (fun r hr => wp_mono hr (fun y hy => hy.mono (fun p => Tv_ag hv p.1 p.2))))
theorem S_19 {σ : SG} (h : Tv σ σ) {a1 a2 a3 a4 a5 : Int} (h1 : rng a1) (h2 : rng a2) (h3 : rng a3) (h4 : rng a4) (h5 : rng a5) : ∃ τ, Tv τ τ ∧ ST_19 a1 a2 a3 a4 a5 σ τ := fin_19 Tv_TJ a1 a2 a3 a4 a5 (fun ρ hρ => by
  have hv := Tv_re h hρ
  obtain ⟨hT, S, J, m, q, R, I⟩ := id hv
  exact wp_mono (G_19 R I h1 h2) (fun r hr => wp_mono hr (fun y hy => hy.mono (fun p => Tv_ag hv p.1 p.2))))
theorem S_20 {σ : SG} (h : Tv σ σ) {a1 a2 a3 a4 a5 : Int} (h1 : rng a1) (h2 : rng a2) (h3 : rng a3) (h4 : rng a4) (h5 : rng a5) : ∃ τ, Tv τ τ ∧ ST_20 a1 a2 a3 a4 a5 σ τ := fin_20 Tv_TJ a1 a2 a3 a4 a5 (fun ρ hρ => by
  have hv := Tv_re h hρ
  obtain ⟨hT, S, J, m, q, R, I⟩ := id hv
  exact wp_mono (G_20 R I h1 h2) (fun r hr => wp_mono hr (fun y hy => hy.mono (fun p => Tv_ag hv p.1 p.2))))
theorem S_21 {σ : SG} (h : Tv σ σ) {a1 a2 a3 a4 a5 : Int} (h1 : rng a1) (h2 : rng a2) (h3 : rng a3) (h4 : rng a4) (h5 : rng a5) : ∃ τ, Tv τ τ ∧ ST_21 a1 a2 a3 a4 a5 σ τ := fin_21 Tv_TJ a1 a2 a3 a4 a5 (by
  obtain ⟨hT, S, J, m, q, R, I⟩ := id h
  exact wp_mono (G_21 R h1) (fun r hr => wp_mono hr (fun y hy => hy.mono (fun p => Tv_ag h p.1 p.2))))
theorem S_22 {σ : SG} (h : Tv σ σ) {a1 a2 a3 a4 a5 : Int} (h1 : rng a1) (h2 : rng a2) (h3 : rng a3) (h4 : rng a4) (h5 : rng a5) : ∃ τ, Tv τ τ ∧ ST_22 a1 a2 a3 a4 a5 σ τ := fin_22 Tv_TJ a1 a2 a3 a4 a5 (fun ρ hρ => by
  have hv := Tv_re h hρ
  obtain ⟨hT, S, J, m, q, R, I⟩ := id hv
  exact wp_mono (G_22 R h1 h2 h3) (fun r hr => wp_mono hr (fun y hy => hy.mono (fun p => Tv_ag hv p.1 p.2))))
theorem S_23 {σ : SG} (h : Tv σ σ) {a1 a2 a3 a4 a5 : Int} (h1 : rng a1) (h2 : rng a2) (h3 : rng a3) (h4 : rng a4) (h5 : rng a5) : ∃ τ, Tv τ τ ∧ ST_23 a1 a2 a3 a4 a5 σ τ := fin_23 Tv_TJ a1 a2 a3 a4 a5 (fun ρ hρ => by
  have hv := Tv_re h hρ
  obtain ⟨hT, S, J, m, q, R, I⟩ := id hv
  exact wp_mono (G_23 R h1 h2 h3) (fun r hr => wp_mono hr (fun y hy => hy.mono (fun p => Tv_ag hv p.1 p.2))))
theorem S_24 {σ : SG} (h : Tv σ σ) {a1 a2 a3 a4 a5 : Int} (h1 : rng a1) (h2 : rng a2) (h3 : rng a3) (h4 : rng a4) (h5 : rng a5) : ∃ τ, Tv τ τ ∧ ST_24 a1 a2 a3 a4 a5 σ τ := fin_24 Tv_TJ a1 a2 a3 a4 a5 (fun ρ hρ => by
  have hv := Tv_re h hρ
  obtain ⟨hT, S, J, m, q, R, I⟩ := id hv
  exact wp_mono (G_24 R h1 h2) (fun r hr => wp_mono hr (fun y hy => hy.mono (fun p => Tv_ag hv p.1 p.2))))
theorem S_25 {σ : SG} (h : Tv σ σ) {a1 a2 a3 a4 a5 : Int} (h1 : rng a1) (h2 : rng a2) (h3 : rng a3) (h4 : rng a4) (h5 : rng a5) : ∃ τ, Tv τ τ ∧ ST_25 a1 a2 a3 a4 a5 σ τ := fin_25 Tv_TJ a1 a2 a3 a4 a5 (fun ρ hρ => by
  have hv := Tv_re h hρ
  obtain ⟨hT, S, J, m, q, R, I⟩ := id hv
  exact wp_mono (G_25 R h1 h2) (fun r hr => wp_mono hr (fun y hy => hy.mono (fun p => Tv_ag hv p.1 p.2))))
theorem S_26 {σ : SG} (h : Tv σ σ) {a1 a2 a3 a4 a5 : Int} (h1 : rng a1) (h2 : rng a2) (h3 : rng a3) (h4 : rng a4) (h5 : rng a5) : ∃ τ, Tv τ τ ∧ ST_26 a1 a2 a3 a4 a5 σ τ := fin_26 Tv_TJ a1 a2 a3 a4 a5 (fun ρ hρ => by
  have hv := Tv_re h hρ
  obtain ⟨hT, S, J, m, q, R, I⟩ := id hv
  exact wp_mono (G_26 R h1 h2 h3) (fun r hr => wp_mono hr (fun y hy => hy.mono (fun p => Tv_ag hv p.1 p.2))))
theorem IJud.ln {σ ρ : SG} {J : Nat} (I : IJud σ ρ J) : ρ 57 18 = (if σ J 6 = 0 then -1 else σ J 6) ∧ 0 ≤ σ J 6 ∧ σ J 6 ≤ 10 := by
  obtain ⟨N, st, i1, i2, i3, -⟩ := I
  rw [i2, i3]
  refine ⟨?_, by omega, by omega⟩
  by_cases c : N = 0
  · rw [if_pos c, if_pos (by omega)]
  · rw [if_neg c, if_neg (by omega)]
theorem S_27 {σ : SG} (h : Tv σ σ) {a1 a2 a3 a4 a5 : Int} (h1 : rng a1) (h2 : rng a2) (h3 : rng a3) (h4 : rng a4) (h5 : rng a5) : ∃ τ, Tv τ τ ∧ ST_27 a1 a2 a3 a4 a5 σ τ := fin_27 Tv_TJ a1 a2 a3 a4 a5 (by
  obtain ⟨hT, S, J, m, q, R, I⟩ := id h
  exact wp_mono (G_27 R I.ln h1) (fun r hr => wp_mono hr (fun y hy => hy.mono (fun p => Tv_ag h p.1 p.2))))
/-! the first state -/
theorem Tv_0 : Tv sg0 sg0 := by
  refine ⟨⟨by decide +kernel, by decide +kernel, by decide +kernel, by decide +kernel, fun j hj => ?_⟩, 20, 26, 0, 0, ⟨⟨by decide, by decide, by decide +kernel, by decide +kernel, by decide +kernel, by decide +kernel, fun s hs => ?_⟩, ⟨⟨by decide +kernel, by decide +kernel, by decide +kernel, by decide +kernel, by decide +kernel, by decide +kernel, by decide +kernel, by decide +kernel, by decide +kernel⟩, by decide, by decide, Or.inr ⟨by decide +kernel, rfl, rfl, by decide +kernel⟩⟩, fun s hs => absurd hs (by omega), fun s hs => absurd hs (by omega), ⟨by decide +kernel, by decide +kernel, by decide +kernel, by decide +kernel, by decide +kernel, by decide +kernel, fun w hw => absurd hw (by omega)⟩,
    ⟨by decide +kernel, by decide +kernel, by decide +kernel, [], by decide +kernel, fun k hk => absurd hk (Nat.not_lt_zero k), fun k hk => absurd hk (Nat.not_lt_zero k), fun x hx => absurd hx List.not_mem_nil, fun _ => ⟨rfl, fun s hs => absurd hs (by omega)⟩, fun _ => ⟨fun s hs => absurd hs (by omega), by decide⟩⟩, ⟨by decide +kernel, by decide +kernel, by decide +kernel, fun k hk => ?_⟩, fun s hs => absurd hs (by omega), fun s hs => absurd hs (by omega), by decide +kernel, fun w hw => ?_⟩, ⟨0, 0, by decide, by decide +kernel, by decide +kernel, by decide, by decide +kernel, fun l hl => absurd hl (by omega)⟩⟩
  · have e : sg0 15 1 = 0 := by decide +kernel
    rw [e] at hj
    omega
  · have : s = 0 ∨ s = 1 ∨ s = 2 ∨ s = 3 ∨ s = 4 := by omega
    rcases this with rfl | rfl | rfl | rfl | rfl <;> decide +kernel
  · have e : sg0 19 6 = 0 := by decide +kernel
    rw [e] at hk
    omega
  · have e : sg0 19 12 = 0 := by decide +kernel
    rw [e] at hw
    omega
theorem pure_good : Good (fun σ => Tv σ σ) := by
  refine ⟨Tv_0, fun σ h c hc a1 a2 a3 a4 a5 h1 h2 h3 h4 h5 => ?_⟩
  have : c = 0 ∨ c = 1 ∨ c = 2 ∨ c = 3 ∨ c = 4 ∨ c = 5 ∨ c = 6 ∨ c = 7 ∨ c = 8 ∨ c = 9 ∨ c = 10 ∨ c = 11 ∨ c = 12 ∨ c = 13 ∨ c = 14 ∨ c = 15 ∨ c = 16 ∨ c = 17 ∨ c = 18 ∨ c = 19 ∨ c = 20 ∨ c = 21 ∨ c = 22 ∨ c = 23 ∨ c = 24 ∨ c = 25 ∨ c = 26 ∨ c = 27 := by omega
  rcases this with rfl | rfl | rfl | rfl | rfl | rfl | rfl | rfl | rfl | rfl | rfl | rfl | rfl | rfl | rfl | rfl | rfl | rfl | rfl | rfl | rfl | rfl | rfl | rfl | rfl | rfl | rfl | rfl
  · exact S_0 h h1 h2 h3 h4 h5
  · exact S_1 h h1 h2 h3 h4 h5
  · exact S_2 h h1 h2 h3 h4 h5
  · exact S_3 h h1 h2 h3 h4 h5
  · exact S_4 h h1 h2 h3 h4 h5
  · exact S_5 h h1 h2 h3 h4 h5
  · exact S_6 h h1 h2 h3 h4 h5
  · exact S_7 h h1 h2 h3 h4 h5
  · exact S_8 h h1 h2 h3 h4 h5
  · exact S_9 h h1 h2 h3 h4 h5
  · exact S_10 h h1 h2 h3 h4 h5
  · exact S_11 h h1 h2 h3 h4 h5
  · exact S_12 h h1 h2 h3 h4 h5
  · exact S_13 h h1 h2 h3 h4 h5
  · exact S_14 h h1 h2 h3 h4 h5
  · exact S_15 h h1 h2 h3 h4 h5
  · exact S_16 h h1 h2 h3 h4 h5
  · exact S_17 h h1 h2 h3 h4 h5
  · exact S_18 h h1 h2 h3 h4 h5
  · exact S_19 h h1 h2 h3 h4 h5
  · exact S_20 h h1 h2 h3 h4 h5
  · exact S_21 h h1 h2 h3 h4 h5
  · exact S_22 h h1 h2 h3 h4 h5
  · exact S_23 h h1 h2 h3 h4 h5
  · exact S_24 h h1 h2 h3 h4 h5
  · exact S_25 h h1 h2 h3 h4 h5
  · exact S_26 h h1 h2 h3 h4 h5
  · exact S_27 h h1 h2 h3 h4 h5
