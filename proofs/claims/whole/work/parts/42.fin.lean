/-! ===== what a call owes, as two runs (printed by wip/whole/pure/genfin.py) ===== -/
/-- the same in the reference's cells; in the class's cells -/
def AgR (σ τ : SG) : Prop := ∀ k, 57 ≤ k → k ≠ 84 → τ k = σ k
def AgC (σ τ : SG) : Prop := ∀ k, k < 57 → τ k = σ k
theorem AgR.rf {σ : SG} : AgR σ σ := fun _ _ _ => rfl
theorem AgC.rf {σ : SG} : AgC σ σ := fun _ _ => rfl
theorem AgR.tr {σ τ υ : SG} (h : AgR σ τ) (h' : AgR τ υ) : AgR σ υ := fun k a b => (h' k a b).trans (h k a b)
theorem AgC.tr {σ τ υ : SG} (h : AgC σ τ) (h' : AgC τ υ) : AgC σ υ := fun k a => (h' k a).trans (h k a)
theorem AgR.up {σ τ : SG} {k j : Nat} {v : Int} (h : AgR σ τ) (hk : k < 57 ∨ k = 84) : AgR σ (up τ k j v) := fun a h1 h2 => by
  rw [up_row _ _ (by omega)]
  exact h a h1 h2
theorem AgC.up {σ τ : SG} {k j : Nat} {v : Int} (h : AgC σ τ) (hk : 57 ≤ k) : AgC σ (up τ k j v) := fun a h1 => by
  rw [up_row _ _ (by omega)]
  exact h a h1
/-- the reference's runs leave the class's cells and what the law holds -/
def AgCL (σ τ : SG) : Prop := AgC σ τ ∧ τ 84 = σ 84
theorem AgCL.rf {σ : SG} : AgCL σ σ := ⟨AgC.rf, rfl⟩
theorem AgCL.tr {σ τ υ : SG} (h : AgCL σ τ) (h' : AgCL τ υ) : AgCL σ υ := ⟨h.1.tr h'.1, h'.2.trans h.2⟩
theorem AgCL.up {σ τ : SG} {k j : Nat} {v : Int} (h : AgCL σ τ) (hk : 57 ≤ k ∧ k ≠ 84) : AgCL σ (up τ k j v) := ⟨h.1.up hk.1, by rw [up_row _ _ (by omega)]; exact h.2⟩
/-- two states into one -/
def TJ (T : SG → SG → Prop) : Prop := ∀ σ ρ τ, T σ ρ → AgC σ τ → AgR ρ τ → T τ τ
def PC (L : List Nat) (σ ρ : SG) (T : SG → SG → Prop) (r : (Nat × Int) × SG) (q : Int × SG) : Prop := (r.1.1 = 0 ∨ r.1.1 ∈ L) ∧ AgR σ r.2 ∧ AgCL ρ q.2 ∧ T r.2 q.2 ∧ q.2 57 0 = cdL L r.1.1 ∧ (r.1.1 = 0 → q.1 = r.1.2)
def PA (σ ρ : SG) (T : SG → SG → Prop) (r q : Int × SG) : Prop := AgR σ r.2 ∧ AgCL ρ q.2 ∧ T r.2 q.2 ∧ q.1 = r.1
def PB (σ ρ : SG) (T : SG → SG → Prop) (r : Int) (q : Int × SG) : Prop := AgCL ρ q.2 ∧ T σ q.2 ∧ q.1 = r
theorem PC.ok {L : List Nat} {σ ρ σ1 τ : SG} {T : SG → SG → Prop} {v v' : Int} (h1 : AgR σ σ1) (h2 : AgCL ρ τ) (h3 : T σ1 τ) (h4 : τ 57 0 = 0) (h5 : v' = v) : PC L σ ρ T ((0, v), σ1) (v', τ) := ⟨Or.inl rfl, h1, h2, h3, h4, fun _ => h5⟩
theorem PC.ex {L : List Nat} {σ ρ σ1 τ : SG} {T : SG → SG → Prop} {v v' : Int} {t : Nat} (h0 : t ∈ L) (h : 0 < t) (h1 : AgR σ σ1) (h2 : AgCL ρ τ) (h3 : T σ1 τ) (h4 : τ 57 0 = cdL L t) : PC L σ ρ T ((t, v), σ1) (v', τ) := ⟨Or.inr h0, h1, h2, h3, h4, fun q => absurd (show t = 0 from q) (by omega)⟩
theorem PC.mono {L : List Nat} {σ ρ : SG} {T T' : SG → SG → Prop} {r : (Nat × Int) × SG} {q : Int × SG} (h : PC L σ ρ T r q) (hT : T r.2 q.2 → T' r.2 q.2) : PC L σ ρ T' r q := ⟨h.1, h.2.1, h.2.2.1, hT h.2.2.2.1, h.2.2.2.2⟩
theorem lxI_C (o : Nat × Int) (σ : SG) : AgC σ (lxI o σ) := by
  unfold lxI
  split
  · exact AgC.rf.up (by decide)
  · exact AgC.rf
theorem lxL_C (o : Nat × Int) (σ : SG) : AgC σ (lxL o σ) := by
  unfold lxL
  split
  · exact AgC.rf.up (by decide)
  · exact AgC.rf
theorem lxI_R (o : Nat × Int) (σ : SG) : AgR σ (lxI o σ) := by
  unfold lxI
  split
  · exact AgR.rf.up (by decide)
  · exact AgR.rf
theorem lxL_R (o : Nat × Int) (σ : SG) : AgR σ (lxL o σ) := by
  unfold lxL
  split
  · exact AgR.rf.up (by decide)
  · exact AgR.rf
theorem lxI_84 {o : Nat × Int} {σ : SG} (h : o.1 = 0) : lxI o σ 84 0 = w32 o.2 := by
  unfold lxI
  rw [if_pos h]
  exact up_same _ _ _ _
theorem lxL_84 {o : Nat × Int} {σ : SG} (h : o.1 = 0) : lxL o σ 84 0 = o.2 := by
  unfold lxL
  rw [if_pos h]
  exact up_same _ _ _ _
theorem cmp_eq {x r : Int} (h : x = r) : w32 (cmpL x r) = 0 := by
  unfold cmpL
  rw [h, if_neg (by omega), if_pos rfl]
  exact w32_0
theorem fin_0 {σ : SG} {T : SG → SG → Prop} (hT : TJ T) (a1 a2 a3 a4 a5 : Int) (h : wp (X11_feed 1000 a1 a2 a3 a4 a5 σ) (fun r => wp (X12_feed 1000 a1 a2 a3 a4 a5 r.2) (PA σ r.2 T r))) : ∃ τ, T τ τ ∧ ST_0 a1 a2 a3 a4 a5 σ τ := by
  obtain ⟨⟨o, σ1⟩, g1, ⟨r, τ⟩, g4, -, g5, g6, g7⟩ := h
  exact ⟨τ, hT σ1 τ τ g6 g5.1 AgR.rf, 1000, 1000, o, r, σ1, g1, g4, by rw [show r = o from g7]⟩
theorem fin_1 {σ : SG} {T : SG → SG → Prop} (hT : TJ T) (a1 a2 a3 a4 a5 : Int) (h : wp (X11_end 1000 a1 σ) (fun r => wp (X12_end 1000 a1 r.2) (PA σ r.2 T r))) : ∃ τ, T τ τ ∧ ST_1 a1 a2 a3 a4 a5 σ τ := by
  obtain ⟨⟨o, σ1⟩, g1, ⟨r, τ⟩, g4, -, g5, g6, g7⟩ := h
  exact ⟨τ, hT σ1 τ τ g6 g5.1 AgR.rf, 1000, 1000, o, r, σ1, g1, g4, by rw [show r = o from g7]⟩
theorem fin_2 {σ : SG} {T : SG → SG → Prop} (hT : TJ T) (a1 a2 a3 a4 a5 : Int) (h : ∀ ρ, AgR σ ρ → wp (X11_sea 1000 σ) (fun r => wp (X12_sea 1000 ρ) (PC [2] σ ρ T r))) : ∃ τ, T τ τ ∧ ST_2 a1 a2 a3 a4 a5 σ τ := by
  obtain ⟨⟨o, σ1⟩, g1, -, -, -, g3, -⟩ := h σ AgR.rf
  have g3 : AgR σ σ1 := g3
  obtain ⟨⟨o', σ1'⟩, g1', ⟨r, τ⟩, g4, g2, -, g5, g6, g7, g8⟩ := h (lxI o σ1) (g3.tr (lxI_R o σ1))
  rw [g1] at g1'
  cases g1'
  have g5 : AgCL (lxI o σ1) τ := g5
  have g7 : τ 57 0 = cdL [2] o.1 := g7
  have g8 : o.1 = 0 → r = o.2 := g8
  have g2 : o.1 = 0 ∨ o.1 ∈ ([2] : List Nat) := g2
  refine ⟨τ, hT σ1 τ τ g6 ((lxI_C o σ1).tr g5.1) AgR.rf, 1000, 1000, 0, o, r, _, σ1, g1, by simpa using g2, g4, rfl, by rw [g7], fun q => ?_⟩
  have q0 : o.1 = 0 := by
    rcases g2 with g2 | g2
    · exact g2
    · have g9 : o.1 = 2 := by simpa using g2
      · rw [g9] at q; exact absurd q (by decide)
  rw [show τ 84 0 = lxI o σ1 84 0 by rw [g5.2], lxI_84 q0, g8 q0]
  exact cmp_eq rfl
theorem fin_3 {σ : SG} {T : SG → SG → Prop} (hT : TJ T) (a1 a2 a3 a4 a5 : Int) (h : ∀ ρ, AgR σ ρ → wp (X11_judge 1000 σ) (fun r => wp (X12_judge 1000 ρ) (PC [2] σ ρ T r))) : ∃ τ, T τ τ ∧ ST_3 a1 a2 a3 a4 a5 σ τ := by
  obtain ⟨⟨o, σ1⟩, g1, -, -, -, g3, -⟩ := h σ AgR.rf
  have g3 : AgR σ σ1 := g3
  obtain ⟨⟨o', σ1'⟩, g1', ⟨r, τ⟩, g4, g2, -, g5, g6, g7, g8⟩ := h (lxI o σ1) (g3.tr (lxI_R o σ1))
  rw [g1] at g1'
  cases g1'
  have g5 : AgCL (lxI o σ1) τ := g5
  have g7 : τ 57 0 = cdL [2] o.1 := g7
  have g8 : o.1 = 0 → r = o.2 := g8
  have g2 : o.1 = 0 ∨ o.1 ∈ ([2] : List Nat) := g2
  refine ⟨τ, hT σ1 τ τ g6 ((lxI_C o σ1).tr g5.1) AgR.rf, 1000, 1000, 0, o, r, _, σ1, g1, by simpa using g2, g4, rfl, by rw [g7], fun q => ?_⟩
  have q0 : o.1 = 0 := by
    rcases g2 with g2 | g2
    · exact g2
    · have g9 : o.1 = 2 := by simpa using g2
      · rw [g9] at q; exact absurd q (by decide)
  rw [show τ 84 0 = lxI o σ1 84 0 by rw [g5.2], lxI_84 q0, g8 q0]
  exact cmp_eq rfl
theorem fin_4 {σ : SG} {T : SG → SG → Prop} (hT : TJ T) (a1 a2 a3 a4 a5 : Int) (h : wp (X11_fault 1000 σ) (fun r => wp (X12_fault 1000 σ) (PB σ σ T r))) : ∃ τ, T τ τ ∧ ST_4 a1 a2 a3 a4 a5 σ τ := by
  obtain ⟨o, g1, ⟨r, τ⟩, g4, g5, g6, g7⟩ := h
  exact ⟨τ, hT σ τ τ g6 g5.1 AgR.rf, 1000, 1000, o, r, g1, g4, by rw [show r = o from g7]⟩
theorem fin_5 {σ : SG} {T : SG → SG → Prop} (hT : TJ T) (a1 a2 a3 a4 a5 : Int) (h : ∀ ρ, AgR σ ρ → wp (X11_anew 1000 σ) (fun r => wp (X12_anew 1000 ρ) (PC [4] σ ρ T r))) : ∃ τ, T τ τ ∧ ST_5 a1 a2 a3 a4 a5 σ τ := by
  obtain ⟨⟨o, σ1⟩, g1, -, -, -, g3, -⟩ := h σ AgR.rf
  have g3 : AgR σ σ1 := g3
  obtain ⟨⟨o', σ1'⟩, g1', ⟨r, τ⟩, g4, g2, -, g5, g6, g7, g8⟩ := h (lxI o σ1) (g3.tr (lxI_R o σ1))
  rw [g1] at g1'
  cases g1'
  have g5 : AgCL (lxI o σ1) τ := g5
  have g7 : τ 57 0 = cdL [4] o.1 := g7
  have g8 : o.1 = 0 → r = o.2 := g8
  have g2 : o.1 = 0 ∨ o.1 ∈ ([4] : List Nat) := g2
  refine ⟨τ, hT σ1 τ τ g6 ((lxI_C o σ1).tr g5.1) AgR.rf, 1000, 1000, 0, o, r, _, σ1, g1, by simpa using g2, g4, rfl, by rw [g7], fun q => ?_⟩
  have q0 : o.1 = 0 := by
    rcases g2 with g2 | g2
    · exact g2
    · have g9 : o.1 = 4 := by simpa using g2
      · rw [g9] at q; exact absurd q (by decide)
  rw [show τ 84 0 = lxI o σ1 84 0 by rw [g5.2], lxI_84 q0, g8 q0]
  exact cmp_eq rfl
theorem fin_6 {σ : SG} {T : SG → SG → Prop} (hT : TJ T) (a1 a2 a3 a4 a5 : Int) (h : wp (X11_comes 1000 σ) (fun r => wp (X12_comes 1000 r.2) (PA σ r.2 T r))) : ∃ τ, T τ τ ∧ ST_6 a1 a2 a3 a4 a5 σ τ := by
  obtain ⟨⟨o, σ1⟩, g1, ⟨r, τ⟩, g4, -, g5, g6, g7⟩ := h
  exact ⟨τ, hT σ1 τ τ g6 g5.1 AgR.rf, 1000, 1000, o, r, σ1, g1, g4, by rw [show r = o from g7]⟩
theorem fin_7 {σ : SG} {T : SG → SG → Prop} (hT : TJ T) (a1 a2 a3 a4 a5 : Int) (h : ∀ ρ, AgR σ ρ → wp (X11_wave 1000 a1 a2 σ) (fun r => wp (X12_wave 1000 a1 a2 ρ) (PC [1, 3] σ ρ T r))) : ∃ τ, T τ τ ∧ ST_7 a1 a2 a3 a4 a5 σ τ := by
  obtain ⟨⟨o, σ1⟩, g1, -, -, -, g3, -⟩ := h σ AgR.rf
  have g3 : AgR σ σ1 := g3
  obtain ⟨⟨o', σ1'⟩, g1', ⟨r, τ⟩, g4, g2, -, g5, g6, g7, g8⟩ := h (lxI o σ1) (g3.tr (lxI_R o σ1))
  rw [g1] at g1'
  cases g1'
  have g5 : AgCL (lxI o σ1) τ := g5
  have g7 : τ 57 0 = cdL [1, 3] o.1 := g7
  have g8 : o.1 = 0 → r = o.2 := g8
  have g2 : o.1 = 0 ∨ o.1 ∈ ([1, 3] : List Nat) := g2
  refine ⟨τ, hT σ1 τ τ g6 ((lxI_C o σ1).tr g5.1) AgR.rf, 1000, 1000, 0, o, r, _, σ1, g1, by simpa using g2, g4, rfl, by rw [g7], fun q => ?_⟩
  have q0 : o.1 = 0 := by
    rcases g2 with g2 | g2
    · exact g2
    · have g9 : o.1 = 1 ∨ o.1 = 3 := by simpa using g2
      rcases g9 with g9 | g9
      · rw [g9] at q; exact absurd q (by decide)
      · rw [g9] at q; exact absurd q (by decide)
  rw [show τ 84 0 = lxI o σ1 84 0 by rw [g5.2], lxI_84 q0, g8 q0]
  exact cmp_eq rfl
theorem fin_8 {σ : SG} {T : SG → SG → Prop} (hT : TJ T) (a1 a2 a3 a4 a5 : Int) (h : ∀ ρ, AgR σ ρ → wp (X11_surfer 1000 a1 a2 σ) (fun r => wp (X12_surfer 1000 a1 a2 ρ) (PC [1, 3] σ ρ T r))) : ∃ τ, T τ τ ∧ ST_8 a1 a2 a3 a4 a5 σ τ := by
  obtain ⟨⟨o, σ1⟩, g1, -, -, -, g3, -⟩ := h σ AgR.rf
  have g3 : AgR σ σ1 := g3
  obtain ⟨⟨o', σ1'⟩, g1', ⟨r, τ⟩, g4, g2, -, g5, g6, g7, g8⟩ := h (lxI o σ1) (g3.tr (lxI_R o σ1))
  rw [g1] at g1'
  cases g1'
  have g5 : AgCL (lxI o σ1) τ := g5
  have g7 : τ 57 0 = cdL [1, 3] o.1 := g7
  have g8 : o.1 = 0 → r = o.2 := g8
  have g2 : o.1 = 0 ∨ o.1 ∈ ([1, 3] : List Nat) := g2
  refine ⟨τ, hT σ1 τ τ g6 ((lxI_C o σ1).tr g5.1) AgR.rf, 1000, 1000, 0, o, r, _, σ1, g1, by simpa using g2, g4, rfl, by rw [g7], fun q => ?_⟩
  have q0 : o.1 = 0 := by
    rcases g2 with g2 | g2
    · exact g2
    · have g9 : o.1 = 1 ∨ o.1 = 3 := by simpa using g2
      rcases g9 with g9 | g9
      · rw [g9] at q; exact absurd q (by decide)
      · rw [g9] at q; exact absurd q (by decide)
  rw [show τ 84 0 = lxI o σ1 84 0 by rw [g5.2], lxI_84 q0, g8 q0]
  exact cmp_eq rfl
theorem fin_9 {σ : SG} {T : SG → SG → Prop} (hT : TJ T) (a1 a2 a3 a4 a5 : Int) (h : ∀ ρ, AgR σ ρ → wp (X11_name 1000 a1 a2 σ) (fun r => wp (X12_name 1000 a1 a2 ρ) (PC [1] σ ρ T r))) : ∃ τ, T τ τ ∧ ST_9 a1 a2 a3 a4 a5 σ τ := by
  obtain ⟨⟨o, σ1⟩, g1, -, -, -, g3, -⟩ := h σ AgR.rf
  have g3 : AgR σ σ1 := g3
  obtain ⟨⟨o', σ1'⟩, g1', ⟨r, τ⟩, g4, g2, -, g5, g6, g7, g8⟩ := h (lxI o σ1) (g3.tr (lxI_R o σ1))
  rw [g1] at g1'
  cases g1'
  have g5 : AgCL (lxI o σ1) τ := g5
  have g7 : τ 57 0 = cdL [1] o.1 := g7
  have g8 : o.1 = 0 → r = o.2 := g8
  have g2 : o.1 = 0 ∨ o.1 ∈ ([1] : List Nat) := g2
  refine ⟨τ, hT σ1 τ τ g6 ((lxI_C o σ1).tr g5.1) AgR.rf, 1000, 1000, 0, o, r, _, σ1, g1, by simpa using g2, g4, rfl, by rw [g7], fun q => ?_⟩
  have q0 : o.1 = 0 := by
    rcases g2 with g2 | g2
    · exact g2
    · have g9 : o.1 = 1 := by simpa using g2
      · rw [g9] at q; exact absurd q (by decide)
  rw [show τ 84 0 = lxI o σ1 84 0 by rw [g5.2], lxI_84 q0, g8 q0]
  exact cmp_eq rfl
theorem fin_10 {σ : SG} {T : SG → SG → Prop} (hT : TJ T) (a1 a2 a3 a4 a5 : Int) (h : ∀ ρ, AgR σ ρ → wp (X11_goal 1000 a1 a2 σ) (fun r => wp (X12_goal 1000 a1 a2 ρ) (PC [1, 2, 4] σ ρ T r))) : ∃ τ, T τ τ ∧ ST_10 a1 a2 a3 a4 a5 σ τ := by
  obtain ⟨⟨o, σ1⟩, g1, -, -, -, g3, -⟩ := h σ AgR.rf
  have g3 : AgR σ σ1 := g3
  obtain ⟨⟨o', σ1'⟩, g1', ⟨r, τ⟩, g4, g2, -, g5, g6, g7, g8⟩ := h (lxI o σ1) (g3.tr (lxI_R o σ1))
  rw [g1] at g1'
  cases g1'
  have g5 : AgCL (lxI o σ1) τ := g5
  have g7 : τ 57 0 = cdL [1, 2, 4] o.1 := g7
  have g8 : o.1 = 0 → r = o.2 := g8
  have g2 : o.1 = 0 ∨ o.1 ∈ ([1, 2, 4] : List Nat) := g2
  refine ⟨τ, hT σ1 τ τ g6 ((lxI_C o σ1).tr g5.1) AgR.rf, 1000, 1000, 0, o, r, _, σ1, g1, by simpa using g2, g4, rfl, by rw [g7], fun q => ?_⟩
  have q0 : o.1 = 0 := by
    rcases g2 with g2 | g2
    · exact g2
    · have g9 : o.1 = 1 ∨ o.1 = 2 ∨ o.1 = 4 := by simpa using g2
      rcases g9 with g9 | g9 | g9
      · rw [g9] at q; exact absurd q (by decide)
      · rw [g9] at q; exact absurd q (by decide)
      · rw [g9] at q; exact absurd q (by decide)
  rw [show τ 84 0 = lxI o σ1 84 0 by rw [g5.2], lxI_84 q0, g8 q0]
  exact cmp_eq rfl
theorem fin_11 {σ : SG} {T : SG → SG → Prop} (hT : TJ T) (a1 a2 a3 a4 a5 : Int) (h : wp (X11_row 1000 a1 σ) (fun r => wp (X12_row 1000 a1 σ) (PB σ σ T r))) : ∃ τ, T τ τ ∧ ST_11 a1 a2 a3 a4 a5 σ τ := by
  obtain ⟨o, g1, ⟨r, τ⟩, g4, g5, g6, g7⟩ := h
  exact ⟨τ, hT σ τ τ g6 g5.1 AgR.rf, 1000, 1000, o, r, g1, g4, by rw [show r = o from g7]⟩
theorem fin_12 {σ : SG} {T : SG → SG → Prop} (hT : TJ T) (a1 a2 a3 a4 a5 : Int) (h : ∀ ρ, AgR σ ρ → wp (X11_take 1000 a1 a2 a3 a4 σ) (fun r => wp (X12_take 1000 a1 a2 a3 a4 ρ) (PC [1, 2, 4] σ ρ T r))) : ∃ τ, T τ τ ∧ ST_12 a1 a2 a3 a4 a5 σ τ := by
  obtain ⟨⟨o, σ1⟩, g1, -, -, -, g3, -⟩ := h σ AgR.rf
  have g3 : AgR σ σ1 := g3
  obtain ⟨⟨o', σ1'⟩, g1', ⟨r, τ⟩, g4, g2, -, g5, g6, g7, g8⟩ := h (lxI o σ1) (g3.tr (lxI_R o σ1))
  rw [g1] at g1'
  cases g1'
  have g5 : AgCL (lxI o σ1) τ := g5
  have g7 : τ 57 0 = cdL [1, 2, 4] o.1 := g7
  have g8 : o.1 = 0 → r = o.2 := g8
  have g2 : o.1 = 0 ∨ o.1 ∈ ([1, 2, 4] : List Nat) := g2
  refine ⟨τ, hT σ1 τ τ g6 ((lxI_C o σ1).tr g5.1) AgR.rf, 1000, 1000, 0, o, r, _, σ1, g1, by simpa using g2, g4, rfl, by rw [g7], fun q => ?_⟩
  have q0 : o.1 = 0 := by
    rcases g2 with g2 | g2
    · exact g2
    · have g9 : o.1 = 1 ∨ o.1 = 2 ∨ o.1 = 4 := by simpa using g2
      rcases g9 with g9 | g9 | g9
      · rw [g9] at q; exact absurd q (by decide)
      · rw [g9] at q; exact absurd q (by decide)
      · rw [g9] at q; exact absurd q (by decide)
  rw [show τ 84 0 = lxI o σ1 84 0 by rw [g5.2], lxI_84 q0, g8 q0]
  exact cmp_eq rfl
theorem fin_13 {σ : SG} {T : SG → SG → Prop} (hT : TJ T) (a1 a2 a3 a4 a5 : Int) (h : ∀ ρ, AgR σ ρ → wp (X11_right 1000 a1 a2 σ) (fun r => wp (X12_right 1000 a1 a2 ρ) (PC [1, 2, 4] σ ρ T r))) : ∃ τ, T τ τ ∧ ST_13 a1 a2 a3 a4 a5 σ τ := by
  obtain ⟨⟨o, σ1⟩, g1, -, -, -, g3, -⟩ := h σ AgR.rf
  have g3 : AgR σ σ1 := g3
  obtain ⟨⟨o', σ1'⟩, g1', ⟨r, τ⟩, g4, g2, -, g5, g6, g7, g8⟩ := h (lxI o σ1) (g3.tr (lxI_R o σ1))
  rw [g1] at g1'
  cases g1'
  have g5 : AgCL (lxI o σ1) τ := g5
  have g7 : τ 57 0 = cdL [1, 2, 4] o.1 := g7
  have g8 : o.1 = 0 → r = o.2 := g8
  have g2 : o.1 = 0 ∨ o.1 ∈ ([1, 2, 4] : List Nat) := g2
  refine ⟨τ, hT σ1 τ τ g6 ((lxI_C o σ1).tr g5.1) AgR.rf, 1000, 1000, 0, o, r, _, σ1, g1, by simpa using g2, g4, rfl, by rw [g7], fun q => ?_⟩
  have q0 : o.1 = 0 := by
    rcases g2 with g2 | g2
    · exact g2
    · have g9 : o.1 = 1 ∨ o.1 = 2 ∨ o.1 = 4 := by simpa using g2
      rcases g9 with g9 | g9 | g9
      · rw [g9] at q; exact absurd q (by decide)
      · rw [g9] at q; exact absurd q (by decide)
      · rw [g9] at q; exact absurd q (by decide)
  rw [show τ 84 0 = lxI o σ1 84 0 by rw [g5.2], lxI_84 q0, g8 q0]
  exact cmp_eq rfl
theorem fin_14 {σ : SG} {T : SG → SG → Prop} (hT : TJ T) (a1 a2 a3 a4 a5 : Int) (h : ∀ ρ, AgR σ ρ → wp (X11_hinders 1000 a1 σ) (fun r => wp (X12_hinders 1000 a1 ρ) (PC [1] σ ρ T r))) : ∃ τ, T τ τ ∧ ST_14 a1 a2 a3 a4 a5 σ τ := by
  obtain ⟨⟨o, σ1⟩, g1, -, -, -, g3, -⟩ := h σ AgR.rf
  have g3 : AgR σ σ1 := g3
  obtain ⟨⟨o', σ1'⟩, g1', ⟨r, τ⟩, g4, g2, -, g5, g6, g7, g8⟩ := h (lxI o σ1) (g3.tr (lxI_R o σ1))
  rw [g1] at g1'
  cases g1'
  have g5 : AgCL (lxI o σ1) τ := g5
  have g7 : τ 57 0 = cdL [1] o.1 := g7
  have g8 : o.1 = 0 → r = o.2 := g8
  have g2 : o.1 = 0 ∨ o.1 ∈ ([1] : List Nat) := g2
  refine ⟨τ, hT σ1 τ τ g6 ((lxI_C o σ1).tr g5.1) AgR.rf, 1000, 1000, 0, o, r, _, σ1, g1, by simpa using g2, g4, rfl, by rw [g7], fun q => ?_⟩
  have q0 : o.1 = 0 := by
    rcases g2 with g2 | g2
    · exact g2
    · have g9 : o.1 = 1 := by simpa using g2
      · rw [g9] at q; exact absurd q (by decide)
  rw [show τ 84 0 = lxI o σ1 84 0 by rw [g5.2], lxI_84 q0, g8 q0]
  exact cmp_eq rfl
theorem fin_15 {σ : SG} {T : SG → SG → Prop} (hT : TJ T) (a1 a2 a3 a4 a5 : Int) (h : ∀ ρ, AgR σ ρ → wp (X11_ride 1000 a1 a2 a3 σ) (fun r => wp (X12_ride 1000 a1 a2 a3 ρ) (PC [1, 3] σ ρ T r))) : ∃ τ, T τ τ ∧ ST_15 a1 a2 a3 a4 a5 σ τ := by
  obtain ⟨⟨o, σ1⟩, g1, -, -, -, g3, -⟩ := h σ AgR.rf
  have g3 : AgR σ σ1 := g3
  obtain ⟨⟨o', σ1'⟩, g1', ⟨r, τ⟩, g4, g2, -, g5, g6, g7, g8⟩ := h (lxI o σ1) (g3.tr (lxI_R o σ1))
  rw [g1] at g1'
  cases g1'
  have g5 : AgCL (lxI o σ1) τ := g5
  have g7 : τ 57 0 = cdL [1, 3] o.1 := g7
  have g8 : o.1 = 0 → r = o.2 := g8
  have g2 : o.1 = 0 ∨ o.1 ∈ ([1, 3] : List Nat) := g2
  refine ⟨τ, hT σ1 τ τ g6 ((lxI_C o σ1).tr g5.1) AgR.rf, 1000, 1000, 0, o, r, _, σ1, g1, by simpa using g2, g4, rfl, by rw [g7], fun q => ?_⟩
  have q0 : o.1 = 0 := by
    rcases g2 with g2 | g2
    · exact g2
    · have g9 : o.1 = 1 ∨ o.1 = 3 := by simpa using g2
      rcases g9 with g9 | g9
      · rw [g9] at q; exact absurd q (by decide)
      · rw [g9] at q; exact absurd q (by decide)
  rw [show τ 84 0 = lxI o σ1 84 0 by rw [g5.2], lxI_84 q0, g8 q0]
  exact cmp_eq rfl
theorem fin_16 {σ : SG} {T : SG → SG → Prop} (hT : TJ T) (a1 a2 a3 a4 a5 : Int) (h : ∀ ρ, AgR σ ρ → wp (X11_would 1000 a1 a2 a3 a4 a5 σ) (fun r => wp (X12_would 1000 a1 a2 a3 a4 a5 ρ) (PC [1, 2] σ ρ T r))) : ∃ τ, T τ τ ∧ ST_16 a1 a2 a3 a4 a5 σ τ := by
  obtain ⟨⟨o, σ1⟩, g1, -, -, -, g3, -⟩ := h σ AgR.rf
  have g3 : AgR σ σ1 := g3
  obtain ⟨⟨o', σ1'⟩, g1', ⟨r, τ⟩, g4, g2, -, g5, g6, g7, g8⟩ := h (lxI o σ1) (g3.tr (lxI_R o σ1))
  rw [g1] at g1'
  cases g1'
  have g5 : AgCL (lxI o σ1) τ := g5
  have g7 : τ 57 0 = cdL [1, 2] o.1 := g7
  have g8 : o.1 = 0 → r = o.2 := g8
  have g2 : o.1 = 0 ∨ o.1 ∈ ([1, 2] : List Nat) := g2
  refine ⟨τ, hT σ1 τ τ g6 ((lxI_C o σ1).tr g5.1) AgR.rf, 1000, 1000, 0, o, r, _, σ1, g1, by simpa using g2, g4, rfl, by rw [g7], fun q => ?_⟩
  have q0 : o.1 = 0 := by
    rcases g2 with g2 | g2
    · exact g2
    · have g9 : o.1 = 1 ∨ o.1 = 2 := by simpa using g2
      rcases g9 with g9 | g9
      · rw [g9] at q; exact absurd q (by decide)
      · rw [g9] at q; exact absurd q (by decide)
  rw [show τ 84 0 = lxI o σ1 84 0 by rw [g5.2], lxI_84 q0, g8 q0]
  exact cmp_eq rfl
theorem fin_17 {σ : SG} {T : SG → SG → Prop} (hT : TJ T) (a1 a2 a3 a4 a5 : Int) (h : ∀ ρ, AgR σ ρ → wp (X11_ranked 1000 a1 σ) (fun r => wp (X12_ranked 1000 a1 ρ) (PC [3] σ ρ T r))) : ∃ τ, T τ τ ∧ ST_17 a1 a2 a3 a4 a5 σ τ := by
  obtain ⟨⟨o, σ1⟩, g1, -, -, -, g3, -⟩ := h σ AgR.rf
  have g3 : AgR σ σ1 := g3
  obtain ⟨⟨o', σ1'⟩, g1', ⟨r, τ⟩, g4, g2, -, g5, g6, g7, g8⟩ := h (lxI o σ1) (g3.tr (lxI_R o σ1))
  rw [g1] at g1'
  cases g1'
  have g5 : AgCL (lxI o σ1) τ := g5
  have g7 : τ 57 0 = cdL [3] o.1 := g7
  have g8 : o.1 = 0 → r = o.2 := g8
  have g2 : o.1 = 0 ∨ o.1 ∈ ([3] : List Nat) := g2
  refine ⟨τ, hT σ1 τ τ g6 ((lxI_C o σ1).tr g5.1) AgR.rf, 1000, 1000, 0, o, r, _, σ1, g1, by simpa using g2, g4, rfl, by rw [g7], fun q => ?_⟩
  have q0 : o.1 = 0 := by
    rcases g2 with g2 | g2
    · exact g2
    · have g9 : o.1 = 3 := by simpa using g2
      · rw [g9] at q; exact absurd q (by decide)
  rw [show τ 84 0 = lxI o σ1 84 0 by rw [g5.2], lxI_84 q0, g8 q0]
  exact cmp_eq rfl
theorem fin_18 {σ : SG} {T : SG → SG → Prop} (hT : TJ T) (a1 a2 a3 a4 a5 : Int) (h : ∀ ρ, AgR σ ρ → wp (X11_need 1000 a1 σ) (fun r => wp (X12_need 1000 a1 ρ) (PC [1] σ ρ T r))) : ∃ τ, T τ τ ∧ ST_18 a1 a2 a3 a4 a5 σ τ := by
  obtain ⟨⟨o, σ1⟩, g1, -, -, -, g3, -⟩ := h σ AgR.rf
  have g3 : AgR σ σ1 := g3
  obtain ⟨⟨o', σ1'⟩, g1', ⟨r, τ⟩, g4, g2, -, g5, g6, g7, g8⟩ := h (lxI o σ1) (g3.tr (lxI_R o σ1))
  rw [g1] at g1'
  cases g1'
  have g5 : AgCL (lxI o σ1) τ := g5
  have g7 : τ 57 0 = cdL [1] o.1 := g7
  have g8 : o.1 = 0 → r = o.2 := g8
  have g2 : o.1 = 0 ∨ o.1 ∈ ([1] : List Nat) := g2
  refine ⟨τ, hT σ1 τ τ g6 ((lxI_C o σ1).tr g5.1) AgR.rf, 1000, 1000, 0, o, r, _, σ1, g1, by simpa using g2, g4, rfl, by rw [g7], fun q => ?_⟩
  have q0 : o.1 = 0 := by
    rcases g2 with g2 | g2
    · exact g2
    · have g9 : o.1 = 1 := by simpa using g2
      · rw [g9] at q; exact absurd q (by decide)
  rw [show τ 84 0 = lxI o σ1 84 0 by rw [g5.2], lxI_84 q0, g8 q0]
  exact cmp_eq rfl
theorem fin_19 {σ : SG} {T : SG → SG → Prop} (hT : TJ T) (a1 a2 a3 a4 a5 : Int) (h : ∀ ρ, AgR σ ρ → wp (X11_best 1000 a1 a2 σ) (fun r => wp (X12_best 1000 a1 a2 ρ) (PC [1, 3, 4] σ ρ T r))) : ∃ τ, T τ τ ∧ ST_19 a1 a2 a3 a4 a5 σ τ := by
  obtain ⟨⟨o, σ1⟩, g1, -, -, -, g3, -⟩ := h σ AgR.rf
  have g3 : AgR σ σ1 := g3
  obtain ⟨⟨o', σ1'⟩, g1', ⟨r, τ⟩, g4, g2, -, g5, g6, g7, g8⟩ := h (lxI o σ1) (g3.tr (lxI_R o σ1))
  rw [g1] at g1'
  cases g1'
  have g5 : AgCL (lxI o σ1) τ := g5
  have g7 : τ 57 0 = cdL [1, 3, 4] o.1 := g7
  have g8 : o.1 = 0 → r = o.2 := g8
  have g2 : o.1 = 0 ∨ o.1 ∈ ([1, 3, 4] : List Nat) := g2
  refine ⟨τ, hT σ1 τ τ g6 ((lxI_C o σ1).tr g5.1) AgR.rf, 1000, 1000, 0, o, r, _, σ1, g1, by simpa using g2, g4, rfl, by rw [g7], fun q => ?_⟩
  have q0 : o.1 = 0 := by
    rcases g2 with g2 | g2
    · exact g2
    · have g9 : o.1 = 1 ∨ o.1 = 3 ∨ o.1 = 4 := by simpa using g2
      rcases g9 with g9 | g9 | g9
      · rw [g9] at q; exact absurd q (by decide)
      · rw [g9] at q; exact absurd q (by decide)
      · rw [g9] at q; exact absurd q (by decide)
  rw [show τ 84 0 = lxI o σ1 84 0 by rw [g5.2], lxI_84 q0, g8 q0]
  exact cmp_eq rfl
theorem fin_20 {σ : SG} {T : SG → SG → Prop} (hT : TJ T) (a1 a2 a3 a4 a5 : Int) (h : ∀ ρ, AgR σ ρ → wp (X11_plan 1000 a1 a2 σ) (fun r => wp (X12_plan 1000 a1 a2 ρ) (PC [1, 3, 4] σ ρ T r))) : ∃ τ, T τ τ ∧ ST_20 a1 a2 a3 a4 a5 σ τ := by
  obtain ⟨⟨o, σ1⟩, g1, -, -, -, g3, -⟩ := h σ AgR.rf
  have g3 : AgR σ σ1 := g3
  obtain ⟨⟨o', σ1'⟩, g1', ⟨r, τ⟩, g4, g2, -, g5, g6, g7, g8⟩ := h (lxI o σ1) (g3.tr (lxI_R o σ1))
  rw [g1] at g1'
  cases g1'
  have g5 : AgCL (lxI o σ1) τ := g5
  have g7 : τ 57 0 = cdL [1, 3, 4] o.1 := g7
  have g8 : o.1 = 0 → r = o.2 := g8
  have g2 : o.1 = 0 ∨ o.1 ∈ ([1, 3, 4] : List Nat) := g2
  refine ⟨τ, hT σ1 τ τ g6 ((lxI_C o σ1).tr g5.1) AgR.rf, 1000, 1000, 0, o, r, _, σ1, g1, by simpa using g2, g4, rfl, by rw [g7], fun q => ?_⟩
  have q0 : o.1 = 0 := by
    rcases g2 with g2 | g2
    · exact g2
    · have g9 : o.1 = 1 ∨ o.1 = 3 ∨ o.1 = 4 := by simpa using g2
      rcases g9 with g9 | g9 | g9
      · rw [g9] at q; exact absurd q (by decide)
      · rw [g9] at q; exact absurd q (by decide)
      · rw [g9] at q; exact absurd q (by decide)
  rw [show τ 84 0 = lxI o σ1 84 0 by rw [g5.2], lxI_84 q0, g8 q0]
  exact cmp_eq rfl
theorem fin_21 {σ : SG} {T : SG → SG → Prop} (hT : TJ T) (a1 a2 a3 a4 a5 : Int) (h : wp (X11_seen 1000 a1 σ) (fun r => wp (X12_seen 1000 a1 σ) (PB σ σ T r))) : ∃ τ, T τ τ ∧ ST_21 a1 a2 a3 a4 a5 σ τ := by
  obtain ⟨o, g1, ⟨r, τ⟩, g4, g5, g6, g7⟩ := h
  exact ⟨τ, hT σ τ τ g6 g5.1 AgR.rf, 1000, 1000, o, r, g1, g4, by rw [show r = o from g7]⟩
theorem fin_22 {σ : SG} {T : SG → SG → Prop} (hT : TJ T) (a1 a2 a3 a4 a5 : Int) (h : ∀ ρ, AgR σ ρ → wp (X11_worth 1000 a1 a2 a3 σ) (fun r => wp (X12_worth 1000 a1 a2 a3 ρ) (PC [1, 2, 4] σ ρ T r))) : ∃ τ, T τ τ ∧ ST_22 a1 a2 a3 a4 a5 σ τ := by
  obtain ⟨⟨o, σ1⟩, g1, -, -, -, g3, -⟩ := h σ AgR.rf
  have g3 : AgR σ σ1 := g3
  obtain ⟨⟨o', σ1'⟩, g1', ⟨r, τ⟩, g4, g2, -, g5, g6, g7, g8⟩ := h (lxL o σ1) (g3.tr (lxL_R o σ1))
  rw [g1] at g1'
  cases g1'
  have g5 : AgCL (lxL o σ1) τ := g5
  have g7 : τ 57 0 = cdL [1, 2, 4] o.1 := g7
  have g8 : o.1 = 0 → r = o.2 := g8
  have g2 : o.1 = 0 ∨ o.1 ∈ ([1, 2, 4] : List Nat) := g2
  refine ⟨τ, hT σ1 τ τ g6 ((lxL_C o σ1).tr g5.1) AgR.rf, 1000, 1000, 0, o, r, _, σ1, g1, by simpa using g2, g4, rfl, by rw [g7], fun q => ?_⟩
  have q0 : o.1 = 0 := by
    rcases g2 with g2 | g2
    · exact g2
    · have g9 : o.1 = 1 ∨ o.1 = 2 ∨ o.1 = 4 := by simpa using g2
      rcases g9 with g9 | g9 | g9
      · rw [g9] at q; exact absurd q (by decide)
      · rw [g9] at q; exact absurd q (by decide)
      · rw [g9] at q; exact absurd q (by decide)
  rw [show τ 84 0 = lxL o σ1 84 0 by rw [g5.2], lxL_84 q0, g8 q0]
  exact cmp_eq rfl
theorem fin_23 {σ : SG} {T : SG → SG → Prop} (hT : TJ T) (a1 a2 a3 a4 a5 : Int) (h : ∀ ρ, AgR σ ρ → wp (X11_least 1000 a1 a2 a3 σ) (fun r => wp (X12_least 1000 a1 a2 a3 ρ) (PC [1, 2, 4] σ ρ T r))) : ∃ τ, T τ τ ∧ ST_23 a1 a2 a3 a4 a5 σ τ := by
  obtain ⟨⟨o, σ1⟩, g1, -, -, -, g3, -⟩ := h σ AgR.rf
  have g3 : AgR σ σ1 := g3
  obtain ⟨⟨o', σ1'⟩, g1', ⟨r, τ⟩, g4, g2, -, g5, g6, g7, g8⟩ := h (lxI o σ1) (g3.tr (lxI_R o σ1))
  rw [g1] at g1'
  cases g1'
  have g5 : AgCL (lxI o σ1) τ := g5
  have g7 : τ 57 0 = cdL [1, 2, 4] o.1 := g7
  have g8 : o.1 = 0 → r = o.2 := g8
  have g2 : o.1 = 0 ∨ o.1 ∈ ([1, 2, 4] : List Nat) := g2
  refine ⟨τ, hT σ1 τ τ g6 ((lxI_C o σ1).tr g5.1) AgR.rf, 1000, 1000, 0, o, r, _, σ1, g1, by simpa using g2, g4, rfl, by rw [g7], fun q => ?_⟩
  have q0 : o.1 = 0 := by
    rcases g2 with g2 | g2
    · exact g2
    · have g9 : o.1 = 1 ∨ o.1 = 2 ∨ o.1 = 4 := by simpa using g2
      rcases g9 with g9 | g9 | g9
      · rw [g9] at q; exact absurd q (by decide)
      · rw [g9] at q; exact absurd q (by decide)
      · rw [g9] at q; exact absurd q (by decide)
  rw [show τ 84 0 = lxI o σ1 84 0 by rw [g5.2], lxI_84 q0, g8 q0]
  exact cmp_eq rfl
theorem fin_24 {σ : SG} {T : SG → SG → Prop} (hT : TJ T) (a1 a2 a3 a4 a5 : Int) (h : ∀ ρ, AgR σ ρ → wp (X11_took 1000 a1 a2 σ) (fun r => wp (X12_took 1000 a1 a2 ρ) (PC [1, 3] σ ρ T r))) : ∃ τ, T τ τ ∧ ST_24 a1 a2 a3 a4 a5 σ τ := by
  obtain ⟨⟨o, σ1⟩, g1, -, -, -, g3, -⟩ := h σ AgR.rf
  have g3 : AgR σ σ1 := g3
  obtain ⟨⟨o', σ1'⟩, g1', ⟨r, τ⟩, g4, g2, -, g5, g6, g7, g8⟩ := h (lxI o σ1) (g3.tr (lxI_R o σ1))
  rw [g1] at g1'
  cases g1'
  have g5 : AgCL (lxI o σ1) τ := g5
  have g7 : τ 57 0 = cdL [1, 3] o.1 := g7
  have g8 : o.1 = 0 → r = o.2 := g8
  have g2 : o.1 = 0 ∨ o.1 ∈ ([1, 3] : List Nat) := g2
  refine ⟨τ, hT σ1 τ τ g6 ((lxI_C o σ1).tr g5.1) AgR.rf, 1000, 1000, 0, o, r, _, σ1, g1, by simpa using g2, g4, rfl, by rw [g7], fun q => ?_⟩
  have q0 : o.1 = 0 := by
    rcases g2 with g2 | g2
    · exact g2
    · have g9 : o.1 = 1 ∨ o.1 = 3 := by simpa using g2
      rcases g9 with g9 | g9
      · rw [g9] at q; exact absurd q (by decide)
      · rw [g9] at q; exact absurd q (by decide)
  rw [show τ 84 0 = lxI o σ1 84 0 by rw [g5.2], lxI_84 q0, g8 q0]
  exact cmp_eq rfl
theorem fin_25 {σ : SG} {T : SG → SG → Prop} (hT : TJ T) (a1 a2 a3 a4 a5 : Int) (h : ∀ ρ, AgR σ ρ → wp (X11_swim 1000 a1 a2 σ) (fun r => wp (X12_swim 1000 a1 a2 ρ) (PC [1, 2, 4] σ ρ T r))) : ∃ τ, T τ τ ∧ ST_25 a1 a2 a3 a4 a5 σ τ := by
  obtain ⟨⟨o, σ1⟩, g1, -, -, -, g3, -⟩ := h σ AgR.rf
  have g3 : AgR σ σ1 := g3
  obtain ⟨⟨o', σ1'⟩, g1', ⟨r, τ⟩, g4, g2, -, g5, g6, g7, g8⟩ := h (lxI o σ1) (g3.tr (lxI_R o σ1))
  rw [g1] at g1'
  cases g1'
  have g5 : AgCL (lxI o σ1) τ := g5
  have g7 : τ 57 0 = cdL [1, 2, 4] o.1 := g7
  have g8 : o.1 = 0 → r = o.2 := g8
  have g2 : o.1 = 0 ∨ o.1 ∈ ([1, 2, 4] : List Nat) := g2
  refine ⟨τ, hT σ1 τ τ g6 ((lxI_C o σ1).tr g5.1) AgR.rf, 1000, 1000, 0, o, r, _, σ1, g1, by simpa using g2, g4, rfl, by rw [g7], fun q => ?_⟩
  have q0 : o.1 = 0 := by
    rcases g2 with g2 | g2
    · exact g2
    · have g9 : o.1 = 1 ∨ o.1 = 2 ∨ o.1 = 4 := by simpa using g2
      rcases g9 with g9 | g9 | g9
      · rw [g9] at q; exact absurd q (by decide)
      · rw [g9] at q; exact absurd q (by decide)
      · rw [g9] at q; exact absurd q (by decide)
  rw [show τ 84 0 = lxI o σ1 84 0 by rw [g5.2], lxI_84 q0, g8 q0]
  exact cmp_eq rfl
theorem fin_26 {σ : SG} {T : SG → SG → Prop} (hT : TJ T) (a1 a2 a3 a4 a5 : Int) (h : ∀ ρ, AgR σ ρ → wp (X11_reach 1000 a1 a2 a3 σ) (fun r => wp (X12_reach 1000 a1 a2 a3 ρ) (PC [1, 3, 4] σ ρ T r))) : ∃ τ, T τ τ ∧ ST_26 a1 a2 a3 a4 a5 σ τ := by
  obtain ⟨⟨o, σ1⟩, g1, -, -, -, g3, -⟩ := h σ AgR.rf
  have g3 : AgR σ σ1 := g3
  obtain ⟨⟨o', σ1'⟩, g1', ⟨r, τ⟩, g4, g2, -, g5, g6, g7, g8⟩ := h (lxI o σ1) (g3.tr (lxI_R o σ1))
  rw [g1] at g1'
  cases g1'
  have g5 : AgCL (lxI o σ1) τ := g5
  have g7 : τ 57 0 = cdL [1, 3, 4] o.1 := g7
  have g8 : o.1 = 0 → r = o.2 := g8
  have g2 : o.1 = 0 ∨ o.1 ∈ ([1, 3, 4] : List Nat) := g2
  refine ⟨τ, hT σ1 τ τ g6 ((lxI_C o σ1).tr g5.1) AgR.rf, 1000, 1000, 0, o, r, _, σ1, g1, by simpa using g2, g4, rfl, by rw [g7], fun q => ?_⟩
  have q0 : o.1 = 0 := by
    rcases g2 with g2 | g2
    · exact g2
    · have g9 : o.1 = 1 ∨ o.1 = 3 ∨ o.1 = 4 := by simpa using g2
      rcases g9 with g9 | g9 | g9
      · rw [g9] at q; exact absurd q (by decide)
      · rw [g9] at q; exact absurd q (by decide)
      · rw [g9] at q; exact absurd q (by decide)
  rw [show τ 84 0 = lxI o σ1 84 0 by rw [g5.2], lxI_84 q0, g8 q0]
  exact cmp_eq rfl
theorem fin_27 {σ : SG} {T : SG → SG → Prop} (hT : TJ T) (a1 a2 a3 a4 a5 : Int) (h : wp (X11_count 1000 a1 σ) (fun r => wp (X12_count 1000 a1 σ) (PB σ σ T r))) : ∃ τ, T τ τ ∧ ST_27 a1 a2 a3 a4 a5 σ τ := by
  obtain ⟨o, g1, ⟨r, τ⟩, g4, g5, g6, g7⟩ := h
  exact ⟨τ, hT σ τ τ g6 g5.1 AgR.rf, 1000, 1000, o, r, g1, g4, by rw [show r = o from g7]⟩
