/-! ===== the wave goes by: all are judged, and leave it ===== -/
theorem judged_ok {σ0 ρ0 : SG} {S J m q w : Nat} {told peak : Int} {L : List Int} (R : Rl σ0 ρ0 S J m q) (I : IJud σ0 ρ0 J) (hw : σ0 19 13 = (w : Int)) (D : HD m w told peak L (fun s => σ0 (39 + 2 * s) 3) (fun s => σ0 (39 + 2 * s) 7) (fun s => σ0 (39 + 2 * s) 12) (fun s => σ0 (39 + 2 * s) 13)) (F : HF σ0 S m w told peak L (fun s => σ0 (39 + 2 * s) 3) (fun s => σ0 (39 + 2 * s) 7) (fun s => σ0 (39 + 2 * s) 12) (fun s => σ0 (39 + 2 * s) 13))
    (h80 : ∀ s, s < m → ρ0 80 s = hv m told peak L (fun s => σ0 (39 + 2 * s) 3) (fun s => σ0 (39 + 2 * s) 7) (fun s => σ0 (39 + 2 * s) 12) (fun s => σ0 (39 + 2 * s) 13) s) (h37 : σ0 37 (4 * w + 1) = -1 ∧ σ0 37 (4 * w + 2) = -1 ∧ σ0 37 (4 * w + 3) = 0) :
    ∃ σ' ρ', iter 1000 (fun s : Int × SG => X1_goBy_l49 1000 ((w : Int) * 4) s.1 s.2) (0, σ0) = some σ' ∧ iter 1000 (fun s : Int × SG => X12_goesBy_l29 1000 s.1 s.2) (0, ρ0) = some ρ' ∧ Gb σ0 ρ0 J w m σ' ρ' := by
  have n5 := R.num.2.1
  obtain ⟨hS, hJ, hU, -, -, -, hC⟩ := R.use
  obtain ⟨⟨n1, -, r1, -⟩, -⟩ := R.num
  have hon : ∀ s, s < m → σ0 (39 + 2 * s) 7 = 0 ∨ σ0 (39 + 2 * s) 7 = 1 := fun s hs => (D.2.2.2.2.2.2.2 s hs).2.1
  exact wp_loop2 (f := fun s : Int × SG => X1_goBy_l49 1000 ((w : Int) * 4) s.1 s.2) (g := fun s : Int × SG => X12_goesBy_l29 1000 s.1 s.2) (n := 1000) (n' := 1000) (a := (0, σ0)) (a' := (0, ρ0))
    (Q := fun σ' ρ' => Gb σ0 ρ0 J w m σ' ρ') (fun k z z' => z.1 = (k : Int) ∧ z'.1 = (k : Int) ∧ Gb σ0 ρ0 J w k z.2 z'.2) m (by
      rintro k ⟨z1, σ⟩ ⟨z1', ρ⟩ hk ⟨e1, e1', G⟩
      obtain rfl : z1 = (k : Int) := e1
      obtain rfl : z1' = (k : Int) := e1'
      have G : Gb σ0 ρ0 J w k σ ρ := G
      have G' := G
      obtain ⟨g1, g2, g3, -⟩ := G'
      have a0 : σ 19 0 = (S : Int) := (g1 19 0 (by omega) (by omega) (by omega) (by omega) (by omega) (by omega) (by omega)).trans hU
      have a5 : σ S 5 = (m : Int) := (g1 S 5 (by omega) (by omega) (by omega) (by omega) (by omega) (by omega) (by omega)).trans n1
      have b0 : ρ 60 0 = (m : Int) := (g3 60 0 (by omega) (by omega) (by omega) (by omega) (by omega) (by omega) (by omega) (by omega)).trans r1
      have b30 : ρ 57 30 = msk (fun s => σ0 (39 + 2 * s) 7) m := (g3 57 30 (by omega) (by omega) (by omega) (by omega) (by omega) (by omega) (by omega) (by omega)).trans R.bits
      dsimp only
      unfold X1_goBy_l49 X1_goBy_j83 X12_goesBy_l29 X12_goesBy_j50
      by_cases c : k = m
      · subst c
        exact wp_ckI S a0 (isSea_S hS) (wp_ifT (by rw [a5]; exact Int.le_refl _) (wp_some (wp_bind (wp_surfers (wp_ifT (by rw [b0]; exact Int.le_refl _) (wp_some (Or.inr ⟨_, _, rfl, rfl, G⟩)))))))
      · have hk' : k < m := by omega
        have a34 : σ 34 k = ((39 + 2 * k : Nat) : Int) := (g1 34 k (by omega) (by omega) (by omega) (by omega) (by omega) (by omega) (by omega)).trans (hC k (by omega)).1
        have a7 : σ (39 + 2 * k) 7 = σ0 (39 + 2 * k) 7 := g1 _ 7 (by omega) (by omega) (by omega) (by omega) (by omega) (by omega) (by omega)
        have hT : X12_hasTaken 1000 (k : Int) ρ = some (σ0 (39 + 2 * k) 7) := taken_ok b30 n5 hk' hon
        rcases hon k hk' with o | o
        · refine wp_ckI S a0 (isSea_S hS) (wp_ifF (by rw [a5, w32i (by omega), w32i (by omega)]; omega) (wp_rdn (by omega) (by omega) (wp_ckI (39 + 2 * k) a34 (isSw_s (by omega)) (wp_bind (wp_ifT (by rw [a7, o]; rfl) (wp_some (wp_lt (wp_some ?_))))))))
          refine wp_bind (wp_surfers (wp_ifF (by rw [b0, w32i (by omega), w32i (by omega)]; omega) (wp_bind (wp_of hT (wp_bind (wp_ifT (by rw [o]; rfl) (wp_some (wp_lt (wp_some ?_)))))))))
          exact Or.inl ⟨_, _, rfl, rfl, hk', by simp only []; omega, by simp only []; omega, G.no R hk' hw o⟩
        · obtain ⟨σ', ρ', u1, u2, G2⟩ := Gb.yes R I hk' hw D F h80 o G
          refine wp_ckI S a0 (isSea_S hS) (wp_ifF (by rw [a5, w32i (by omega), w32i (by omega)]; omega) (wp_rdn (by omega) (by omega) (wp_ckI (39 + 2 * k) a34 (isSw_s (by omega)) (wp_bind (wp_ifF (by rw [a7, o]; decide) (wp_rdn (by omega) (by omega) (wp_ckI (39 + 2 * k) a34 (isSw_s (by omega)) (wp_bind (wp_of u1 (wp_some (wp_lt (wp_some ?_))))))))))))
          refine wp_bind (wp_surfers (wp_ifF (by rw [b0, w32i (by omega), w32i (by omega)]; omega) (wp_bind (wp_of hT (wp_bind (wp_ifF (by rw [o]; decide) (wp_bind (wp_of u2 (wp_some (wp_lt (wp_some ?_)))))))))))
          exact Or.inl ⟨_, _, rfl, rfl, hk', by simp only []; omega, by simp only []; omega, G2⟩)
    ⟨rfl, rfl, fun _ _ _ _ _ _ _ _ _ => rfl, fun s hs => absurd hs (by omega), fun _ _ _ _ _ _ _ _ _ _ => rfl, fun _ _ => ⟨rfl, rfl, rfl⟩, fun _ _ => rfl, R.seen, ⟨R.heat.2.2.2.1.2.1, R.heat.2.2.2.1.2.2⟩, by dsimp only; rw [h37.1, h37.2.1, h37.2.2]; rfl, by dsimp only; rw [h37.1]; decide, fun _ _ _ _ => rfl, fun s hs => absurd hs (by omega), fun _ _ => rfl⟩ (by omega) (by omega)
/-- those on the wave leave it -/
theorem leaveWave_ok {σ : SG} {S m : Nat} {mn : Int} {on hi sp ln : Nat → Int} (hS : S = 1 ∨ S = 20) (hU : σ 19 0 = (S : Int)) (n1 : σ S 5 = (m : Int)) (n5 : m ≤ 5) (hC : ∀ s : Nat, s < 5 → σ 34 s = ((39 + 2 * s : Nat) : Int)) (hmn : σ 19 9 = mn)
    (h : ∀ s, s < m → (on s = 0 ∨ on s = 1) ∧ σ (39 + 2 * s) 7 = on s ∧ (σ (39 + 2 * s) 9 = hi s ∧ 0 ≤ hi s ∧ hi s ≤ 20) ∧ (σ (39 + 2 * s) 5 = sp s ∧ 1 ≤ sp s ∧ sp s ≤ 9) ∧ (on s = 1 → σ (39 + 2 * s) 13 = ln s ∧ 1 ≤ ln s ∧ ln s ≤ 20)) :
    ∃ σ', X1_leaveWave 1000 σ = some σ' ∧ (∀ c j, ¬ (39 ≤ c ∧ c < 39 + 2 * m ∧ c % 2 = 1 ∧ (j = 7 ∨ j = 8)) → σ' c j = σ c j) ∧ ∀ s, s < m → σ' (39 + 2 * s) 7 = 0 ∧ σ' (39 + 2 * s) 8 = if on s = 0 then σ (39 + 2 * s) 8 else if hi s < 2 then mn + 1 + mnt (sp s) (ln s) else -1 := by
  have key : wp (X1_leaveWave 1000 σ) (fun σ' => (∀ c j, ¬ (39 ≤ c ∧ c < 39 + 2 * m ∧ c % 2 = 1 ∧ (j = 7 ∨ j = 8)) → σ' c j = σ c j) ∧ ∀ s, s < m → σ' (39 + 2 * s) 7 = 0 ∧ σ' (39 + 2 * s) 8 = if on s = 0 then σ (39 + 2 * s) 8 else if hi s < 2 then mn + 1 + mnt (sp s) (ln s) else -1) := by
    unfold X1_leaveWave X1_leaveWave_e2
    refine wp_bind (wp_loop (fun k (z : Int × SG) => z.1 = (k : Int) ∧ (∀ c j, ¬ (39 ≤ c ∧ c < 39 + 2 * k ∧ c % 2 = 1 ∧ (j = 7 ∨ j = 8)) → z.2 c j = σ c j) ∧ ∀ s, s < k → z.2 (39 + 2 * s) 7 = 0 ∧ z.2 (39 + 2 * s) 8 = if on s = 0 then σ (39 + 2 * s) 8 else if hi s < 2 then mn + 1 + mnt (sp s) (ln s) else -1) m ?_ ⟨rfl, fun _ _ _ => rfl, fun s hs => absurd hs (by omega)⟩ (by omega))
    rintro k ⟨z1, σ1⟩ hk ⟨e1, e2, e3⟩
    obtain rfl : z1 = (k : Int) := e1
    have e2 : ∀ c j, ¬ (39 ≤ c ∧ c < 39 + 2 * k ∧ c % 2 = 1 ∧ (j = 7 ∨ j = 8)) → σ1 c j = σ c j := e2
    have e3 : ∀ s, s < k → σ1 (39 + 2 * s) 7 = 0 ∧ σ1 (39 + 2 * s) 8 = if on s = 0 then σ (39 + 2 * s) 8 else if hi s < 2 then mn + 1 + mnt (sp s) (ln s) else -1 := e3
    have a0 : σ1 19 0 = (S : Int) := (e2 19 0 (by omega)).trans hU
    have a5 : σ1 S 5 = (m : Int) := (e2 S 5 (by omega)).trans n1
    dsimp only
    unfold X1_leaveWave_l2 X1_leaveWave_j62 X1_leaveWave_j59
    by_cases c : k = m
    · subst c
      exact wp_ckI S a0 (isSea_S hS) (wp_ifT (by rw [a5]; exact Int.le_refl _) (wp_some (Or.inr ⟨_, rfl, wp_some ⟨e2, e3⟩⟩)))
    · have hk' : k < m := by omega
      have a34 : σ1 34 k = ((39 + 2 * k : Nat) : Int) := (e2 34 k (by omega)).trans (hC k (by omega))
      obtain ⟨o, h7, ⟨h9, h91, h92⟩, ⟨h5, h51, h52⟩, hl⟩ := h k hk'
      have a7 : σ1 (39 + 2 * k) 7 = on k := (e2 _ 7 (by omega)).trans h7
      refine wp_ckI S a0 (isSea_S hS) (wp_ifF (by rw [a5, w32i (by omega), w32i (by omega)]; omega) (wp_rdn (by omega) (by omega) (wp_ckI (39 + 2 * k) a34 (isSw_s (by omega)) (wp_bind ?_))))
      rcases o with o | o
      · refine wp_ifT (by rw [a7, o]; rfl) (wp_some (wp_lt (wp_some (Or.inl ⟨_, rfl, by omega, by simp only []; omega, fun c j q0 => e2 c j (by omega), fun s hs => ?_⟩))))
        by_cases d : s = k
        · subst d
          exact ⟨a7.trans o, by rw [if_pos o]; exact e2 _ 8 (by omega)⟩
        · exact e3 s (by omega)
      · obtain ⟨l1, l2, l3⟩ := hl o
        have b9 : up σ1 (39 + 2 * k) 7 0 (39 + 2 * k) 9 = hi k := by
          rw [up_ne (by omega)]
          exact (e2 _ 9 (by omega)).trans h9
        have b5 : up σ1 (39 + 2 * k) 7 0 (39 + 2 * k) 5 = sp k := by
          rw [up_ne (by omega)]
          exact (e2 _ 5 (by omega)).trans h5
        have b13 : up σ1 (39 + 2 * k) 7 0 (39 + 2 * k) 13 = ln k := by
          rw [up_ne (by omega)]
          exact (e2 _ 13 (by omega)).trans l1
        have bmn : up σ1 (39 + 2 * k) 7 0 19 9 = mn := by
          rw [up_ne (by omega)]
          exact (e2 19 9 (by omega)).trans hmn
        have fin : ∀ y : Int, y = (if hi k < 2 then mn + 1 + mnt (sp k) (ln k) else -1) → wp (lt (up (up σ1 (39 + 2 * k) 7 0) (39 + 2 * k) 8 y) fun σ16 => some σ16 : Option SG) (fun s => wp (lt ((k : Int) + 1) fun x10 => (some (.inl (x10, s)) : Option ((Int × SG) ⊕ SG))) (fun y => (∃ a' : Int × SG, y = .inl a' ∧ k < m ∧ a'.1 = ((k + 1 : Nat) : Int) ∧ (∀ c j, ¬ (39 ≤ c ∧ c < 39 + 2 * (k + 1) ∧ c % 2 = 1 ∧ (j = 7 ∨ j = 8)) → a'.2 c j = σ c j) ∧ ∀ s, s < k + 1 → a'.2 (39 + 2 * s) 7 = 0 ∧ a'.2 (39 + 2 * s) 8 = if on s = 0 then σ (39 + 2 * s) 8 else if hi s < 2 then mn + 1 + mnt (sp s) (ln s) else -1) ∨ ∃ b : SG, y = .inr b ∧ wp (some b) (fun σ' => (∀ c j, ¬ (39 ≤ c ∧ c < 39 + 2 * m ∧ c % 2 = 1 ∧ (j = 7 ∨ j = 8)) → σ' c j = σ c j) ∧ ∀ s, s < m → σ' (39 + 2 * s) 7 = 0 ∧ σ' (39 + 2 * s) 8 = if on s = 0 then σ (39 + 2 * s) 8 else if hi s < 2 then mn + 1 + mnt (sp s) (ln s) else -1))) := by
          rintro y rfl
          refine wp_lt (wp_some (wp_lt (wp_some (Or.inl ⟨_, rfl, hk', by simp only []; omega, fun c j q0 => ?_, fun s hs => ?_⟩))))
          · dsimp only
            rw [up_ne (by omega), up_ne (by omega)]
            exact e2 c j (by omega)
          · dsimp only
            by_cases d : s = k
            · subst d
              rw [up_ne (by omega), up_eq rfl rfl, up_eq rfl rfl, if_neg (show ¬ on s = 0 by omega)]
              exact ⟨rfl, rfl⟩
            · rw [up_ne (by omega), up_ne (by omega), up_ne (by omega), up_ne (by omega)]
              exact e3 s (by omega)
        refine wp_ifF (by rw [a7, o]; decide) (wp_lt (wp_bind (wp_of (sent_ok b9 ⟨h91, h92⟩) (wp_bind ?_))))
        by_cases d : hi k < 2
        · rw [if_pos d]
          refine wp_ifT rfl (wp_bind ?_)
          rw [b13]
          refine wp_of (minutes_ok b5 ⟨h51, h52⟩ (by omega)) (wp_some ?_)
          rw [bmn]
          exact fin _ (by rw [if_pos d])
        · rw [if_neg d]
          exact wp_ifF (by decide) (wp_some (fin _ (by rw [if_neg d])))
  obtain ⟨σ', e, h⟩ := key
  exact ⟨σ', e, h⟩
theorem mnt_20 {sp p : Int} (hs : 1 ≤ sp ∧ sp ≤ 9) (hp : 0 ≤ p ∧ p ≤ 20) : 0 ≤ mnt sp p ∧ mnt sp p ≤ 28 := by
  unfold mnt
  rw [Int.tdiv_eq_ediv_of_nonneg (by omega)]
  refine ⟨Int.ediv_nonneg (by omega) (by omega), Int.le_trans (Int.ediv_le_self _ (by omega)) (by omega)⟩
/-- behind it, the relation -/
theorem goBy_fin {σ1 ρ1 σ2 ρ2 σ' ρ' : SG} {S J m q w : Nat} (R : Rl σ1 ρ1 S J m q) (hw : σ1 19 13 = (w : Int)) (G : Gb σ1 ρ1 J w m σ2 ρ2) (h37 : σ1 37 (4 * w) = msk (fun s => σ1 (39 + 2 * s) 7) m)
    (fσ : ∀ c j, ¬ (39 ≤ c ∧ c < 39 + 2 * m ∧ c % 2 = 1 ∧ (j = 7 ∨ j = 8)) → c ≠ 36 → ¬ (c = 35 ∧ (j = 1 ∨ j = 2)) → ¬ (c = 19 ∧ j = 13) → σ' c j = σ2 c j) (fρ : ∀ c j, c ≠ 76 → ¬ (c = 57 ∧ (j = 34 ∨ j = 36 ∨ j = 30 ∨ j = 27)) → ρ' c j = ρ2 c j)
    (a78 : ∀ s, s < m → σ' (39 + 2 * s) 7 = 0 ∧ σ' (39 + 2 * s) 8 = if σ1 (39 + 2 * s) 7 = 0 then σ2 (39 + 2 * s) 8 else if σ2 (39 + 2 * s) 9 < 2 then σ1 19 9 + 1 + mnt (σ1 (39 + 2 * s) 5) (σ1 (39 + 2 * s) 13) else -1)
    (hr : IRow σ' ρ' m) (h13 : σ' 19 13 = -1) (h27 : ρ' 57 27 = -1) (h30 : ρ' 57 30 = 0) : Rl σ' ρ' S J m q := by
  obtain ⟨g1, g2, g3, g4, g5, g6, g7, g8, g9, g10, g11, g12⟩ := G
  have n5 := R.num.2.1
  have n6 := R.num.2.2.1
  obtain ⟨hS, hJ, hU, hUJ, -, -, hC⟩ := R.use
  have hon : ∀ s, s < m → σ1 (39 + 2 * s) 7 = 0 ∨ σ1 (39 + 2 * s) 7 = 1 := fun s hs => (R.sw hs).2.2.2.2.2.1.2.2.1
  have b19 : ∀ j, j ≠ 13 → ¬ (6 ≤ j ∧ j ≤ 8) → σ' 19 j = σ1 19 j := fun j h1 h2 => (fσ 19 j (by omega) (by omega) (by omega) (by omega)).trans (g1 19 j (by omega) (by omega) (by omega) (by omega) (by omega) (by omega) (by omega))
  have b57 : ∀ j, j ≠ 34 → j ≠ 36 → j ≠ 30 → j ≠ 27 → j ≠ 23 → j ≠ 31 → j ≠ 32 → j ≠ 33 → ρ' 57 j = ρ1 57 j := fun j h1 h2 h3 h4 h5 h6 h7 h8 => (fρ 57 j (by omega) (by omega)).trans (g3 57 j (by omega) (by omega) (by omega) (by omega) (by omega) (by omega) (by omega) (by omega))
  have bS : ∀ i, i < 6 → ∀ j, σ' (S + i) j = σ1 (S + i) j := fun i hi j => (fσ _ j (by omega) (by omega) (by omega) (by omega)).trans (g1 _ j (by omega) (by omega) (by omega) (by omega) (by omega) (by omega) (by omega))
  have bsw : ∀ s, s < m → ∀ j, j ≠ 2 → j ≠ 7 → j ≠ 8 → j ≠ 9 → j ≠ 10 → j ≠ 11 → σ' (39 + 2 * s) j = σ1 (39 + 2 * s) j := fun s hs j h1 h2 h3 h4 h5 h6 => (fσ _ j (by omega) (by omega) (by omega) (by omega)).trans (g2 s hs j h1 h4 h5 h6)
  have bs2 : ∀ s, s < m → ∀ j, j ≠ 7 → j ≠ 8 → σ' (39 + 2 * s) j = σ2 (39 + 2 * s) j := fun s hs j h1 h2 => fσ _ j (by omega) (by omega) (by omega) (by omega)
  have br2 : ∀ s, σ' (40 + 2 * s) = σ2 (40 + 2 * s) := fun s => funext fun j => fσ _ j (by omega) (by omega) (by omega) (by omega)
  have bρ : ∀ a, a ≠ 76 → a ≠ 57 → ρ' a = ρ2 a := fun a h1 h2 => funext fun j => fρ a j h1 (by omega)
  have z2 := R.heat
  have etk : ∀ v : Int, tkA σ' v m = tkA σ2 v m := fun v => tkA_cg (fun s hs => ⟨br2 s, bs2 s hs 2 (by omega) (by omega)⟩)
  refine R.upd (fun c j h1 h2 h3 h4 h5 => ?_) (fun c j h => ?_) ?_ hr ?_ (fun s hs => ?_) (fun s hs => ?_) ?_ ?_
  · rw [fσ c j (by omega) (by omega) (by omega) (by omega)]
    by_cases d : 39 ≤ c ∧ c < 39 + 2 * m
    · obtain ⟨t, rfl⟩ : ∃ t, c = 39 + 2 * t := ⟨(c - 39) / 2, by omega⟩
      exact g2 t (by omega) j (by omega) (by omega) (by omega) (by omega)
    · exact g1 c j d (by omega) (by omega) (by omega) (by omega) (by omega) (by omega)
  · rw [fρ c j (by omega) (by omega)]
    exact g3 c j (by omega) (by omega) (by omega) (by omega) (by omega) (by omega) (by omega) (by omega)
  · obtain ⟨⟨x1, x2, x3⟩, ⟨y1, y2, y3⟩, ⟨w1, w2, w3, w4, w5⟩, ⟨u1, u2, u3⟩, ⟨t1, t2⟩, ⟨v1, v2⟩, hm⟩ := z2
    unfold IHeat
    rw [b19 9 (by omega) (by omega), b19 10 (by omega) (by omega), b19 11 (by omega) (by omega), b19 12 (by omega) (by omega), b19 14 (by omega) (by omega), b19 15 (by omega) (by omega), h13, h27, b57 25 (by omega) (by omega) (by omega) (by omega) (by omega) (by omega) (by omega) (by omega), b57 26 (by omega) (by omega) (by omega) (by omega) (by omega) (by omega) (by omega) (by omega), b57 28 (by omega) (by omega) (by omega) (by omega) (by omega) (by omega) (by omega) (by omega), b57 29 (by omega) (by omega) (by omega) (by omega) (by omega) (by omega) (by omega) (by omega), b57 35 (by omega) (by omega) (by omega) (by omega) (by omega) (by omega) (by omega) (by omega), b57 37 (by omega) (by omega) (by omega) (by omega) (by omega) (by omega) (by omega) (by omega)]
    refine ⟨⟨x1, x2, x3⟩, ⟨y1, y2, y3⟩, ⟨rfl, w2, w3, w4, Or.inl rfl⟩, ⟨u1, ?_, ?_⟩, ⟨t1, by omega⟩, ⟨v1, v2⟩, fun w' hw' hw2 => by rw [bS 5 (by omega)]; exact hm w' hw' hw2⟩
    · rw [fσ 19 7 (by omega) (by omega) (by omega) (by omega), fρ 57 31 (by omega) (by omega)]
      exact g7.1
    · rw [fσ 19 8 (by omega) (by omega) (by omega) (by omega), fρ 57 32 (by omega) (by omega)]
      exact g7.2
  · exact g6.cg (fσ 19 6 (by omega) (by omega) (by omega) (by omega)) (funext fun j => fσ 38 j (by omega) (by omega) (by omega) (by omega)) (fρ 57 33 (by omega) (by omega)) (bρ 77 (by omega) (by omega))
  · obtain ⟨⟨p1, p2, p3⟩, ⟨q1, q2, q3⟩, ⟨b1, b2, b3⟩, ⟨h1', h2', h3'⟩, ⟨c1', c2', c3', c4'⟩, ⟨o1, o2, o3, o4⟩, o5, o6, o7⟩ := R.sw hs
    obtain ⟨-, ⟨k1, k2, k3⟩, ⟨k4, k5, k6⟩, k7, k8⟩ := g11 s hs
    obtain ⟨a7, a8⟩ := a78 s hs
    obtain ⟨s1, s2, s3, s4⟩ := R.sp hs
    have hmn := R.heat.1
    have e12 : σ2 19 12 = σ1 19 12 := g1 19 12 (by omega) (by omega) (by omega) (by omega) (by omega) (by omega) (by omega)
    have e8 : σ2 (39 + 2 * s) 8 = σ1 (39 + 2 * s) 8 := g2 s hs 8 (by omega) (by omega) (by omega) (by omega)
    have r70 : ρ' 70 s = σ' (39 + 2 * s) 8 ∧ -1 ≤ σ' (39 + 2 * s) 8 ∧ σ' (39 + 2 * s) 8 ≤ 200 ∧ (σ' (39 + 2 * s) 6 = 1 → σ' (39 + 2 * s) 8 = -1 ∧ σ' (39 + 2 * s) 9 < 2) ∧ (σ' (39 + 2 * s) 8 ≠ -1 → σ' (39 + 2 * s) 9 < 2) := by
      rw [bρ 70 (by omega) (by omega), a8, bsw s hs 6 (by omega) (by omega) (by omega) (by omega) (by omega) (by omega), bs2 s hs 9 (by omega) (by omega)]
      rcases hon s hs with o | o
      · obtain ⟨k71, k72⟩ := k7 o
        rw [if_pos o, k71, k72, e8]
        exact ⟨b1, b2, b3, o6, o7⟩
      · have hmt := mnt_20 (sp := σ1 (39 + 2 * s) 5) (p := σ1 (39 + 2 * s) 13) (by omega) (by have := o5 o; omega)
        rw [if_neg (by omega), k8 o]
        refine ⟨rfl, ?_, ?_, fun q0 => absurd ((o5 o).1.symm.trans q0) (by decide), ?_⟩
        · split <;> omega
        · split <;> omega
        · split
          · intro _; assumption
          · intro q0; exact absurd rfl q0
    obtain ⟨r1, r2, r3, r4, r5⟩ := r70
    unfold ISw
    rw [bρ 71 (by omega) (by omega), bρ 72 (by omega) (by omega), bs2 s hs 2 (by omega) (by omega), b19 12 (by omega) (by omega), h13, a7, bsw s hs 3 (by omega) (by omega) (by omega) (by omega) (by omega) (by omega), bsw s hs 4 (by omega) (by omega) (by omega) (by omega) (by omega) (by omega), bsw s hs 5 (by omega) (by omega) (by omega) (by omega) (by omega) (by omega), bS 4 (by omega)] at *
    rw [bs2 s hs 9 (by omega) (by omega)] at *
    rw [bsw s hs 6 (by omega) (by omega) (by omega) (by omega) (by omega) (by omega)] at *
    have f68 : ∀ a, a = 68 ∨ a = 69 ∨ a = 78 → ρ' a s = ρ1 a s := fun a ha => (fρ a s (by omega) (by omega)).trans (g3 a s (by omega) (by omega) (by omega) (by omega) (by omega) (by omega) (by omega) (by omega))
    rw [f68 68 (by omega), f68 69 (by omega), f68 78 (by omega)]
    exact ⟨⟨p1, p2, p3⟩, ⟨q1, q2, q3⟩, ⟨r1, r2, r3⟩, ⟨k1, k2, k3⟩, ⟨k4, k5, by omega, fun q0 => absurd rfl q0⟩, ⟨o1, o2, Or.inl rfl, o4⟩, fun q0 => absurd q0 (by decide), r4, r5⟩
  · obtain ⟨⟨i1, i2⟩, -⟩ := g11 s hs
    have e12 : σ2 19 12 = σ1 19 12 := g1 19 12 (by omega) (by omega) (by omega) (by omega) (by omega) (by omega) (by omega)
    unfold IRid
    rw [bs2 s hs 2 (by omega) (by omega), bs2 s hs 10 (by omega) (by omega), bs2 s hs 11 (by omega) (by omega), br2 s, b19 12 (by omega) (by omega), h13, bρ 79 (by omega) (by omega)]
    refine ⟨fun i hi => ?_, i2⟩
    obtain ⟨a1, a2, a3, a4, a5, a6⟩ := i1 i hi
    exact ⟨a1, a2, a3, a4, by omega, by omega, a6⟩
  · rw [h30]
    exact ((msk_0 (fun s hs => Or.inl (a78 s hs).1)).mpr (fun s hs => (a78 s hs).1)).symm
  · intro v hv1 hv2
    rw [etk]
    have e37 : ∀ j, σ' 37 j = σ2 37 j := fun j => fσ 37 j (by omega) (by omega) (by omega) (by omega)
    rw [b19 12 (by omega) (by omega)] at hv1
    rw [e37, e37, e37, e37]
    by_cases c : v = w
    · subst c
      rw [← g8, g10 (4 * v) (by omega) (by omega) (by omega), h37]
    · rw [g12 v (by omega), g10 (4 * v) (by omega) (by omega) (by omega), g10 (4 * v + 1) (by omega) (by omega) (by omega), g10 (4 * v + 2) (by omega) (by omega) (by omega), g10 (4 * v + 3) (by omega) (by omega) (by omega)]
      exact R.gone v hv1 (by rw [hw]; omega)
