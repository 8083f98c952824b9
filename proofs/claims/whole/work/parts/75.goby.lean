/-! ===== the wave goes by ===== -/
/-- whom a surfer on the wave hinders -/
def hv (m : Nat) (told peak : Int) (L : List Int) (pl on wy ln : Nat → Int) (s : Nat) : Int := if on s = 0 then 0 else msk (hnd1 told peak L pl on wy ln s (wy s) (ln s)) m
theorem hnow_ok {ρ : SG} {m w s n : Nat} {told peak : Int} {L : List Int} {pl on wy ln : Nat → Int} (D : HD m w told peak L pl on wy ln) (F : HR ρ m w told peak L pl on wy ln) (hs : s < m) (hn : 10 < n) : X12_hindersNow n (s : Int) ρ = some (hv m told peak L pl on wy ln s) := by
  have D' := D
  have F' := F
  obtain ⟨d1, d2, d3, d4, d5, d6, d7, d8⟩ := D
  obtain ⟨f1, f2, f3, f4, f5, f6, f7, f8⟩ := F
  refine of_wp ?_
  unfold X12_hindersNow
  refine wp_ifF (by rw [f2, w32i (by omega)]; omega) (wp_bind (wp_of (taken_ok f7 d1 hs (fun s hs => (d8 s hs).2.1)) ?_))
  rcases (d8 s hs).2.1 with o | o
  · rw [show hv m told peak L pl on wy ln s = 0 from if_pos o]
    exact wp_ifT (by rw [o]; rfl) (wp_some rfl)
  · rw [show hv m told peak L pl on wy ln s = msk (hnd1 told peak L pl on wy ln s (wy s) (ln s)) m from if_neg (by rw [o]; decide)]
    obtain ⟨y1, y2⟩ := (d8 s hs).2.2 o
    obtain ⟨q1, q2⟩ := (f8 s hs).2 o
    refine wp_ifF (by rw [o]; decide) (wp_rdn (by omega) (by omega) (wp_rdn (by omega) (by omega) (wp_bind ?_)))
    rw [q1, q2]
    exact wp_of (hindR_ok D' F' hs y1 y2 hn) (wp_some rfl)
theorem whom_ok {ρ : SG} {m w n : Nat} {told peak : Int} {L : List Int} {pl on wy ln : Nat → Int} (D : HD m w told peak L pl on wy ln) (F : HR ρ m w told peak L pl on wy ln) (hn : 10 < n) :
    ∃ ρ', iter n (fun s : Int × SG => X12_goesBy_l2 n s.1 s.2) (0, ρ) = some ρ' ∧ (∀ s, s < m → ρ' 80 s = hv m told peak L pl on wy ln s) ∧ ∀ c, c ≠ 80 → ρ' c = ρ c := by
  have key : wp (iter n (fun s : Int × SG => X12_goesBy_l2 n s.1 s.2) (0, ρ)) (fun ρ' => (∀ s, s < m → ρ' 80 s = hv m told peak L pl on wy ln s) ∧ ∀ c, c ≠ 80 → ρ' c = ρ c) := by
    have d1 := D.1
    refine wp_loop (fun k (z : Int × SG) => z.1 = (k : Int) ∧ (∀ s, s < k → z.2 80 s = hv m told peak L pl on wy ln s) ∧ ∀ c, c ≠ 80 → z.2 c = ρ c) m ?_ ⟨rfl, fun s hs => absurd hs (by omega), fun _ _ => rfl⟩ (by omega)
    rintro k ⟨z1, ρ1⟩ hk ⟨e1, e2, e3⟩
    obtain rfl : z1 = (k : Int) := e1
    have e2 : ∀ s, s < k → ρ1 80 s = hv m told peak L pl on wy ln s := e2
    have e3 : ∀ c, c ≠ 80 → ρ1 c = ρ c := e3
    have F1 : HR ρ1 m w told peak L pl on wy ln := by
      unfold HR at *
      rw [e3 60 (by decide), e3 57 (by decide), e3 76 (by decide), e3 68 (by decide), e3 73 (by decide), e3 74 (by decide)]
      exact F
    dsimp only
    unfold X12_goesBy_l2
    refine wp_bind (wp_surfers ?_)
    rw [F1.1]
    by_cases c : k = m
    · subst c
      exact wp_ifT (Int.le_refl _) (wp_some (Or.inr ⟨_, rfl, e2, e3⟩))
    · refine wp_ifF (by rw [w32i (by omega), w32i (by omega)]; omega) (wp_bind (wp_of (hnow_ok D F1 (show k < m by omega) hn) (wp_rdn (by omega) (by omega) (wp_lt (wp_lt (wp_some (Or.inl ⟨_, rfl, by omega, by simp only []; omega, fun s hs => ?_, fun c hc => ?_⟩)))))))
      · dsimp only
        by_cases q : s = k
        · subst q
          exact up_eq rfl rfl
        · rw [up_ne (by omega)]
          exact e2 s (by omega)
      · dsimp only
        rw [up_rw hc]
        exact e3 c hc
  obtain ⟨ρ', e, h⟩ := key
  exact ⟨ρ', e, h⟩
/-- no ride of that wave -/
theorem tkR_no {f : Nat → Int} {w : Int} {s : Nat} {a : Int × Int × Int × Int} : ∀ {c : Nat}, (∀ i, i < c → f (7 * i + 1) ≠ w) → tkR f w s a c = a
  | 0, _ => rfl
  | c + 1, h => by rw [tkR_s, if_neg (h c (Nat.lt_succ_self c)), tkR_no (fun i hi => h i (Nat.lt_succ_of_lt hi))]
/-- a surfer's rides while the wave goes by -/
def IRd (σ ρ : SG) (s : Nat) : Prop := (∀ i : Nat, (i : Int) < σ (39 + 2 * s) 2 → (∀ f : Nat, f < 7 → ρ 79 (7 * (20 * s + i) + f) = σ (40 + 2 * s) (7 * i + f)) ∧ 0 ≤ σ (40 + 2 * s) (7 * i) ∧ σ (40 + 2 * s) (7 * i) ≤ 100 ∧ 0 ≤ σ (40 + 2 * s) (7 * i + 1) ∧ σ (40 + 2 * s) (7 * i + 1) < σ 19 12 ∧ (σ (40 + 2 * s) (7 * i + 5) = 0 ∨ σ (40 + 2 * s) (7 * i + 5) = 1)) ∧
  σ (39 + 2 * s) 10 = (bst (σ (40 + 2 * s)) (σ (39 + 2 * s) 2).toNat).1 ∧ σ (39 + 2 * s) 11 = (bst (σ (40 + 2 * s)) (σ (39 + 2 * s) 2).toNat).2 ∧ 0 ≤ σ (39 + 2 * s) 11 ∧ σ (39 + 2 * s) 11 ≤ σ (39 + 2 * s) 10 ∧ σ (39 + 2 * s) 10 ≤ 100
/-- one who was judged, or didn't take the wave -/
def Dj (σ0 ρ0 σ ρ : SG) (s : Nat) : Prop := IRd σ ρ s ∧ (ρ 71 s = σ (39 + 2 * s) 9 ∧ 0 ≤ σ (39 + 2 * s) 9 ∧ σ (39 + 2 * s) 9 ≤ σ (39 + 2 * s) 2) ∧ (ρ 72 s = σ (39 + 2 * s) 2 ∧ 0 ≤ σ (39 + 2 * s) 2 ∧ σ (39 + 2 * s) 2 ≤ σ 19 12) ∧ (σ0 (39 + 2 * s) 7 = 0 → σ (39 + 2 * s) 9 = σ0 (39 + 2 * s) 9 ∧ ρ 70 s = ρ0 70 s) ∧ (σ0 (39 + 2 * s) 7 = 1 → ρ 70 s = if σ (39 + 2 * s) 9 < 2 then σ0 19 9 + 1 + mnt (σ0 (39 + 2 * s) 5) (σ0 (39 + 2 * s) 13) else -1)
theorem Dj.cg {σ0 ρ0 σ ρ σ' ρ' : SG} {s : Nat} (h : Dj σ0 ρ0 σ ρ s) (a : σ' (39 + 2 * s) = σ (39 + 2 * s)) (b : σ' (40 + 2 * s) = σ (40 + 2 * s)) (c : σ' 19 12 = σ 19 12) (d : ρ' 70 s = ρ 70 s ∧ ρ' 71 s = ρ 71 s ∧ ρ' 72 s = ρ 72 s) (e : ∀ j, 140 * s ≤ j → j < 140 * s + 140 → ρ' 79 j = ρ 79 j) (hc : σ (39 + 2 * s) 2 ≤ 20) : Dj σ0 ρ0 σ' ρ' s := by
  unfold Dj IRd at *
  rw [a, b, c, d.1, d.2.1, d.2.2]
  refine ⟨⟨fun i hi => ?_, h.1.2⟩, h.2⟩
  obtain ⟨h1, h2⟩ := h.1.1 i hi
  exact ⟨fun f hf => by rw [e _ (by omega) (by omega)]; exact h1 f hf, h2⟩
/-- the first k are judged -/
def Gb (σ0 ρ0 : SG) (J w : Nat) (k : Nat) (σ ρ : SG) : Prop := (∀ c j, ¬ (39 ≤ c ∧ c < 39 + 2 * k) → c ≠ 37 → c ≠ 38 → ¬ (c = 19 ∧ 6 ≤ j ∧ j ≤ 8) → ¬ (c = J ∧ 9 ≤ j) → c ≠ J + 6 → c ≠ J + 7 → σ c j = σ0 c j) ∧ (∀ s, s < k → ∀ j, j ≠ 2 → j ≠ 9 → j ≠ 10 → j ≠ 11 → σ (39 + 2 * s) j = σ0 (39 + 2 * s) j) ∧
  (∀ c j, c ≠ 66 → c ≠ 67 → c ≠ 70 → c ≠ 71 → c ≠ 72 → c ≠ 77 → c ≠ 79 → ¬ (c = 57 ∧ (j = 23 ∨ j = 31 ∨ j = 32 ∨ j = 33)) → ρ c j = ρ0 c j) ∧ (∀ t, k ≤ t → ρ 70 t = ρ0 70 t ∧ ρ 71 t = ρ0 71 t ∧ ρ 72 t = ρ0 72 t) ∧ (∀ j, 140 * k ≤ j → ρ 79 j = ρ0 79 j) ∧ ISeen σ ρ ∧ (ρ 57 31 = σ 19 7 ∧ ρ 57 32 = σ 19 8) ∧
  (msk (fun s => σ0 (39 + 2 * s) 7) k, σ 37 (4 * w + 1), σ 37 (4 * w + 2), σ 37 (4 * w + 3)) = tkA σ w k ∧ (-1 ≤ σ 37 (4 * w + 1) ∧ σ 37 (4 * w + 1) ≤ 100) ∧ (∀ j, j ≠ 4 * w + 1 → j ≠ 4 * w + 2 → j ≠ 4 * w + 3 → σ 37 j = σ0 37 j) ∧ (∀ s, s < k → Dj σ0 ρ0 σ ρ s) ∧ ∀ v : Int, v ≠ (w : Int) → tkA σ v k = tkA σ0 v k
/-- who did not take the wave -/
theorem Gb.no {σ0 ρ0 σ ρ : SG} {S J m q w k : Nat} (R : Rl σ0 ρ0 S J m q) (hk : k < m) (hw : σ0 19 13 = (w : Int)) (ho : σ0 (39 + 2 * k) 7 = 0) (G : Gb σ0 ρ0 J w k σ ρ) : Gb σ0 ρ0 J w (k + 1) σ ρ := by
  obtain ⟨g1, g2, g3, g4, g5, g6, g7, g8, g9, g10, g11, g12⟩ := G
  have n5 := R.num.2.1
  obtain ⟨hS, hJ, -⟩ := R.use
  have e1 : σ (39 + 2 * k) = σ0 (39 + 2 * k) := funext fun j => g1 _ j (by omega) (by omega) (by omega) (by omega) (by omega) (by omega) (by omega)
  have e2 : σ (40 + 2 * k) = σ0 (40 + 2 * k) := funext fun j => g1 _ j (by omega) (by omega) (by omega) (by omega) (by omega) (by omega) (by omega)
  have e3 : σ 19 12 = σ0 19 12 := g1 19 12 (by omega) (by omega) (by omega) (by omega) (by omega) (by omega) (by omega)
  obtain ⟨c, d1, d2, d3, d4⟩ := R.rds hk
  refine ⟨fun a j h => g1 a j (by omega), fun s hs j h1 h2 h3 h4 => ?_, g3, fun t ht => g4 t (by omega), fun j hj => g5 j (by omega), g6, g7, ?_, g9, g10, fun s hs => ?_, fun v hv => by rw [tkA_s, tkA_s, g12 v hv, e1, e2]⟩
  · by_cases c0 : s = k
    · subst c0
      rw [e1]
    · exact g2 s (by omega) j h1 h2 h3 h4
  · rw [tkA_s, ← msk_no (f := fun s => σ0 (39 + 2 * s) 7) ho, e1, e2, d1, Int.toNat_natCast, tkR_no (fun i hi => by rw [← hw]; exact ((R.rid hk).1 i (by omega)).2.2.2.2.2.1)]
    exact g8
  · by_cases c0 : s = k
    · subst c0
      obtain ⟨a1, a2, a3, a4, a5, a6, a7, a8, a9⟩ := R.sw hk
      obtain ⟨b1, b2⟩ := R.rid hk
      unfold Dj IRd
      rw [e1, e2, e3, (g4 s (Nat.le_refl _)).1, (g4 s (Nat.le_refl _)).2.1, (g4 s (Nat.le_refl _)).2.2]
      refine ⟨⟨fun i hi => ?_, b2⟩, a4, ⟨a5.1, a5.2.1, a5.2.2.1⟩, fun _ => ⟨rfl, rfl⟩, fun q0 => absurd (ho.symm.trans q0) (by decide)⟩
      obtain ⟨x1, x2, x3, x4, x5, -, x7⟩ := b1 i hi
      exact ⟨fun f hf => by rw [g5 _ (by omega)]; exact x1 f hf, x2, x3, x4, x5, x7⟩
    · exact g11 s (by omega)
