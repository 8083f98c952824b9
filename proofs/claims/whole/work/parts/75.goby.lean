/-! ===== the wave goes by ===== -/
/-- whom a surfer on the wave hinders -/
def hv (m : Nat) (told peak : Int) (L : List Int) (pl on wy ln : Nat → Int) (s : Nat) : Int := if on s = 0 then 0 else msk (hnd1 told peak L pl on wy ln s (wy s) (ln s)) m
theorem hnow_ok {ρ : SG} {m w s n : Nat} {told peak : Int} {L : List Int} {pl on wy ln : Nat → Int} (D : HD m w told peak L pl on wy ln) (F : HR ρ m w told peak L pl on wy ln) (hs : s < m) (hn : 10 < n) : X12_hindersNow n (s : Int) ρ = some (hv m told peak L pl on wy ln s) := by
  have D' := D
  have F' := F
  obtain ⟨d1, d2, d3, d4, d5, d6, d7, d8⟩ := D
  obtain ⟨f1, f2, f3, f4, f5, f6, f7, f8⟩ := F
  refine of_wp ?_
  unfold X12_hindersNow
  refine wp_ifF (by rw [f2, w32i (by omega)]; omega) (wp_bind (wp_of (taken_ok f7 d1 hs (fun s hs => (d8 s hs).2.1)) ?_))
  rcases (d8 s hs).2.1 with o | o
  · rw [show hv m told peak L pl on wy ln s = 0 from if_pos o]
    exact wp_ifT (by rw [o]; rfl) (wp_some rfl)
  · rw [show hv m told peak L pl on wy ln s = msk (hnd1 told peak L pl on wy ln s (wy s) (ln s)) m from if_neg (by rw [o]; decide)]
    obtain ⟨y1, y2⟩ := (d8 s hs).2.2 o
    obtain ⟨q1, q2⟩ := (f8 s hs).2 o
    refine wp_ifF (by rw [o]; decide) (wp_rdn (by omega) (by omega) (wp_rdn (by omega) (by omega) (wp_bind ?_)))
    rw [q1, q2]
    exact wp_of (hindR_ok D' F' hs y1 y2 hn) (wp_some rfl)
theorem whom_ok {ρ : SG} {m w n : Nat} {told peak : Int} {L : List Int} {pl on wy ln : Nat → Int} (D : HD m w told peak L pl on wy ln) (F : HR ρ m w told peak L pl on wy ln) (hn : 10 < n) :
    ∃ ρ', iter n (fun s : Int × SG => X12_goesBy_l2 n s.1 s.2) (0, ρ) = some ρ' ∧ (∀ s, s < m → ρ' 80 s = hv m told peak L pl on wy ln s) ∧ ∀ c, c ≠ 80 → ρ' c = ρ c := by
  have key : wp (iter n (fun s : Int × SG => X12_goesBy_l2 n s.1 s.2) (0, ρ)) (fun ρ' => (∀ s, s < m → ρ' 80 s = hv m told peak L pl on wy ln s) ∧ ∀ c, c ≠ 80 → ρ' c = ρ c) := by
    have d1 := D.1
    refine wp_loop (fun k (z : Int × SG) => z.1 = (k : Int) ∧ (∀ s, s < k → z.2 80 s = hv m told peak L pl on wy ln s) ∧ ∀ c, c ≠ 80 → z.2 c = ρ c) m ?_ ⟨rfl, fun s hs => absurd hs (by omega), fun _ _ => rfl⟩ (by omega)
    rintro k ⟨z1, ρ1⟩ hk ⟨e1, e2, e3⟩
    obtain rfl : z1 = (k : Int) := e1
    have e2 : ∀ s, s < k → ρ1 80 s = hv m told peak L pl on wy ln s := e2
    have e3 : ∀ c, c ≠ 80 → ρ1 c = ρ c := e3
    have F1 : HR ρ1 m w told peak L pl on wy ln := by
      unfold HR at *
      rw [e3 60 (by decide), e3 57 (by decide), e3 76 (by decide), e3 68 (by decide), e3 73 (by decide), e3 74 (by decide)]
      exact F
    dsimp only
    unfold X12_goesBy_l2
    refine wp_bind (wp_surfers ?_)
    rw [F1.1]
    by_cases c : k = m
    · subst c
      exact wp_ifT (Int.le_refl _) (wp_some (Or.inr ⟨_, rfl, e2, e3⟩))
    · refine wp_ifF (by rw [w32i (by omega), w32i (by omega)]; omega) (wp_bind (wp_of (hnow_ok D F1 (show k < m by omega) hn) (wp_rdn (by omega) (by omega) (wp_lt (wp_lt (wp_some (Or.inl ⟨_, rfl, by omega, by simp only []; omega, fun s hs => ?_, fun c hc => ?_⟩)))))))
      · dsimp only
        by_cases q : s = k
        · subst q
          exact up_eq rfl rfl
        · rw [up_ne (by omega)]
          exact e2 s (by omega)
      · dsimp only
        rw [up_rw hc]
        exact e3 c hc
  obtain ⟨ρ', e, h⟩ := key
  exact ⟨ρ', e, h⟩
/-- no ride of that wave -/
theorem tkR_no {f : Nat → Int} {w : Int} {s : Nat} {a : Int × Int × Int × Int} : ∀ {c : Nat}, (∀ i, i < c → f (7 * i + 1) ≠ w) → tkR f w s a c = a
  | 0, _ => rfl
  | c + 1, h => by rw [tkR_s, if_neg (h c (Nat.lt_succ_self c)), tkR_no (fun i hi => h i (Nat.lt_succ_of_lt hi))]
