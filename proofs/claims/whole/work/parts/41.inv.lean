/-! ===== the relation between the class's cells and the reference's ===== -/
/-- a byte, signed -/
def sb (u : Int) : Int := if u < 128 then u else u - 256
def swC (s : Nat) : Nat := 39 + 2 * s
/-- the tape and the fault -/
def ITape (σ : SG) : Prop := 0 ≤ σ 15 1 ∧ σ 15 1 ≤ 400 ∧ σ 57 2 = σ 15 1 ∧ σ 57 8 = σ 0 5 ∧ ∀ j : Nat, (j : Int) < σ 15 1 → 0 ≤ σ 16 j ∧ σ 16 j ≤ 255 ∧ σ 58 j = sb (σ 16 j)
/-- the sea in use, at the cell S -/
def ISeaS (σ : SG) (S s : Nat) : Prop := 1 ≤ σ (S + 2) s ∧ σ (S + 2) s ≤ 6 ∧ (∀ i : Nat, i < 6 → σ 60 (4 + 6 * s + i) = if (i : Int) < σ (S + 2) s then σ (S + 1) (6 * s + i) else 0) ∧ (∀ i : Nat, (i : Int) < σ (S + 2) s → 97 ≤ σ (S + 1) (6 * s + i) ∧ σ (S + 1) (6 * s + i) ≤ 122) ∧
  σ 60 (34 + s) = σ (S + 3) s ∧ 0 ≤ σ (S + 3) s ∧ σ (S + 3) s ≤ 40 ∧ σ 60 (39 + s) = σ (S + 4) s ∧ 1 ≤ σ (S + 4) s ∧ σ (S + 4) s ≤ 9
def ISeaW (σ : SG) (S w : Nat) : Prop := (∀ j : Nat, j < 5 → σ 60 (44 + 5 * w + j) = σ (S + 5) (5 * w + j)) ∧ 1 ≤ σ (S + 5) (5 * w) ∧ σ (S + 5) (5 * w) ≤ 99 ∧ 0 ≤ σ (S + 5) (5 * w + 1) ∧ σ (S + 5) (5 * w + 1) ≤ 40 ∧ 1 ≤ σ (S + 5) (5 * w + 2) ∧ σ (S + 5) (5 * w + 2) ≤ 3 ∧
  1 ≤ σ (S + 5) (5 * w + 3) ∧ σ (S + 5) (5 * w + 3) ≤ 9 ∧ 1 ≤ σ (S + 5) (5 * w + 4) ∧ σ (S + 5) (5 * w + 4) ≤ 15 ∧ (0 < w → σ (S + 5) (5 * (w - 1)) ≤ σ (S + 5) (5 * w))
def ISea (σ : SG) (S : Nat) : Prop := (σ 60 0 = σ S 5 ∧ 0 ≤ σ S 5 ∧ σ S 5 ≤ 5 ∧ σ 60 1 = σ S 6 ∧ 0 ≤ σ S 6 ∧ σ S 6 ≤ 20 ∧ σ 60 3 = σ S 8 ∧ 0 ≤ σ S 8 ∧ σ S 8 ≤ 30) ∧
  ((σ 57 11 = 1 ∧ 2 ≤ σ S 5 ∧ σ 60 2 = σ S 7 ∧ 1 ≤ σ S 7 ∧ σ S 7 ≤ 60) ∨ (σ 57 11 = 0 ∧ σ S 5 = 0 ∧ σ S 6 = 0 ∧ σ S 7 = 30)) ∧
  (∀ s : Nat, (s : Int) < σ S 5 → ISeaS σ S s) ∧ (∀ w : Nat, (w : Int) < σ S 6 → ISeaW σ S w)
/-- which sea and which judge are in use -/
def IUse (σ : SG) (S J : Nat) : Prop := ((S = 1 ∧ σ 0 0 = 20) ∨ (S = 20 ∧ σ 0 0 = 1)) ∧ σ 19 0 = (S : Int) ∧ ((J = 7 ∧ σ 0 1 = 26) ∨ (J = 26 ∧ σ 0 1 = 7)) ∧ σ 19 1 = (J : Int)
/-- the heat's numbers -/
def IHeat (σ : SG) (S : Nat) : Prop := (σ 57 25 = σ 19 9 ∧ 0 ≤ σ 19 9 ∧ σ 19 9 ≤ 99) ∧ (σ 57 26 = σ 19 10 ∧ 0 ≤ σ 19 10 ∧ σ 19 10 ≤ 99) ∧ (σ 57 27 = σ 19 13 ∧ σ 57 28 = σ 19 12 ∧ 0 ≤ σ 19 12 ∧ σ 19 12 ≤ σ S 6 ∧ (σ 19 13 = -1 ∨ (0 ≤ σ 19 13 ∧ σ 19 13 = σ 19 12 - 1))) ∧
  (σ 57 29 = σ 19 11 ∧ 0 ≤ σ 19 11 ∧ σ 19 11 ≤ 99) ∧ (σ 57 31 = σ 19 7 ∧ 0 ≤ σ 19 7 ∧ σ 19 7 ≤ 100) ∧ (σ 57 32 = σ 19 8 ∧ 0 ≤ σ 19 8 ∧ σ 19 8 ≤ 100) ∧
  (σ 57 35 = σ 19 14 ∧ (σ 19 14 = 0 ∨ σ 19 14 = 1)) ∧ (σ 57 37 = σ 19 15 ∧ (σ 19 15 = 0 ∨ σ 19 15 = 1))
/-- the row, what was seen -/
def IRow (σ : SG) (S : Nat) : Prop := σ 57 34 = σ 35 1 ∧ 0 ≤ σ 35 1 ∧ σ 35 1 ≤ σ S 5 ∧ σ 57 36 = σ 35 2 ∧ ((σ 35 2 = 0 ∧ σ 35 1 = 0) ∨ σ 35 2 = 1) ∧ ∀ k : Nat, (k : Int) < σ 35 1 → σ 76 k = σ 36 k ∧ 0 ≤ σ 36 k ∧ σ 36 k < σ S 5
def ISeen (σ : SG) : Prop := σ 57 33 = σ 19 6 ∧ 0 ≤ σ 19 6 ∧ σ 19 6 ≤ 6 ∧ ∀ k : Nat, (k : Int) < σ 19 6 → σ 77 k = σ 38 k ∧ 0 ≤ σ 38 k ∧ σ 38 k ≤ 100
/-! reads in the reference: 'in' -/
theorem wp_in {n : Nat} {a b c : Int} {σ : SG} {Q : Int → Prop} (h1 : w32 b ≤ w32 a ∧ w32 a ≤ w32 c → Q 1) (h0 : ¬ (w32 b ≤ w32 a ∧ w32 a ≤ w32 c) → Q 0) : wp (X12_in n a b c σ) Q := by
  unfold X12_in
  refine wp_if (fun q => wp_some (h0 (by omega))) (fun q => wp_if (fun q2 => wp_some (h0 (by omega))) (fun q2 => wp_some (h1 (by omega))))
theorem w32_r {a : Int} (h : rng a) : w32 a = a := w32_id h.1 h.2
theorem nat_of {x : Int} (h : 0 ≤ x) : ∃ k : Nat, x = (k : Int) := ⟨x.toNat, by omega⟩
/-- the fault -/
theorem G_4 {σ : SG} (hT : ITape σ) (a1 a2 a3 a4 a5 : Int) : ST_4 a1 a2 a3 a4 a5 σ (up σ 57 0 0) :=
  ⟨0, 0, σ 0 5, σ 0 5, rfl, by
    show some (up σ 57 0 0 57 8, up σ 57 0 0) = _
    rw [up_j σ 0 (show (8 : Nat) ≠ 0 by decide), hT.2.2.2.1], rfl⟩
theorem G_21 {σ : SG} (hS : ISeen σ) {a1 : Int} (h1 : rng a1) (a2 a3 a4 a5 : Int) : ST_21 a1 a2 a3 a4 a5 σ (up σ 57 0 0) := by
  obtain ⟨e, l, u, hk⟩ := hS
  have hw := w32_r h1
  have hc : w32 (σ 19 6) = σ 19 6 := w32_id (by omega) (by omega)
  by_cases hin : 0 ≤ a1 ∧ a1 < σ 19 6
  · obtain ⟨k, rfl⟩ := nat_of hin.1
    obtain ⟨e1, -, -⟩ := hk k hin.2
    have c1 : wp (X11_seen 0 (k : Int) σ) (fun r => r = σ 38 k) := by
      unfold X11_seen
      refine wp_if (fun q => absurd q (by omega)) (fun _ => wp_if (fun _ => ?_) (fun q => absurd (by omega) q))
      exact wp_rdn (by omega) (by omega) (wp_some rfl)
    have c2 : wp (X12_seen 0 (k : Int) σ) (fun r => r = (σ 38 k, up σ 57 0 0)) := by
      unfold X12_seen
      refine wp_lt (wp_bind (wp_in (fun _ => ?_) (fun q => absurd ?_ q)))
      · refine wp_if (fun q => absurd q (by decide)) (fun _ => wp_rdn (by omega) (by omega) (wp_some ?_))
        rw [up_k σ 0 (show (77 : Nat) ≠ 57 by decide), e1]
      · rw [up_j σ 0 (show (33 : Nat) ≠ 0 by decide), e, w32_id (x := σ 19 6 - 1) (by omega) (by omega), w32_0]
        omega
    obtain ⟨r1, g1, rfl⟩ := c1
    obtain ⟨r2, g2, rfl⟩ := c2
    exact ⟨0, 0, _, _, g1, g2, rfl⟩
  · have c1 : wp (X11_seen 0 a1 σ) (fun r => r = -1) := by
      unfold X11_seen
      exact wp_if (fun _ => wp_some rfl) (fun _ => wp_if (fun q => absurd q (by omega)) (fun _ => wp_some rfl))
    have c2 : wp (X12_seen 0 a1 σ) (fun r => r = (-1, up σ 57 0 0)) := by
      unfold X12_seen
      refine wp_lt (wp_bind (wp_in (fun q => absurd q ?_) (fun _ => ?_)))
      · rw [up_j σ 0 (show (33 : Nat) ≠ 0 by decide), e, w32_id (x := σ 19 6 - 1) (by omega) (by omega), w32_0]
        omega
      · exact wp_if (fun _ => wp_some rfl) (fun q => absurd w32_0 q)
    obtain ⟨r1, g1, rfl⟩ := c1
    obtain ⟨r2, g2, rfl⟩ := c2
    exact ⟨0, 0, _, _, g1, g2, rfl⟩
