/-! ===== the wave goes by: one ride more ===== -/
theorem depJ_cases {k j : Nat} (h : depJ k j = true) : (k = 57 ∧ j = 18) ∨ ((k = 7 ∨ k = 26) ∧ j < 9) ∨ (8 ≤ k ∧ k ≤ 12) ∨ (27 ≤ k ∧ k ≤ 31) ∨ k = 62 ∨ k = 64 := by
  unfold depJ at h
  split at h
  all_goals first | (have := of_decide_eq_true h; omega) | omega | cases h
theorem bst_cg {f g : Nat → Int} : ∀ {c : Nat}, (∀ i, i < c → g (7 * i) = f (7 * i)) → bst g c = bst f c
  | 0, _ => rfl
  | c + 1, h => by rw [bst_s, bst_s, bst_cg (fun i hi => h i (by omega)), h c (by omega)]
theorem tkR_cg {f g : Nat → Int} {w : Int} {s : Nat} {a : Int × Int × Int × Int} : ∀ {c : Nat}, (∀ j, j < 7 * c → g j = f j) → tkR g w s a c = tkR f w s a c
  | 0, _ => rfl
  | c + 1, h => by rw [tkR_s, tkR_s, tkR_cg (fun j hj => h j (by omega)), h (7 * c + 1) (by omega), h (7 * c) (by omega), h (7 * c + 5) (by omega)]
theorem HF.cg {σ σ' : SG} {S m w : Nat} {told peak : Int} {L : List Int} {pl on wy ln : Nat → Int} (F : HF σ S m w told peak L pl on wy ln) (e : ∀ c j, (c = 19 ∧ (j = 0 ∨ j = 13)) ∨ c = S ∨ c = S + 5 ∨ c = 34 ∨ c = 35 ∨ c = 36 → σ' c j = σ c j) (e2 : ∀ s, s < m → ∀ j, j = 0 ∨ j = 3 ∨ j = 7 ∨ j = 12 ∨ j = 13 → σ' (39 + 2 * s) j = σ (39 + 2 * s) j) : HF σ' S m w told peak L pl on wy ln := by
  obtain ⟨f1, f2, f3, f4, f5, f6, f7, f8, f9, f10⟩ := F
  refine ⟨f1, (e 19 0 (by omega)).trans f2, (e S 5 (by omega)).trans f3, (e 19 13 (by omega)).trans f4, (e (S + 5) _ (by omega)).trans f5, fun s hs => (e 34 s (by omega)).trans (f6 s hs), (e 35 2 (by omega)).trans f7, (e 35 1 (by omega)).trans f8, f9.cg (fun k _ => e 36 k (by omega)), fun s hs => ?_⟩
  obtain ⟨h1, h2, h3, h4⟩ := f10 s hs
  rw [e2 s hs 0 (by omega), e2 s hs 3 (by omega), e2 s hs 7 (by omega), e2 s hs 12 (by omega), e2 s hs 13 (by omega)]
  exact ⟨h1, h2, h3, h4⟩
theorem fr_sw {σ σ' : SG} {J s : Nat} (hJ : J = 7 ∨ J = 26) (f1 : ∀ k j, k ≠ 39 + 2 * s → k ≠ 40 + 2 * s → k ≠ 37 → k ≠ 38 → ¬ (k = 19 ∧ 6 ≤ j ∧ j ≤ 8) → ¬ (k = J ∧ 9 ≤ j) → k ≠ J + 6 → k ≠ J + 7 → σ' k j = σ k j) : (∀ t, t ≠ s → σ' (39 + 2 * t) = σ (39 + 2 * t) ∧ σ' (40 + 2 * t) = σ (40 + 2 * t)) ∧ σ' 19 12 = σ 19 12 :=
  ⟨fun t ht => ⟨funext fun j => f1 _ j (by omega) (by omega) (by omega) (by omega) (by omega) (by omega) (by omega) (by omega), funext fun j => f1 _ j (by omega) (by omega) (by omega) (by omega) (by omega) (by omega) (by omega) (by omega)⟩, f1 19 12 (by omega) (by omega) (by omega) (by omega) (by omega) (by omega) (by omega) (by omega)⟩
set_option maxHeartbeats 4000000 in
theorem Gb.yes {σ0 ρ0 σ ρ : SG} {S J m q w k : Nat} {told peak : Int} {L : List Int} (R : Rl σ0 ρ0 S J m q) (I : IJud σ0 ρ0 J) (hk : k < m) (hw : σ0 19 13 = (w : Int)) (D : HD m w told peak L (fun s => σ0 (39 + 2 * s) 3) (fun s => σ0 (39 + 2 * s) 7) (fun s => σ0 (39 + 2 * s) 12) (fun s => σ0 (39 + 2 * s) 13)) (F : HF σ0 S m w told peak L (fun s => σ0 (39 + 2 * s) 3) (fun s => σ0 (39 + 2 * s) 7) (fun s => σ0 (39 + 2 * s) 12) (fun s => σ0 (39 + 2 * s) 13))
    (h80 : ∀ s, s < m → ρ0 80 s = hv m told peak L (fun s => σ0 (39 + 2 * s) 3) (fun s => σ0 (39 + 2 * s) 7) (fun s => σ0 (39 + 2 * s) 12) (fun s => σ0 (39 + 2 * s) 13) s) (ho : σ0 (39 + 2 * k) 7 = 1) (G : Gb σ0 ρ0 J w k σ ρ) : ∃ σ' ρ', X1_judgeRide 1000 (39 + 2 * k) ((w : Int) * 4) σ = some σ' ∧ X12_judges 1000 (k : Int) ρ = some ρ' ∧ Gb σ0 ρ0 J w (k + 1) σ' ρ' := by
  obtain ⟨g1, g2, g3, g4, g5, g6, g7, g8, g9, g10, g11, g12⟩ := G
  have n5 := R.num.2.1
  have n6 := R.num.2.2.1
  obtain ⟨hS, hJ, hU, hUJ, -, -, hC⟩ := R.use
  have e1 : ∀ j, σ (39 + 2 * k) j = σ0 (39 + 2 * k) j := fun j => g1 _ j (by omega) (by omega) (by omega) (by omega) (by omega) (by omega) (by omega)
  have e2 : ∀ j, σ (40 + 2 * k) j = σ0 (40 + 2 * k) j := fun j => g1 _ j (by omega) (by omega) (by omega) (by omega) (by omega) (by omega) (by omega)
  have e3 : ∀ j, ¬ (6 ≤ j ∧ j ≤ 8) → σ 19 j = σ0 19 j := fun j hj => g1 19 j (by omega) (by omega) (by omega) (by omega) (by omega) (by omega) (by omega)
  have eS : ∀ i, i < 6 → ∀ j, σ (S + i) j = σ0 (S + i) j := fun i hi j => g1 _ j (by omega) (by omega) (by omega) (by omega) (by omega) (by omega) (by omega)
  have e60 : ρ 60 = ρ0 60 := funext fun j => g3 60 j (by omega) (by omega) (by omega) (by omega) (by omega) (by omega) (by omega) (by omega)
  obtain ⟨c, d1, d2, d3, d4⟩ := R.rds hk
  obtain ⟨⟨p1, p2, p3⟩, -, ⟨b1, b2, b3⟩, ⟨h1', h2', h3'⟩, ⟨c1', c2', c3', c4'⟩, ⟨o1, o2, o3, o4⟩, o5, o6⟩ := R.sw hk
  obtain ⟨-, o52, -, w1, w2, l1, l2, l3, t1, t2, t3⟩ := o5 ho
  obtain ⟨⟨x1, x2, x3⟩, ⟨y1, y2, y3⟩, ⟨z1, z2, z3, z4, z5⟩, -⟩ := R.heat
  obtain ⟨s1, s2, s3, s4⟩ := R.sp hk
  obtain ⟨ri1, ri2, ri3, ri4, ri5, ri6⟩ := R.rid hk
  rw [d1, Int.toNat_natCast] at ri2 ri3
  have hwq : w < q := by omega
  have hc19 : c ≤ 19 := by omega
  have hon : ∀ s, s < m → (fun s => σ0 (39 + 2 * s) 7) s = 0 ∨ (fun s => σ0 (39 + 2 * s) 7) s = 1 := fun s hs => (D.2.2.2.2.2.2.2 s hs).2.1
  have aσ : AgJ σ0 σ := fun a j d => by
    have := depJ_cases d
    exact g1 a j (by omega) (by omega) (by omega) (by omega) (by omega) (by omega) (by omega)
  have aρ : AgJ ρ0 ρ := fun a j d => by
    have := depJ_cases d
    exact g3 a j (by omega) (by omega) (by omega) (by omega) (by omega) (by omega) (by omega) (by omega)
  have F1 : HF σ S m w told peak L (fun s => σ0 (39 + 2 * s) 3) (fun s => σ0 (39 + 2 * s) 7) (fun s => σ0 (39 + 2 * s) 12) (fun s => σ0 (39 + 2 * s) 13) := by
    refine F.cg (fun a j h => g1 a j (by omega) (by omega) (by omega) (by omega) (by omega) (by omega) (by omega)) (fun s hs j hj => ?_)
    by_cases q0 : s < k
    · exact g2 s q0 j (by omega) (by omega) (by omega) (by omega)
    · exact g1 _ j (by omega) (by omega) (by omega) (by omega) (by omega) (by omega) (by omega)
  have hH := hind_ok (n := 1000) D F1 hk w2 ⟨l2, l3⟩ (by decide)
  have hB := msk_32 D.1 (fun s _ => hnd1_b (told := told) (peak := peak) (L := L) (pl := fun s => σ0 (39 + 2 * s) 3) (on := fun s => σ0 (39 + 2 * s) 7) (wy := fun s => σ0 (39 + 2 * s) 12) (ln := fun s => σ0 (39 + 2 * s) 13) (s := k) (way := σ0 (39 + 2 * k) 12) (len := σ0 (39 + 2 * k) 13) s)
  have h8 : ρ 80 k = msk (hnd1 told peak L (fun s => σ0 (39 + 2 * s) 3) (fun s => σ0 (39 + 2 * s) 7) (fun s => σ0 (39 + 2 * s) 12) (fun s => σ0 (39 + 2 * s) 13) k (σ0 (39 + 2 * k) 12) (σ0 (39 + 2 * k) 13)) m := by
    rw [g3 80 k (by omega) (by omega) (by omega) (by omega) (by omega) (by omega) (by omega) (by omega), h80 k hk]
    exact if_neg (by dsimp only; rw [ho]; decide)
  generalize msk (hnd1 told peak L (fun s => σ0 (39 + 2 * s) 3) (fun s => σ0 (39 + 2 * s) 7) (fun s => σ0 (39 + 2 * s) 12) (fun s => σ0 (39 + 2 * s) 13) k (σ0 (39 + 2 * k) 12) (σ0 (39 + 2 * k) 13)) m = hb at hH hB h8
  have hbst : bst (σ (40 + 2 * k)) c = bst (σ0 (40 + 2 * k)) c := bst_cg (fun i _ => e2 _)
  have P : JP σ ρ S J w k c hb (σ0 (39 + 2 * k) 9) (σ0 (S + 4) k) (σ0 19 9) (σ0 (39 + 2 * k) 3) (σ0 (39 + 2 * k) 13) (σ0 (39 + 2 * k) 14) (σ0 (39 + 2 * k) 12) (σ 37 (4 * w + 1)) (σ0 19 10) (σ0 (39 + 2 * k) 10) (σ0 (39 + 2 * k) 11) := by
    have f57 : ∀ j, j ≠ 23 → j ≠ 31 → j ≠ 32 → j ≠ 33 → ρ 57 j = ρ0 57 j := fun j q1 q2 q3 q4 => g3 57 j (by omega) (by omega) (by omega) (by omega) (by omega) (by omega) (by omega) (by omega)
    have fk : ∀ a, a = 68 ∨ a = 73 ∨ a = 74 ∨ a = 75 → ρ a k = ρ0 a k := fun a ha => g3 a k (by omega) (by omega) (by omega) (by omega) (by omega) (by omega) (by omega) (by omega)
    refine ⟨⟨hS, hJ, (e3 0 (by omega)).trans hU, (e3 1 (by omega)).trans hUJ, by omega, by omega⟩, I.ag hJ aσ aρ, (R.seaW hwq).cg (fun i _ hi => funext (eS i hi)) e60, ⟨hH, hB.1, hB.2, h8, (e1 0).trans (hC k (by omega)).2⟩, ⟨(e3 13 (by omega)).trans hw, (f57 27 (by omega) (by omega) (by omega) (by omega)).trans (z1.trans hw)⟩, ⟨e3 10 (by omega), (f57 26 (by omega) (by omega) (by omega) (by omega)).trans y1, y2, y3⟩, ⟨(e1 2).trans d1, (g4 k (Nat.le_refl _)).2.2.trans d2, hc19⟩, ⟨e1 10, e1 11, by rw [hbst]; exact ri2, by rw [hbst]; exact ri3⟩, fun i hi => ?_, ⟨e1 3, (fk 68 (by omega)).trans p1, p2, p3⟩, ⟨e1 12, (fk 73 (by omega)).trans w1⟩, ⟨e1 13, (fk 74 (by omega)).trans l1, l2, l3⟩, ⟨e1 14, (fk 75 (by omega)).trans t1, t2, t3⟩, ⟨e1 9, (g4 k (Nat.le_refl _)).2.1.trans h1', h2', by omega⟩, g6, g7, ⟨rfl, g9⟩, ⟨by rw [e60]; exact s2, s3, s4⟩, (f57 25 (by omega) (by omega) (by omega) (by omega)).trans x1⟩
    obtain ⟨q1, q2, -⟩ := d4 i hi
    exact ⟨fun f hf => by rw [g5 _ (by omega), e2]; exact q1 f hf, by rw [e2]; exact q2.1, by rw [e2]; exact q2.2⟩
  obtain ⟨sc, hd, σ', ρ', u1, u2, -, Q⟩ := judge1_ok P
  obtain ⟨v1, v2, v3, v4, v5, v6, v7, v8, v9, ⟨q1, q2, q3, q4, q5⟩, ⟨r1, r2, r3, r4⟩, v10, v11, ⟨m1, m2, m3, m4⟩, f1, f2⟩ := Q
  obtain ⟨fsw, f12⟩ := fr_sw hJ f1
  refine ⟨σ', ρ', u1, u2, fun a j i1 i2 i3 i4 i5 i6 i7 => ?_, fun s hs j i1 i2 i3 i4 => ?_, fun a j i1 i2 i3 i4 i5 i6 i7 i8 => ?_, fun t ht => ?_, fun j hj => ?_, v10, v11, ?_, ?_, fun j i1 i2 i3 => ?_, fun s hs => ?_, fun v hv => ?_⟩
  · rw [f1 a j (by omega) (by omega) i2 i3 i4 i5 i6 i7]
    exact g1 a j (by omega) i2 i3 i4 i5 i6 i7
  · by_cases c0 : s = k
    · subst c0
      rw [q5 j i1 i2 i3 i4, e1]
    · rw [(fsw s c0).1]
      exact g2 s (by omega) j i1 i2 i3 i4
  · rw [f2 a j i1 i2 i3 i4 i5 i6 i7 i8]
    exact g3 a j i1 i2 i3 i4 i5 i6 i7 i8
  · obtain ⟨a1, a2, a3⟩ := r4 t (by omega)
    rw [a1, a2, a3]
    exact g4 t (by omega)
  · rw [v9 j (by omega)]
    exact g5 j (by omega)
  · have ek : tkA σ' (w : Int) k = tkA σ (w : Int) k := tkA_cg (fun s hs => ⟨(fsw s (Nat.ne_of_lt hs)).2, by rw [(fsw s (Nat.ne_of_lt hs)).1]⟩)
    have en : tkR (σ' (40 + 2 * k)) (w : Int) k (tkA σ (w : Int) k) c = tkA σ (w : Int) k := tkR_no (fun i hi => by
      rw [v8 _ (by omega), e2, ← hw]
      exact (ri1 i (by omega)).2.2.2.2.2.1)
    rw [tkA_s, q1, show ((c : Int) + 1).toNat = c + 1 by omega, tkR_s, v6, if_pos rfl, ek, en, ← g8, v5, v7, m1, m2, m3]
    dsimp only
    rw [msk_or (by omega) (fun s hs => hon s (by omega)) ho]
  · rw [m1]
    split
    · omega
    · exact g9
  · rw [m4 j i1 i2 i3]
    exact g10 j i1 i2 i3
  · by_cases c0 : s = k
    · subst c0
      have e12 : σ' 19 12 = σ0 19 12 := by
        rw [f12]
        exact e3 12 (by omega)
      have hbs : bst (σ' (40 + 2 * s)) c = bst (σ0 (40 + 2 * s)) c := bst_cg (fun i hi => by rw [v8 _ (by omega), e2])
      have hbt : bst (σ' (40 + 2 * s)) (c + 1) = (max (σ0 (39 + 2 * s) 10) sc, max (σ0 (39 + 2 * s) 11) (min (σ0 (39 + 2 * s) 10) sc)) := by
        rw [bst_s, hbs, v5, ← ri2, ← ri3]
        split
        · refine Prod.ext ?_ ?_ <;> dsimp only <;> omega
        · refine Prod.ext ?_ ?_ <;> dsimp only <;> omega
      unfold Dj IRd
      rw [q1, q2, q3, q4, r1, r2, r3, e12, show ((c : Int) + 1).toNat = c + 1 by omega, hbt]
      refine ⟨⟨fun i hi => ?_, rfl, rfl, by omega, by omega, by omega⟩, ⟨rfl, by omega, by omega⟩, ⟨rfl, by omega, by omega⟩, fun q0 => absurd (ho.symm.trans q0) (by decide), fun _ => by rw [s1]⟩
      by_cases ci : i = c
      · subst ci
        exact ⟨fun f hf => v4 f hf, by rw [v5]; exact v1, by rw [v5]; exact v2, by rw [v6]; omega, by rw [v6]; omega, by rw [v7]; exact v3⟩
      · obtain ⟨a1, a2, a3, a4, a5, -, a7⟩ := ri1 i (by omega)
        rw [v8 (7 * i) (by omega), v8 (7 * i + 1) (by omega), v8 (7 * i + 5) (by omega), e2, e2, e2]
        exact ⟨fun f hf => by rw [v9 _ (by omega), g5 _ (by omega), v8 _ (by omega), e2]; exact a1 f hf, a2, a3, a4, a5, a7⟩
    · have hD := g11 s (by omega)
      obtain ⟨a1, a2, a3⟩ := r4 s c0
      have e12 := e3 12 (by omega)
      refine hD.cg (fsw s c0).1 (fsw s c0).2 f12 ⟨a1, a2, a3⟩ (fun j j1 j2 => v9 j (by omega)) ?_
      have := hD.2.2.1.2.2
      omega
  · have ek : tkA σ' v k = tkA σ v k := tkA_cg (fun s hs => ⟨(fsw s (Nat.ne_of_lt hs)).2, by rw [(fsw s (Nat.ne_of_lt hs)).1]⟩)
    rw [tkA_s, tkA_s, q1, d1, show ((c : Int) + 1).toNat = c + 1 by omega, Int.toNat_natCast, tkR_s, v6, if_neg (fun q0 => hv q0.symm), ek, g12 v hv]
    exact tkR_cg (fun j hj => by rw [v8 j (by omega), e2])
