/-! ===== one ride is judged, on both sides ===== -/
/-- what a ride keeps -/
def val (sc w ln tn wy hd uj : Int) (f : Nat) : Int := if f = 0 then sc else if f = 1 then w else if f = 2 then ln else if f = 3 then tn else if f = 4 then wy else if f = 5 then hd else uj
theorem keepRide_ok {σ : SG} {s c n : Nat} {sc w ln tn wy hd uj f g : Int} (h2 : σ (39 + 2 * s) 2 = (c : Int)) (hc : c ≤ 19) (h12 : σ (39 + 2 * s) 12 = wy) (h13 : σ (39 + 2 * s) 13 = ln) (h14 : σ (39 + 2 * s) 14 = tn) (h10 : σ (39 + 2 * s) 10 = f) (h11 : σ (39 + 2 * s) 11 = g) (hb : 0 ≤ g ∧ g ≤ f ∧ f ≤ 100) (hsc : 0 ≤ sc ∧ sc ≤ 100) (hhd : hd = 0 ∨ hd = 1) :
    ∃ σ', X9_keepRide n (39 + 2 * s) w sc hd uj σ = some σ' ∧ (∀ i, i < 7 → σ' (40 + 2 * s) (7 * c + i) = val sc w ln tn wy hd uj i) ∧ (∀ j, ¬ (7 * c ≤ j ∧ j < 7 * c + 7) → σ' (40 + 2 * s) j = σ (40 + 2 * s) j) ∧ σ' (39 + 2 * s) 2 = (c : Int) + 1 ∧ σ' (39 + 2 * s) 10 = max f sc ∧ σ' (39 + 2 * s) 11 = max g (min f sc) ∧ (∀ j, j ≠ 2 → j ≠ 10 → j ≠ 11 → σ' (39 + 2 * s) j = σ (39 + 2 * s) j) ∧ ∀ k, k ≠ 39 + 2 * s → k ≠ 40 + 2 * s → σ' k = σ k := by
  have e40 : 39 + 2 * s + 1 = 40 + 2 * s := by omega
  have hat : ∀ i : Nat, i < 7 → (σ (39 + 2 * s) 2 * 7 + (i : Int)) = ((7 * c + i : Nat) : Int) := fun i _ => by rw [h2]; omega
  refine ⟨up (up (up (up (up (up (up (up (up (up σ (40 + 2 * s) (7 * c) sc) (40 + 2 * s) (7 * c + 1) w) (40 + 2 * s) (7 * c + 2) ln) (40 + 2 * s) (7 * c + 3) tn) (40 + 2 * s) (7 * c + 4) wy) (40 + 2 * s) (7 * c + 5) hd) (40 + 2 * s) (7 * c + 6) uj) (39 + 2 * s) 2 ((c : Int) + 1)) (39 + 2 * s) 11 (max g (min f sc))) (39 + 2 * s) 10 (max f sc), of_wp ?_, fun i hi => ?_, fun j hj => ?_, ?_, ?_, ?_, fun j h1 h2 h3 => ?_, fun k h1 h2 => ?_⟩
  · unfold X9_keepRide X9_keepRide_j97
    rw [e40]
    have y : ∀ Q : Int → Prop, Q hd → wp (if w32 hd = 0 then some 0 else some 1 : Option Int) Q := fun Q hQ => by
      rcases hhd with rfl | rfl
      · exact wp_ifT rfl (wp_some hQ)
      · exact wp_ifF (by decide) (wp_some hQ)
    refine wp_lt (wp_ifT (by rw [h2, w32i (by omega)]; omega) (wp_rdI (7 * c) (by rw [h2]; omega) (by omega) (by decide) (wp_lt (wp_rdI (7 * c + 1) (by rw [h2]; omega) (by omega) (by decide) (wp_lt ?_)))))
    refine wp_rdI (7 * c + 2) (by rw [h2]; omega) (by omega) (by decide) (wp_lt ?_)
    rw [show (up (up σ (40 + 2 * s) (7 * c) sc) (40 + 2 * s) (7 * c + 1) w) (39 + 2 * s) 13 = ln by (simp (disch := omega) only [up_eq, up_ne, w32i, mx32_m, mn32_m, ab32_m]); exact h13]
    refine wp_rdI (7 * c + 3) (by rw [h2]; omega) (by omega) (by decide) (wp_lt ?_)
    rw [show (up (up (up σ (40 + 2 * s) (7 * c) sc) (40 + 2 * s) (7 * c + 1) w) (40 + 2 * s) (7 * c + 2) ln) (39 + 2 * s) 14 = tn by (simp (disch := omega) only [up_eq, up_ne, w32i, mx32_m, mn32_m, ab32_m]); exact h14]
    refine wp_rdI (7 * c + 4) (by rw [h2]; omega) (by omega) (by decide) (wp_lt (wp_bind (y _ ?_)))
    rw [show (up (up (up (up σ (40 + 2 * s) (7 * c) sc) (40 + 2 * s) (7 * c + 1) w) (40 + 2 * s) (7 * c + 2) ln) (40 + 2 * s) (7 * c + 3) tn) (39 + 2 * s) 12 = wy by (simp (disch := omega) only [up_eq, up_ne, w32i, mx32_m, mn32_m, ab32_m]); exact h12]
    refine wp_rdI (7 * c + 5) (by rw [h2]; omega) (by omega) (by decide) (wp_lt (wp_rdI (7 * c + 6) (by rw [h2]; omega) (by omega) (by decide) (wp_lt (wp_lt (wp_lt (wp_lt (wp_some ?_)))))))
    simp (disch := omega) only [up_eq, up_ne]
    rw [h2, h10, h11, mn32_m (by omega), mx32_m (by omega), mx32_m (by omega)]
  · have : i = 0 ∨ i = 1 ∨ i = 2 ∨ i = 3 ∨ i = 4 ∨ i = 5 ∨ i = 6 := by omega
    rcases this with rfl | rfl | rfl | rfl | rfl | rfl | rfl <;> simp (disch := omega) only [up_eq, up_ne] <;> rfl
  · simp (disch := omega) only [up_ne]
  · (simp (disch := omega) only [up_eq, up_ne, w32i, mx32_m, mn32_m, ab32_m])
  · (simp (disch := omega) only [up_eq, up_ne, w32i, mx32_m, mn32_m, ab32_m])
  · (simp (disch := omega) only [up_eq, up_ne, w32i, mx32_m, mn32_m, ab32_m])
  · simp (disch := omega) only [up_ne]
  · simp (disch := omega) only [up_rw]
/-- what both sides know of the one to be judged, and of the wave -/
def JP (σ ρ : SG) (S J w s c : Nat) (hb h0 sp mn p ln tn wy mo fs f g : Int) : Prop := ((S = 1 ∨ S = 20) ∧ (J = 7 ∨ J = 26) ∧ σ 19 0 = (S : Int) ∧ σ 19 1 = (J : Int) ∧ w < 20 ∧ s < 5) ∧ IJud σ ρ J ∧ ISeaW σ ρ S w ∧ (X1_hinderedBy 1000 (39 + 2 * s) wy ln σ = some hb ∧ 0 ≤ hb ∧ hb < 32 ∧ ρ 80 s = hb ∧ σ (39 + 2 * s) 0 = (s : Int)) ∧ (σ 19 13 = (w : Int) ∧ ρ 57 27 = (w : Int)) ∧ (σ 19 10 = fs ∧ ρ 57 26 = fs ∧ 0 ≤ fs ∧ fs ≤ 99) ∧
  (σ (39 + 2 * s) 2 = (c : Int) ∧ ρ 72 s = (c : Int) ∧ c ≤ 19) ∧ (σ (39 + 2 * s) 10 = f ∧ σ (39 + 2 * s) 11 = g ∧ f = (bst (σ (40 + 2 * s)) c).1 ∧ g = (bst (σ (40 + 2 * s)) c).2) ∧ (∀ i, i < c → (∀ f, f < 7 → ρ 79 (7 * (20 * s + i) + f) = σ (40 + 2 * s) (7 * i + f)) ∧ 0 ≤ σ (40 + 2 * s) (7 * i) ∧ σ (40 + 2 * s) (7 * i) ≤ 100) ∧
  (σ (39 + 2 * s) 3 = p ∧ ρ 68 s = p ∧ 0 ≤ p ∧ p ≤ 40) ∧ (σ (39 + 2 * s) 12 = wy ∧ ρ 73 s = wy) ∧ (σ (39 + 2 * s) 13 = ln ∧ ρ 74 s = ln ∧ 1 ≤ ln ∧ ln ≤ 20) ∧ (σ (39 + 2 * s) 14 = tn ∧ ρ 75 s = tn ∧ 0 ≤ tn ∧ tn ≤ 9) ∧ (σ (39 + 2 * s) 9 = h0 ∧ ρ 71 s = h0 ∧ 0 ≤ h0 ∧ h0 ≤ 19) ∧ ISeen σ ρ ∧ (ρ 57 31 = σ 19 7 ∧ ρ 57 32 = σ 19 8) ∧ (σ 37 (4 * w + 1) = mo ∧ -1 ≤ mo ∧ mo ≤ 100) ∧ (ρ 60 (39 + s) = sp ∧ 1 ≤ sp ∧ sp ≤ 9) ∧ ρ 57 25 = mn
/-- behind the score -/
theorem told_ok {σ ρ : SG} {S J w s c : Nat} {hb h0 sp mn p ln tn wy mo fs f g : Int} (P : JP σ ρ S J w s c hb h0 sp mn p ln tn wy mo fs f g) :
    ∃ (v sc uj : Int) (σ1 ρ1 : SG), ((hb = 0 ∧ X1_scoreOf 1000 (39 + 2 * s) (w : Int) p ln tn σ = some (v, σ1) ∧ X12_scoreBy 1000 (s : Int) (w : Int) p ln tn (up ρ 57 23 0) = some (sc, ρ1)) ∨ (hb ≠ 0 ∧ v = 0 ∧ sc = 0 ∧ uj = 0 ∧ σ1 = σ ∧ ρ1 = up ρ 57 23 0)) ∧ 0 ≤ sc ∧ sc ≤ 100 ∧ ρ1 57 23 = uj ∧ ((uj = 0 ∧ v = sc) ∨ ((uj = 1 ∨ uj = 2) ∧ v = -uj ∧ sc = 0)) ∧ (∀ j, j ≠ 23 → ρ1 57 j = ρ 57 j) ∧ (∀ k, k ≠ 66 → k ≠ 67 → k ≠ 57 → ρ1 k = ρ k) ∧ ∀ k j, ¬ (k = J ∧ 9 ≤ j) → k ≠ J + 6 → k ≠ J + 7 → σ1 k j = σ k j := by
  obtain ⟨⟨hS, hJ, hU, hUJ, hw, hs⟩, I, V, -, -, x10, ⟨c1, c2, c3⟩, ⟨f1, f2, f3, f4⟩, hr, hp, -, hl, ht, -⟩ := P
  obtain ⟨x1, x2, x3, x4⟩ := x10
  have hbb := bst_b (f := σ (40 + 2 * s)) (c := c) (fun i hi => (hr i hi).2)
  by_cases h : hb = 0
  · have hsc := scores_ok (σ := σ) (ρ := up ρ 57 23 0) (s := s) (w := w) (p := p) (its := ln) (tn := tn) (f := fs) (c := (c : Int)) (pm := f) hS hJ hU hUJ (I.ag hJ AgJ.rf (Ag.J (Ag.rf.up rfl))) (V.cg (fun _ _ _ => rfl) (up_rw (by decide))) hw hs ⟨hp.2.2.1, hp.2.2.2⟩ ⟨hl.2.2.1, hl.2.2.2⟩ ⟨ht.2.2.1, ht.2.2.2⟩ ⟨x1, by (simp (disch := omega) only [up_eq, up_ne, w32i, mx32_m, mn32_m, ab32_m]); exact x2, x3, x4⟩ ⟨c1, by (simp (disch := omega) only [up_eq, up_ne, w32i, mx32_m, mn32_m, ab32_m]); exact c2, by omega, by omega⟩ ⟨f1, by omega, by omega, fun ρ' hρ => ⟨(bst (σ (40 + 2 * s)) c).2, fun n a hn => by
      rw [f3]
      refine bestOf_ok hs ?_ (by omega) (fun i hi => ?_) hn
      · rw [hρ 72 s rfl, up_ne (by omega)]
        exact c2
      · rw [hρ 79 _ rfl, up_ne (by omega)]
        exact ⟨(hr i hi).1 0 (by decide), (hr i hi).2⟩⟩⟩
    obtain ⟨v, σ1, u, ρ1, k1, k2, k3, k4, -, -, k7, k8, k9, k10⟩ := hsc
    refine ⟨v, u, ρ1 57 23, σ1, ρ1, Or.inl ⟨h, k1, k2⟩, ?_, ?_, rfl, ?_, fun j hj => by rw [k7 j hj, up_ne (by omega)], fun k h1 h2 h3 => by rw [k8 k h1 h2 h3, up_rw h3], fun k j h1 h2 h3 => ?_⟩
    · rcases k10 with ⟨-, e, h1, h2⟩ | ⟨-, -, e⟩ <;> omega
    · rcases k10 with ⟨-, e, h1, h2⟩ | ⟨-, -, e⟩ <;> omega
    · rcases k10 with ⟨t, e, -, -⟩ | ⟨t, e1, e2⟩
      · exact Or.inl ⟨t, e⟩
      · exact Or.inr ⟨t, e1, e2⟩
    · by_cases q : k = J
      · subst q
        have hj9 : j < 9 := by omega
        exact k3 k j (by rcases hJ with rfl | rfl <;> simp [dep] <;> omega)
      · rw [k9 k q h2 h3]
  · exact ⟨0, 0, 0, σ, up ρ 57 23 0, Or.inr ⟨h, rfl, rfl, rfl, rfl, rfl⟩, by decide, by decide, up_eq rfl rfl, Or.inl ⟨rfl, rfl⟩, fun j hj => up_ne (by omega), fun k _ _ h3 => up_rw h3, fun _ _ _ _ _ => rfl⟩
/-- what a ride's judging leaves -/
def JQ (σ ρ : SG) (J w s c : Nat) (h0 sp mn ln mo f g : Int) (sc hd : Int) (σ' ρ' : SG) : Prop := 0 ≤ sc ∧ sc ≤ 100 ∧ (hd = 0 ∨ hd = 1) ∧ (∀ i, i < 7 → ρ' 79 (7 * (20 * s + c) + i) = σ' (40 + 2 * s) (7 * c + i)) ∧ σ' (40 + 2 * s) (7 * c) = sc ∧ σ' (40 + 2 * s) (7 * c + 1) = (w : Int) ∧ σ' (40 + 2 * s) (7 * c + 5) = hd ∧ (∀ j, ¬ (7 * c ≤ j ∧ j < 7 * c + 7) → σ' (40 + 2 * s) j = σ (40 + 2 * s) j) ∧ (∀ j, ¬ (7 * (20 * s + c) ≤ j ∧ j < 7 * (20 * s + c) + 7) → ρ' 79 j = ρ 79 j) ∧
  (σ' (39 + 2 * s) 2 = (c : Int) + 1 ∧ σ' (39 + 2 * s) 10 = max f sc ∧ σ' (39 + 2 * s) 11 = max g (min f sc) ∧ σ' (39 + 2 * s) 9 = h0 + hd ∧ ∀ j, j ≠ 2 → j ≠ 9 → j ≠ 10 → j ≠ 11 → σ' (39 + 2 * s) j = σ (39 + 2 * s) j) ∧ (ρ' 72 s = (c : Int) + 1 ∧ ρ' 71 s = h0 + hd ∧ ρ' 70 s = (if h0 + hd < 2 then mn + 1 + mnt sp ln else -1) ∧ ∀ t, t ≠ s → ρ' 70 t = ρ 70 t ∧ ρ' 71 t = ρ 71 t ∧ ρ' 72 t = ρ 72 t) ∧
  ISeen σ' ρ' ∧ (ρ' 57 31 = σ' 19 7 ∧ ρ' 57 32 = σ' 19 8) ∧ (σ' 37 (4 * w + 1) = (if mo < sc then sc else mo) ∧ σ' 37 (4 * w + 2) = (if mo < sc then (s : Int) else σ 37 (4 * w + 2)) ∧ σ' 37 (4 * w + 3) = σ 37 (4 * w + 3) + hd ∧ ∀ j, j ≠ 4 * w + 1 → j ≠ 4 * w + 2 → j ≠ 4 * w + 3 → σ' 37 j = σ 37 j) ∧
  (∀ k j, k ≠ 39 + 2 * s → k ≠ 40 + 2 * s → k ≠ 37 → k ≠ 38 → ¬ (k = 19 ∧ 6 ≤ j ∧ j ≤ 8) → ¬ (k = J ∧ 9 ≤ j) → k ≠ J + 6 → k ≠ J + 7 → σ' k j = σ k j) ∧ ∀ k j, k ≠ 66 → k ≠ 67 → k ≠ 70 → k ≠ 71 → k ≠ 72 → k ≠ 77 → k ≠ 79 → ¬ (k = 57 ∧ (j = 23 ∨ j = 31 ∨ j = 32 ∨ j = 33)) → ρ' k j = ρ k j
