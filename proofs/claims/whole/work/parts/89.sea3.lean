/-! ===== the sea's text: a surfer's line ===== -/
theorem writeName_ok {σ : SG} {B : Nat → Int} {L b S m n : Nat} (h : TC σ B L b) (hT : Txt B L) (h5 : σ S 5 = (m : Int)) (hm : m < 5) (hS : S = 1 ∨ S = 20) (h6 : te B L b - b ≤ 6) (hn : 500 < n) : ∃ σ', X6_writeName n S σ = some σ' ∧ σ' (S + 2) m = ((te B L b - b : Nat) : Int) ∧ (∀ i, i < te B L b - b → σ' (S + 1) (6 * m + i) = B (b + i)) ∧ ∀ c j, ¬ (c = S + 2 ∧ j = m) → ¬ (c = S + 1 ∧ 6 * m ≤ j ∧ j < 6 * m + 6) → σ' c j = σ c j := by
  obtain ⟨h1, h2, h3, h4, h5', h6', h7, h8⟩ := h
  obtain ⟨hL, hB⟩ := hT
  obtain ⟨t1, t2, t3⟩ := te_b (B := B) h3
  have key : wp (X6_writeName n S σ) (fun σ' => σ' (S + 2) m = ((te B L b - b : Nat) : Int) ∧ (∀ i, i < te B L b - b → σ' (S + 1) (6 * m + i) = B (b + i)) ∧ ∀ c j, ¬ (c = S + 2 ∧ j = m) → ¬ (c = S + 1 ∧ 6 * m ≤ j ∧ j < 6 * m + 6) → σ' c j = σ c j) := by
    unfold X6_writeName
    rw [h6', h4, show ((te B L b : Nat) : Int) - (b : Int) = ((te B L b - b : Nat) : Int) by omega, h5]
    refine wp_lt (wp_ifF (by rw [w32i (by omega)]; omega) (wp_ifT (by rw [w32i (by omega)]; omega) (wp_rdn (by omega) (by omega) (wp_lt (wp_bind ?_)))))
    refine wp_loop (fun k (z : Int × SG) => z.1 = (k : Int) ∧ z.2 (S + 2) m = ((te B L b - b : Nat) : Int) ∧ (∀ i, i < k → z.2 (S + 1) (6 * m + i) = B (b + i)) ∧ ∀ c j, ¬ (c = S + 2 ∧ j = m) → ¬ (c = S + 1 ∧ 6 * m ≤ j ∧ j < 6 * m + 6) → z.2 c j = σ c j) (te B L b - b) ?_ ⟨rfl, up_eq rfl rfl, fun i hi => absurd hi (by omega), fun c j q1 q2 => up_ne q1⟩ (by omega)
    rintro k ⟨z, σ1⟩ hk ⟨g1, g2, g3, g4⟩
    obtain rfl : z = (k : Int) := g1
    have g2 : σ1 (S + 2) m = ((te B L b - b : Nat) : Int) := g2
    have g3 : ∀ i, i < k → σ1 (S + 1) (6 * m + i) = B (b + i) := g3
    have g4 : ∀ c j, ¬ (c = S + 2 ∧ j = m) → ¬ (c = S + 1 ∧ 6 * m ≤ j ∧ j < 6 * m + 6) → σ1 c j = σ c j := g4
    have f1 : σ1 15 1 = (L : Int) := (g4 15 1 (by omega) (by omega)).trans h1
    have f3 : σ1 15 3 = (b : Int) := (g4 15 3 (by omega) (by omega)).trans h4
    have f5 : σ1 S 5 = (m : Int) := (g4 S 5 (by omega) (by omega)).trans h5
    dsimp only
    unfold X6_writeName_l37 X6_writeName_e37
    by_cases d : k = te B L b - b
    · subst d
      exact wp_ifT (Int.le_refl _) (wp_some (Or.inr ⟨_, rfl, wp_some ⟨g2, g3, g4⟩⟩))
    · refine wp_ifF (by rw [w32i (by omega), w32i (by omega)]; omega) (wp_ifF (by rw [f1, f3, w32i (by omega), w32i (by omega)]; omega) (wp_rdI (b + k) (by rw [f3]; omega) (by omega) (by decide) (wp_rdI (6 * m + k) (by rw [f5]; omega) (by omega) (by decide) (wp_lt (wp_lt (wp_some (Or.inl ⟨_, rfl, by omega, by simp only []; omega, ?_, fun i hi => ?_, fun c j q1 q2 => ?_⟩)))))))
      · dsimp only
        rw [up_ne (by omega)]
        exact g2
      · dsimp only
        by_cases q : i = k
        · rw [q, up_eq rfl rfl, g4 16 (b + k) (by omega) (by omega), h2 (b + k) (by omega)]
        · rw [up_ne (by omega)]
          exact g3 i (by omega)
      · dsimp only
        rw [up_ne (by omega)]
        exact g4 c j q1 q2
  obtain ⟨σ', e, h⟩ := key
  exact ⟨σ', e, h⟩
/-- the reference's name -/
theorem nameR_ok {ρ : SG} {B : Nat → Int} {L b m n : Nat} (h : TB ρ B L b) (hT : Txt B L) (hna : naB B L b = true) (hm : m < 5) (hn : 500 < n) : ∃ ρ', iter n (fun s : Int × SG => X12_surferLine_l49 n ((wlen B L b : Nat) : Int) (m : Int) s.1 s.2) (0, ρ) = some ρ' ∧ (∀ i, i < 6 → ρ' 61 (4 + 6 * m + i) = if i < te B L b - b then B (b + i) else 0) ∧ ∀ c j, ¬ (c = 61 ∧ 4 + 6 * m ≤ j ∧ j < 4 + 6 * m + 6) → ρ' c j = ρ c j := by
  obtain ⟨r1, r2, r3, r4, r5, r6⟩ := h
  obtain ⟨k1, k2, k3, k4, k5⟩ := na_t hna r5
  obtain ⟨t1, t2, t3⟩ := te_b (B := B) r5
  have hL := hT.1
  rw [k4]
  have key : wp (iter n (fun s : Int × SG => X12_surferLine_l49 n ((te B L b - b : Nat) : Int) (m : Int) s.1 s.2) (0, ρ)) (fun ρ' => (∀ i, i < 6 → ρ' 61 (4 + 6 * m + i) = if i < te B L b - b then B (b + i) else 0) ∧ ∀ c j, ¬ (c = 61 ∧ 4 + 6 * m ≤ j ∧ j < 4 + 6 * m + 6) → ρ' c j = ρ c j) := by
    refine wp_loop (fun k (z : Int × SG) => z.1 = (k : Int) ∧ (∀ i, i < k → z.2 61 (4 + 6 * m + i) = if i < te B L b - b then B (b + i) else 0) ∧ ∀ c j, ¬ (c = 61 ∧ 4 + 6 * m ≤ j ∧ j < 4 + 6 * m + 6) → z.2 c j = ρ c j) 6 ?_ ⟨rfl, fun i hi => absurd hi (by omega), fun _ _ _ => rfl⟩ (by omega)
    rintro k ⟨z, ρ1⟩ hk ⟨g1, g2, g3⟩
    obtain rfl : z = (k : Int) := g1
    have g2 : ∀ i, i < k → ρ1 61 (4 + 6 * m + i) = if i < te B L b - b then B (b + i) else 0 := g2
    have g3 : ∀ c j, ¬ (c = 61 ∧ 4 + 6 * m ≤ j ∧ j < 4 + 6 * m + 6) → ρ1 c j = ρ c j := g3
    dsimp only
    unfold X12_surferLine_l49 X12_surferLine_j87
    by_cases d : k = 6
    · subst d
      exact wp_ifT (by decide) (wp_some (Or.inr ⟨_, rfl, g2, g3⟩))
    · have go : ∀ y : Int, y = (if k < te B L b - b then B (b + k) else 0) → wp (rdA 144 ((4 + (6 * (m : Int))) + (k : Int)) fun j36 => lt (up ρ1 61 j36 y) fun σ37 => lt ((k : Int) + 1) fun x38 => (some (.inl (x38, σ37)) : Option ((Int × SG) ⊕ SG))) (fun y => (∃ a' : Int × SG, y = .inl a' ∧ k < 6 ∧ a'.1 = ((k + 1 : Nat) : Int) ∧ (∀ i, i < k + 1 → a'.2 61 (4 + 6 * m + i) = if i < te B L b - b then B (b + i) else 0) ∧ ∀ c j, ¬ (c = 61 ∧ 4 + 6 * m ≤ j ∧ j < 4 + 6 * m + 6) → a'.2 c j = ρ c j) ∨ ∃ b_1 : SG, y = .inr b_1 ∧ (∀ i, i < 6 → b_1 61 (4 + 6 * m + i) = if i < te B L b - b then B (b + i) else 0) ∧ ∀ c j, ¬ (c = 61 ∧ 4 + 6 * m ≤ j ∧ j < 4 + 6 * m + 6) → b_1 c j = ρ c j) := by
        intro y hy
        refine wp_rdI (4 + 6 * m + k) (by omega) (by omega) (by decide) (wp_lt (wp_lt (wp_some (Or.inl ⟨_, rfl, by omega, by simp only []; omega, fun i hi => ?_, fun c j q => ?_⟩))))
        · dsimp only
          by_cases q : i = k
          · rw [q, up_eq rfl rfl, hy]
          · rw [up_ne (by omega)]
            exact g2 i (by omega)
        · dsimp only
          rw [up_ne (by omega)]
          exact g3 c j q
      refine wp_ifF (by rw [w32i (by omega)]; omega) (wp_bind ?_)
      by_cases q : k < te B L b - b
      · have hl := k5 k q
        refine wp_ifF (by rw [w32i (by omega), w32i (by omega)]; omega) (wp_rdI (b + k) (by rw [g3 57 4 (by omega), r3]; omega) (by omega) (by decide) (wp_some ?_))
        rw [g3 58 (b + k) (by omega), r1.2 (b + k) (by omega), show sb (B (b + k)) = B (b + k) from if_pos (by omega)]
        exact go _ (by rw [if_pos q])
      · exact wp_ifT (by rw [w32i (by omega), w32i (by omega)]; omega) (wp_some (go 0 (by rw [if_neg q])))
  obtain ⟨ρ', e, h⟩ := key
  exact ⟨ρ', e, h⟩
/-- a word and a number behind it, on both sides -/
theorem wn_ok {σ ρ : SG} {B : Nat → Int} {L b n a a' : Nat} {lo hi : Int} (P : TC σ B L b) (R : TR ρ B L b) (hT : Txt B L) (ha : a < 70) (ha' : a' < 70) (he : strB a' = strB a) (hr : (0 ≤ lo ∧ lo ≤ 9999) ∧ 0 ≤ hi ∧ hi ≤ 9999) (hn : 500 < n) :
    ∃ v ρ', X12_after n a' lo hi ρ = some (v, ρ') ∧ FrK ρ ρ' ∧ ∃ σ1, FrT σ σ1 ∧ ((X10_passWord n a σ = some (0, σ1) ∧ FR ρ' B L (σ1 15 3)) ∨ (X10_passWord n a σ = some (1, σ1) ∧ ∃ σ2, FrT σ1 σ2 ∧ ((X10_passNumber n lo hi 2 σ1 = some (-1, σ2) ∧ FR ρ' B L (σ2 15 3)) ∨ (X10_passNumber n lo hi 2 σ1 = some (v, σ2) ∧ lo ≤ v ∧ v ≤ hi ∧ ∃ b', b < b' ∧ TC σ2 B L b' ∧ TR ρ' B L b')))) := by
  obtain ⟨v, ρ1, m1, m2, m3⟩ := R.after (n := n) (a := a') (lo := lo) (hi := hi) hT ha' hr hn
  rw [he] at m3
  obtain ⟨σ1, g1, g2, P1⟩ := P.passWord (n := n) (a := a) hT ha hn
  refine ⟨v, ρ1, m1, m2, σ1, g2, ?_⟩
  have hb := P.2.2.1
  cases hw : waB B L b (strB a)
  · rw [hw, if_neg (by decide)] at m3 P1
    rw [hw] at g1
    exact Or.inl ⟨g1, by rw [P1.2.2.2.1]; exact m3⟩
  · rw [hw, if_pos rfl] at m3 P1
    rw [hw] at g1
    obtain ⟨w1, w2, w3, w4⟩ := wa_nx hw hb
    have hw0 := (sw ha).1
    have nb := nx_b (B := B) hb
    have nb2 := nx_b (B := B) nb.2.1
    obtain ⟨σ2, g3, g4, P2⟩ := P1.passNumber (n := n) (dg := 2) (lo := lo) (hi := hi) hT (by decide) hr hn
    refine Or.inr ⟨g1, σ2, g4, ?_⟩
    cases hu : nuB B L (nx B L b) 2 lo hi
    · rw [hu, if_neg (by decide)] at m3 P2
      rw [hu, if_neg (by decide)] at g3
      exact Or.inl ⟨g3, by rw [P2.2.2.2.1]; exact m3⟩
    · have hv := of_decide_eq_true hu
      rw [hu, if_pos rfl] at m3 P2
      rw [hu, if_pos rfl, ← m3.1] at g3
      refine Or.inr ⟨g3, by rw [m3.1]; exact hv.2.2.1, by rw [m3.1]; exact hv.2.2.2, _, ?_, P2, m3.2⟩
      have := te_b (B := B) nb.2.1
      omega
/-- behind the name, on both sides -/
def surfC (n : Nat) (σ10 : SG) : Option (Int × SG) := bnd2 (X10_passWord n 1 σ10) fun v12 σ13 => ((if w32 v12 = 0 then some (((-1), σ13)) else bnd2 (X10_passNumber n 0 40 2 σ13) fun v27 σ28 => some ((v27, σ28))) : Option (Int × SG)).bind (fun s => X7_passSurfer_j74 n s.1 s.2)
def surfR (n m : Nat) (ρ : SG) : Option SG := bnd2 (X12_after n 48 0 40 ρ) fun v22 σ23 => rdA 144 (34 + (m : Int)) fun j24 => lt (up σ23 61 j24 v22) fun σ25 => bnd2 (X12_after n 49 1 9 σ25) fun v27 σ28 => rdA 144 (39 + (m : Int)) fun j29 => lt (up σ28 61 j29 v27) fun σ30 => rdA 144 0 fun j31 => rdA 144 0 fun j32 => lt (up σ30 61 j32 ((σ30 61 j31) + 1)) fun σ33 => some (σ33)
theorem surfF1 {ρ : SG} {B : Nat → Int} {L m n : Nat} {x : Int} (h : FR ρ B L x) (hm : m < 5) : wp (bnd2 (X12_after n 49 1 9 ρ) fun v27 σ28 => rdA 144 (39 + (m : Int)) fun j29 => lt (up σ28 61 j29 v27) fun σ30 => rdA 144 0 fun j31 => rdA 144 0 fun j32 => lt (up σ30 61 j32 ((σ30 61 j31) + 1)) fun σ33 => some (σ33)) (fun ρ' => FsR ρ ρ' ∧ FR ρ' B L x) :=
  wp_bnd2 (wp_of h.after (wp_rdI (39 + m) (by omega) (by omega) (by decide) (wp_lt (wp_rdI 0 rfl (by decide) (by decide) (wp_rdI 0 rfl (by decide) (by decide) (wp_lt (wp_some ⟨FsR.up.tr FsR.up, (h.up (Or.inl rfl)).up (Or.inl rfl)⟩)))))))
def SfO (B : Nat → Int) (L S m b : Nat) (σ ρ : SG) (v : Int) (σ' ρ' : SG) : Prop := (v = 0 ∧ FsC S σ σ' ∧ FsR ρ ρ' ∧ FR ρ' B L (σ' 15 3)) ∨ (v = 1 ∧ ∃ (b' : Nat) (v6 v8 : Int), b < b' ∧ TC σ' B L b' ∧ TR ρ' B L b' ∧ (0 ≤ v6 ∧ v6 ≤ 40) ∧ (1 ≤ v8 ∧ v8 ≤ 9) ∧ (∀ c j, c ≠ 15 → ¬ (c = S + 3 ∧ j = m) → ¬ (c = S + 4 ∧ j = m) → ¬ (c = S ∧ j = 5) → σ' c j = σ c j) ∧ FsC S σ σ' ∧ σ' S 5 = ((m + 1 : Nat) : Int) ∧ σ' (S + 3) m = v6 ∧ σ' (S + 4) m = v8 ∧ (∀ c j, ¬ (c = 57 ∧ (j = 4 ∨ j = 5 ∨ j = 7)) → ¬ (c = 61 ∧ (j = 0 ∨ j = 34 + m ∨ j = 39 + m)) → ρ' c j = ρ c j) ∧ ρ' 61 (34 + m) = v6 ∧ ρ' 61 (39 + m) = v8 ∧ ρ' 61 0 = ((m + 1 : Nat) : Int))
theorem surfC_ok {σ ρ : SG} {B : Nat → Int} {L b S m n : Nat} (P : TC σ B L b) (R : TR ρ B L b) (hT : Txt B L) (d17 : σ 17 1 = (S : Int)) (d5 : σ S 5 = (m : Int)) (hm : m < 5) (hS : S = 1 ∨ S = 20) (d61 : ρ 61 0 = (m : Int)) (hn : 500 < n) : wp (surfC n σ) (fun r => wp (surfR n m ρ) (fun ρ' => SfO B L S m b σ ρ r.1 r.2 ρ')) := by
  obtain ⟨v6, ρ1, m1, m2, σ1, g1, g2⟩ := wn_ok (n := n) (a := 1) (a' := 48) (lo := 0) (hi := 40) P R hT (by decide) (by decide) (wd_eq 1 (by decide)) (by decide) hn
  have failA : ∀ (x : Int) (σ' : SG), FsC S σ σ' → FR ρ1 B L x → σ' 15 3 = x → wp (surfR n m ρ) (fun ρ' => SfO B L S m b σ ρ 0 σ' ρ') := fun x σ' hC hF hx => by
    unfold surfR
    refine wp_bnd2 (wp_of m1 (wp_rdI (34 + m) (by omega) (by omega) (by decide) (wp_lt ?_)))
    refine wp_mono (surfF1 (hF.up (Or.inl rfl)) hm) (fun ρ' h => Or.inl ⟨rfl, hC, m2.s.tr (FsR.up.tr h.1), ?_⟩)
    rw [hx]
    exact h.2
  unfold surfC
  rcases g2 with ⟨g2, g3⟩ | ⟨g2, σ2, g3, g4⟩
  · refine wp_bnd2 (wp_of g2 (wp_bind (wp_ifT rfl (wp_some ?_))))
    unfold X7_passSurfer_j74
    exact wp_ifT rfl (wp_some (failA _ _ g1.s g3 rfl))
  rcases g4 with ⟨g4, g5⟩ | ⟨g4, lo6, hi6, b4, hb4, P2, R2⟩
  · refine wp_bnd2 (wp_of g2 (wp_bind (wp_ifF (by dsimp only; decide) (wp_bnd2 (wp_of g4 (wp_some ?_))))))
    unfold X7_passSurfer_j74
    exact wp_ifT rfl (wp_some (failA _ _ (g1.s.tr g3.s) g5 rfl))
  refine wp_bnd2 (wp_of g2 (wp_bind (wp_ifF (by dsimp only; decide) (wp_bnd2 (wp_of g4 (wp_some ?_))))))
  unfold X7_passSurfer_j74
  refine wp_ifF (by dsimp only; rw [w32i (by omega)]; omega) ?_
  have F2 : FrT σ σ2 := g1.tr g3
  have R3 : TR (up ρ1 61 (34 + m) v6) B L b4 := R2.up (Or.inl rfl)
  obtain ⟨v8, ρ3, m3, m4, σ3, g6, g7⟩ := wn_ok (n := n) (a := 2) (a' := 49) (lo := 1) (hi := 9) P2 R3 hT (by decide) (by decide) (wd_eq 2 (by decide)) (by decide) hn
  have k3 : FsR ρ ρ3 := m2.s.tr (FsR.up.tr m4.s)
  have hR2 : ∀ Q : SG → Prop, Q (up (up ρ3 61 (39 + m) v8) 61 0 (up ρ3 61 (39 + m) v8 61 0 + 1)) → wp (surfR n m ρ) Q := fun Q hQ => by
    unfold surfR
    exact wp_bnd2 (wp_of m1 (wp_rdI (34 + m) (by omega) (by omega) (by decide) (wp_lt (wp_bnd2 (wp_of m3 (wp_rdI (39 + m) (by omega) (by omega) (by decide) (wp_lt (wp_rdI 0 rfl (by decide) (by decide) (wp_rdI 0 rfl (by decide) (by decide) (wp_lt (wp_some hQ)))))))))))
  have failB : ∀ (x : Int) (σ' : SG), FsC S σ σ' → FR ρ3 B L x → σ' 15 3 = x → wp (surfR n m ρ) (fun ρ' => SfO B L S m b σ ρ 0 σ' ρ') := fun x σ' hC hF hx => hR2 _ (Or.inl ⟨rfl, hC, k3.tr (FsR.up.tr FsR.up), by rw [hx]; exact (hF.up (Or.inl rfl)).up (Or.inl rfl)⟩)
  rcases g7 with ⟨g7, g8⟩ | ⟨g7, σ4, g8, g9⟩
  · exact wp_bnd2 (wp_of g7 (wp_ifT rfl (wp_some (failB _ _ (F2.s.tr g6.s) g8 rfl))))
  rcases g9 with ⟨g9, g10⟩ | ⟨g9, lo8, hi8, b6, hb6, P4, R4⟩
  · exact wp_bnd2 (wp_of g7 (wp_ifF (by dsimp only; decide) (wp_bnd2 (wp_of g9 (wp_ifT rfl (wp_some (failB _ _ (F2.s.tr (g6.s.tr g8.s)) g10 rfl)))))))
  have F4 : FrT σ σ4 := F2.tr (g6.tr g8)
  have h17 : σ4 17 1 = (S : Int) := (F4 17 1 (by omega)).trans d17
  have h5 : σ4 S 5 = (m : Int) := (F4 S 5 (by omega)).trans d5
  refine wp_bnd2 (wp_of g7 (wp_ifF (by dsimp only; decide) (wp_bnd2 (wp_of g9 (wp_ifF (by dsimp only; rw [w32i (by omega)]; omega) (wp_ckI S h17 (isSea_S hS) (wp_bind ?_)))))))
  unfold X6_addSurfer
  refine wp_ifF (by dsimp only; rw [h5, w32i (by omega)]; omega) (wp_rdI m h5 (by omega) (by decide) (wp_lt (wp_rdI m (by rw [up_ne (by omega)]; exact h5) (by omega) (by decide) (wp_lt (wp_lt (wp_some (wp_some (hR2 _ ?_))))))))
  dsimp only
  refine Or.inr ⟨rfl, b6, v6, v8, by omega, ?_, ?_, ⟨lo6, hi6⟩, ⟨lo8, hi8⟩, fun c j q1 q2 q3 q4 => ?_, fun c j q1 q2 q3 => ?_, ?_, ?_, ?_, fun c j q1 q2 => ?_, ?_, ?_, ?_⟩
  · exact P4.cg (fun j => by rw [up_ne (by omega), up_ne (by omega), up_ne (by omega)]) (fun j => by rw [up_ne (by omega), up_ne (by omega), up_ne (by omega)])
  · exact (R4.up (Or.inl rfl)).up (Or.inl rfl)
  · rw [up_ne q4, up_ne q3, up_ne q2]
    exact F4 c j (by omega)
  · rw [up_ne (by omega), up_ne (by omega), up_ne (by omega)]
    exact F4 c j q1
  · rw [up_eq rfl rfl, up_ne (by omega), up_ne (by omega), h5]
    omega
  · rw [up_ne (by omega), up_ne (by omega), up_eq rfl rfl]
  · rw [up_ne (by omega), up_eq rfl rfl]
  · rw [up_ne (by omega), up_ne (by omega), m4 c j q1, up_ne (by omega)]
    exact m2 c j q1
  · rw [up_ne (by omega), up_ne (by omega), m4 61 _ (by omega), up_eq rfl rfl]
  · rw [up_ne (by omega), up_eq rfl rfl]
  · rw [up_eq rfl rfl, up_ne (by omega), m4 61 0 (by omega), up_ne (by omega), m2 61 0 (by omega), d61]
    omega
/-- the name, on both sides -/
def SnO (B : Nat → Int) (L S m b n : Nat) (σ ρ : SG) : Prop := (∃ σ' ρ', X7_passSurfer n σ = some (0, σ') ∧ X12_surferLine n ρ = some ρ' ∧ FsC S σ σ' ∧ FsR ρ ρ' ∧ FR ρ' B L (σ' 15 3)) ∨ ∃ (b1 N b2 : Nat) (σ' ρ' : SG), (∀ Q, wp (surfC n σ') Q → wp (X7_passSurfer n σ) Q) ∧ (∀ Q, wp (surfR n m ρ') Q → wp (X12_surferLine n ρ) Q) ∧ b < b2 ∧ TC σ' B L b2 ∧ TR ρ' B L b2 ∧ N ≤ 6 ∧ 1 ≤ N ∧ (∀ i, i < N → 97 ≤ B (b1 + i) ∧ B (b1 + i) ≤ 122) ∧
  (∀ c j, c ≠ 15 → ¬ (c = S + 2 ∧ j = m) → ¬ (c = S + 1 ∧ 6 * m ≤ j ∧ j < 6 * m + 6) → σ' c j = σ c j) ∧ FsC S σ σ' ∧ σ' (S + 2) m = (N : Int) ∧ (∀ i, i < N → σ' (S + 1) (6 * m + i) = B (b1 + i)) ∧ (∀ c j, ¬ (c = 57 ∧ (j = 4 ∨ j = 5 ∨ j = 7)) → ¬ (c = 61 ∧ 4 + 6 * m ≤ j ∧ j < 4 + 6 * m + 6) → ρ' c j = ρ c j) ∧ ∀ i, i < 6 → ρ' 61 (4 + 6 * m + i) = if i < N then B (b1 + i) else 0
theorem surfN_ok {σ ρ : SG} {B : Nat → Int} {L b S m q n : Nat} (P : TC σ B L b) (R : TB ρ B L b) (hT : Txt B L) (D : SeaD σ ρ S m q) (hw : waB B L b (strB 0) = true) (hn : 500 < n) (c0 : m < 5) : SnO B L S m b n σ ρ := by
  obtain ⟨⟨m5, q20, d1, d2, d3, d4⟩, dh, da, dS, dW, f12, f13, d17, hS⟩ := id D
  have hL := hT.1
  have hb := P.2.2.1
  obtain ⟨σ1, a1, P1, a3⟩ := P.adv hT hn
  have nb := nx_b (B := B) hb
  have D1 := D.cg (ρ' := ρ) a3 FrK.rf
  have hbl : b < L := by
    obtain ⟨w1, w2, w3, w4⟩ := wa_nx hw hb
    have := (sw (a := 0) (by decide)).1
    omega
  have hlt1 := nb.2.2 hbl
  have hNew := isNewName_ok P1 hT D1 hn
  obtain ⟨ρ1, u1, u2, u3⟩ := R.tr.asksWord (n := n) (a := 47) hT (by decide) hn
  rw [show strB 47 = strB 0 from wd_eq 0 (by decide), if_pos hw] at u3
  obtain ⟨ρ2, v1, v2, v3⟩ := u3.isName (n := n) hT hn
  have hR0 : ∀ Q : SG → Prop, wp (if w32 (b2i (naB B L (nx B L b))) = 0 then (X12_fails n ρ2).bind fun σ9 => some σ9 else bnd2 (X12_isTold n ρ2) fun v11 σ12 => if w32 v11 = 0 then bnd2 (X12_wordMany n σ12) fun v14 σ15 => ((iter n (fun s : Int × SG => X12_surferLine_l49 n v14 (m : Int) s.1 s.2) (0, σ15)) : Option (SG)).bind (fun s => X12_surferLine_e49 n v14 (m : Int) s) else (X12_fails n σ12).bind fun σ41 => some σ41) Q → wp (X12_surferLine n ρ) Q := fun Q hQ => by
    unfold X12_surferLine
    refine wp_rdI 0 rfl (by decide) (by decide) ?_
    rw [d3]
    exact wp_lt (wp_ifF (by rw [w32i (by omega)]; omega) (wp_bind (wp_of u1 (wp_bnd2 (wp_of v1 hQ)))))
  have hC0 : ∀ Q : Int × SG → Prop, wp (if w32 (b2i (naB B L (nx B L b) && !anyN (fun s => smN σ1 S s B L (nx B L b)) m)) = 0 then some (0, σ1) else ckR isSea (σ1 17 1) fun k6 => (X6_writeName n k6 σ1).bind fun σ8 => (X10_advance n σ8).bind fun σ10 => surfC n σ10) Q → wp (X7_passSurfer n σ) Q := fun Q hQ => by
    unfold X7_passSurfer
    exact wp_ckI S d17 (isSea_S hS) (wp_ifT (by rw [d1, w32i (by omega)]; omega) (wp_bind (wp_of a1 (wp_bind (wp_of hNew hQ)))))
  have x1 : σ1 15 3 = (nx B L b : Int) := P1.2.2.2.1
  cases hna : naB B L (nx B L b)
  · rw [hna] at hR0 hC0
    obtain ⟨ρ3, w1, w2, w3⟩ := v3.fails (n := n) hT
    exact Or.inl ⟨σ1, ρ3, of_wp (hC0 _ (wp_ifT rfl (wp_some rfl))), of_wp (hR0 _ (wp_ifT rfl (wp_bind (wp_of w1 (wp_some rfl))))), a3.s, (u2.tr (v2.tr w2)).s, by rw [x1]; exact w3⟩
  rw [hna] at hR0 hC0
  obtain ⟨ρ3, w1, w2, w3⟩ := v3.tr.isTold (n := n) hT (D1.cg FrT.rf (u2.tr v2)) hna hn
  cases htd : anyN (fun s => smN σ1 S s B L (nx B L b)) m
  case true =>
    rw [htd] at w1 hC0
    obtain ⟨ρ4, y1, y2, y3⟩ := w3.fails (n := n) hT
    exact Or.inl ⟨σ1, ρ4, of_wp (hC0 _ (wp_ifT rfl (wp_some rfl))), of_wp (hR0 _ (wp_ifF (by decide) (wp_bnd2 (wp_of w1 (wp_ifF (by dsimp only; decide) (wp_bind (wp_of y1 (wp_some rfl)))))))), a3.s, (u2.tr (v2.tr (w2.tr y2))).s, by rw [x1]; exact y3⟩
  rw [htd] at w1 hC0
  obtain ⟨k1, k2, k3, k4, k5⟩ := na_t hna nb.2.1
  have e1 : σ1 17 1 = (S : Int) := D1.2.2.2.2.2.2.2.1
  have e5 : σ1 S 5 = (m : Int) := D1.1.2.2.1
  obtain ⟨σ2, p1, p2, p3, p4⟩ := writeName_ok (n := n) P1 hT e5 c0 hS k2 hn
  have P2 : TC σ2 B L (nx B L b) := P1.cg (fun j => p4 15 j (by omega) (by omega)) (fun j => p4 16 j (by omega) (by omega))
  obtain ⟨σ3, a4, P3, a6⟩ := P2.adv hT hn
  have nb2 := nx_b (B := B) nb.2.1
  obtain ⟨ρ4, z1, z2, z3⟩ := w3.tr.wordMany (n := n) hT hn
  obtain ⟨ρ5, s1, s2, s3⟩ := nameR_ok (n := n) z3 hT hna c0 hn
  obtain ⟨t1, t2, t3⟩ := te_b (B := B) nb.2.1
  have T6 : TR (up ρ5 57 4 (ρ5 57 4 + ((wlen B L (nx B L b) : Nat) : Int))) B L (nx B L (nx B L b)) := by
    refine ⟨⟨?_, fun j hj => ?_⟩, ?_, te B L (nx B L b), ?_, t2, rfl⟩
    · rw [up_ne (by omega), s3 57 6 (by omega)]; exact z3.1.1
    · rw [up_ne (by omega), s3 58 j (by omega)]; exact z3.1.2 j hj
    · rw [up_ne (by omega), s3 57 7 (by omega)]; exact z3.2.1
    · rw [up_eq rfl rfl, s3 57 4 (by omega), z3.2.2.1, k4]; omega
  refine Or.inr ⟨nx B L b, te B L (nx B L b) - nx B L b, nx B L (nx B L b), σ3, _, fun Q hQ => hC0 Q (wp_ifF (by decide) (wp_ckI S e1 (isSea_S hS) (wp_bind (wp_of p1 (wp_bind (wp_of a4 hQ)))))), fun Q hQ => hR0 Q (wp_ifF (by decide) (wp_bnd2 (wp_of w1 (wp_ifT rfl (wp_bnd2 (wp_of z1 (wp_bind (wp_of s1 ?_)))))))), by omega, P3, T6, k2, k3, k5, fun c j q1 q2 q3 => ?_, fun c j q1 q2 q3 => ?_, ?_, fun i hi => ?_, fun c j q1 q2 => ?_, fun i hi => ?_⟩
  · unfold X12_surferLine_e49
    exact wp_lt hQ
  · rw [a6 c j (by omega), p4 c j q2 q3, a3 c j (by omega)]
  · rw [a6 c j q1, p4 c j (by omega) (by omega), a3 c j q1]
  · rw [a6 _ _ (by omega)]; exact p2
  · rw [a6 _ _ (by omega)]; exact p3 i hi
  · rw [up_ne (by omega), s3 c j q2, z2 c j q1, w2 c j q1, v2 c j q1, u2 c j q1]
  · rw [up_ne (by omega)]
    exact s2 i hi
theorem surf_fin {σ ρ σ8 ρ8 : SG} {B : Nat → Int} {S m q b1 N : Nat} {v6 v8 : Int} (D : SeaD σ ρ S m q) (c0 : m < 5) (k2 : N ≤ 6) (k3 : 1 ≤ N) (k5 : ∀ i, i < N → 97 ≤ B (b1 + i) ∧ B (b1 + i) ≤ 122)
    (E8 : ∀ c j, c ≠ 15 → ¬ (c = S + 2 ∧ j = m) → ¬ (c = S + 1 ∧ 6 * m ≤ j ∧ j < 6 * m + 6) → ¬ (c = S + 3 ∧ j = m) → ¬ (c = S + 4 ∧ j = m) → ¬ (c = S ∧ j = 5) → σ8 c j = σ c j) (S5 : σ8 S 5 = ((m + 1 : Nat) : Int)) (S3 : σ8 (S + 3) m = v6) (S4 : σ8 (S + 4) m = v8) (S2 : σ8 (S + 2) m = ((N : Nat) : Int)) (S1 : ∀ i, i < N → σ8 (S + 1) (6 * m + i) = B (b1 + i)) (hv : 0 ≤ v6 ∧ v6 ≤ 40) (hv2 : 1 ≤ v8 ∧ v8 ≤ 9)
    (G : ∀ j, j ≠ 0 → j ≠ 34 + m → j ≠ 39 + m → ¬ (4 + 6 * m ≤ j ∧ j < 4 + 6 * m + 6) → ρ8 61 j = ρ 61 j) (s2 : ∀ i, i < 6 → ρ8 61 (4 + 6 * m + i) = if i < N then B (b1 + i) else 0) (G34 : ρ8 61 (34 + m) = v6) (G39 : ρ8 61 (39 + m) = v8) (G0 : ρ8 61 0 = ((m + 1 : Nat) : Int)) (G57 : ∀ j, j = 12 ∨ j = 13 → ρ8 57 j = ρ 57 j) : SeaD σ8 ρ8 S (m + 1) q := by
  obtain ⟨⟨m5, q20, d1, d2, d3, d4⟩, dh, da, dS, dW, f12, f13, d17, hS⟩ := D
  refine ⟨⟨by omega, q20, S5, ?_, G0, ?_⟩, ?_, ?_, fun s hs => ?_, fun w hw => ?_, ?_, ?_, ?_, hS⟩
  · rw [E8 S 6 (by omega) (by omega) (by omega) (by omega) (by omega) (by omega)]; exact d2
  · rw [G 1 (by omega) (by omega) (by omega) (by omega)]; exact d4
  · rw [G 2 (by omega) (by omega) (by omega) (by omega), E8 S 7 (by omega) (by omega) (by omega) (by omega) (by omega) (by omega)]; exact dh
  · rw [G 3 (by omega) (by omega) (by omega) (by omega), E8 S 8 (by omega) (by omega) (by omega) (by omega) (by omega) (by omega)]; exact da
  · unfold ISeaS
    rw [shf_60]
    by_cases c : s = m
    · subst c
      rw [S2, S3, S4, G34, G39]
      refine ⟨by omega, by omega, fun i hi => ?_, fun i hi => ?_, rfl, hv.1, hv.2, rfl, hv2.1, hv2.2⟩
      · rw [s2 i hi]
        by_cases c : i < N
        · rw [if_pos c, if_pos (by omega), S1 i c]
        · rw [if_neg c, if_neg (by omega)]
      · rw [S1 i (by omega)]
        exact k5 i (by omega)
    · obtain ⟨i1, i2, i3, i4, i5⟩ := dS s (by omega)
      rw [shf_60] at i3 i5
      rw [E8 (S + 2) s (by omega) (by omega) (by omega) (by omega) (by omega) (by omega), E8 (S + 3) s (by omega) (by omega) (by omega) (by omega) (by omega) (by omega), E8 (S + 4) s (by omega) (by omega) (by omega) (by omega) (by omega) (by omega), G (34 + s) (by omega) (by omega) (by omega) (by omega), G (39 + s) (by omega) (by omega) (by omega) (by omega)]
      refine ⟨i1, i2, fun i hi => ?_, fun i hi => ?_, i5⟩
      · rw [G _ (by omega) (by omega) (by omega) (by omega), E8 (S + 1) (6 * s + i) (by omega) (by omega) (by omega) (by omega) (by omega) (by omega)]
        exact i3 i hi
      · rw [E8 (S + 1) (6 * s + i) (by omega) (by omega) (by omega) (by omega) (by omega) (by omega)]
        exact i4 i hi
  · have I := dW w hw
    have e5' : σ8 (S + 5) = σ (S + 5) := funext fun j => E8 _ j (by omega) (by omega) (by omega) (by omega) (by omega) (by omega)
    unfold ISeaW at *
    rw [shf_60] at *
    rw [e5']
    refine ⟨fun j hj => ?_, I.2⟩
    rw [G _ (by omega) (by omega) (by omega) (by omega)]
    exact I.1 j hj
  · rw [G57 12 (by omega), E8 17 2 (by omega) (by omega) (by omega) (by omega) (by omega) (by omega)]; exact f12
  · rw [G57 13 (by omega), E8 17 3 (by omega) (by omega) (by omega) (by omega) (by omega) (by omega)]; exact f13
  · rw [E8 17 1 (by omega) (by omega) (by omega) (by omega) (by omega) (by omega)]; exact d17
theorem surf_ok {σ ρ : SG} {B : Nat → Int} {L b S m q n : Nat} (P : TC σ B L b) (R : TB ρ B L b) (hT : Txt B L) (D : SeaD σ ρ S m q) (hw : waB B L b (strB 0) = true) (hn : 500 < n) : ∃ v σ' ρ', X7_passSurfer n σ = some (v, σ') ∧ X12_surferLine n ρ = some ρ' ∧ LO B L S b σ ρ v σ' ρ' := by
  obtain ⟨⟨m5, q20, d1, d2, d3, d4⟩, -, -, -, -, -, -, d17, hS⟩ := id D
  by_cases c0 : m < 5
  · rcases surfN_ok P R hT D hw hn c0 with ⟨σ', ρ', h1, h2, h3, h4, h5⟩ | ⟨b1, N, b2, σ1, ρ1, h1, h2, h3, P1, R1, k2, k3, k5, E1, fC, S2, S1, G1, s2⟩
    · exact ⟨0, σ', ρ', h1, h2, h3, h4, Or.inr ⟨rfl, h5⟩⟩
    · have key := h1 _ (surfC_ok (n := n) P1 R1 hT ((E1 17 1 (by omega) (by omega) (by omega)).trans d17) ((E1 S 5 (by omega) (by omega) (by omega)).trans d1) c0 hS ((G1 61 0 (by omega) (by omega)).trans d3) hn)
      obtain ⟨⟨v, σ'⟩, e1, hq⟩ := key
      obtain ⟨ρ', e2, hO⟩ := h2 _ hq
      have fR : FsR ρ ρ1 := fun c j q1 q2 => G1 c j (by omega) (by omega)
      rcases hO with ⟨o1, o2, o3, o4⟩ | ⟨o1, b', v6, v8, o2, o3, o4, o5, o6, o7, o8, o9, o10, o11, o12, o13, o14, o15⟩
      · exact ⟨v, σ', ρ', e1, e2, fC.tr o2, fR.tr o3, Or.inr ⟨o1, o4⟩⟩
      · refine ⟨v, σ', ρ', e1, e2, fC.tr o8, fR.tr (fun c j q1 q2 => o12 c j (by omega) (by omega)), Or.inl ⟨o1, b', m + 1, q, by omega, o3, o4, ?_⟩⟩
        have o7' : ∀ c j, c ≠ 15 → ¬ (c = S + 3 ∧ j = m) → ¬ (c = S + 4 ∧ j = m) → ¬ (c = S ∧ j = 5) → σ' c j = σ1 c j := o7
        refine surf_fin D c0 k2 k3 k5 (fun c j q1 q2 q3 q4 q5 q6 => (o7' c j q1 q4 q5 q6).trans (E1 c j q1 q2 q3)) o9 o10 o11 ?_ (fun i hi => ?_) o5 o6 (fun j q1 q2 q3 q4 => (o12 61 j (by omega) (by omega)).trans (G1 61 j (by omega) (by omega))) (fun i hi => ?_) o13 o14 o15 (fun j hj => (o12 57 j (by omega) (by omega)).trans (G1 57 j (by omega) (by omega)))
        · exact (o7' _ _ (by omega) (by omega) (by omega) (by omega)).trans S2
        · exact (o7' _ _ (by omega) (by omega) (by omega) (by omega)).trans (S1 i hi)
        · exact (o12 61 _ (by omega) (by omega)).trans (s2 i hi)
  · obtain ⟨ρ1, u1, u2, u3⟩ := R.fails (n := n) hT
    refine ⟨0, σ, ρ1, of_wp ?_, of_wp ?_, FsC.rf, u2.s, Or.inr ⟨rfl, by rw [P.2.2.2.1]; exact u3⟩⟩
    · unfold X7_passSurfer
      exact wp_ckI S d17 (isSea_S hS) (wp_ifF (by rw [d1, w32i (by omega)]; omega) (wp_some rfl))
    · unfold X12_surferLine
      exact wp_rdI 0 rfl (by decide) (by decide) (wp_lt (wp_ifT (by rw [d3, w32i (by omega)]; omega) (wp_bind (wp_of u1 (wp_some rfl)))))
