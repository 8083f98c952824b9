/-! ===== the sea's text: waves, minutes, again; a line ===== -/
theorem wave_fin {σ ρ σ8 ρ8 : SG} {S m q : Nat} {mi pk y hg ln : Int} (D : SeaD σ ρ S m q) (c0 : q < 20) (E8 : ∀ c j, c ≠ 15 → ¬ (c = S + 5 ∧ 5 * q ≤ j ∧ j < 5 * q + 5) → ¬ (c = S ∧ j = 6) → σ8 c j = σ c j) (S6 : σ8 S 6 = ((q + 1 : Nat) : Int)) (W : σ8 (S + 5) (5 * q) = mi ∧ σ8 (S + 5) (5 * q + 1) = pk ∧ σ8 (S + 5) (5 * q + 2) = y ∧ σ8 (S + 5) (5 * q + 3) = hg ∧ σ8 (S + 5) (5 * q + 4) = ln)
    (hmi : (if q = 0 then 1 else σ (S + 5) (5 * (q - 1))) ≤ mi ∧ mi ≤ 99) (hpk : 0 ≤ pk ∧ pk ≤ 40) (hy : 1 ≤ y ∧ y ≤ 3) (hhg : 1 ≤ hg ∧ hg ≤ 9) (hln : 1 ≤ ln ∧ ln ≤ 15) (G : ∀ j, j ≠ 1 → ¬ (44 + 5 * q ≤ j ∧ j < 44 + 5 * q + 5) → ρ8 61 j = ρ 61 j) (GW : ρ8 61 (44 + 5 * q) = mi ∧ ρ8 61 (44 + 5 * q + 1) = pk ∧ ρ8 61 (44 + 5 * q + 2) = y ∧ ρ8 61 (44 + 5 * q + 3) = hg ∧ ρ8 61 (44 + 5 * q + 4) = ln) (G1 : ρ8 61 1 = ((q + 1 : Nat) : Int)) (G57 : ∀ j, j = 12 ∨ j = 13 → ρ8 57 j = ρ 57 j) : SeaD σ8 ρ8 S m (q + 1) := by
  obtain ⟨⟨m5, q20, d1, d2, d3, d4⟩, dh, da, dS, dW, f12, f13, d17, hS⟩ := D
  refine ⟨⟨m5, by omega, ?_, S6, ?_, G1⟩, ?_, ?_, fun s hs => ?_, fun w hw => ?_, ?_, ?_, ?_, hS⟩
  · rw [E8 S 5 (by omega) (by omega) (by omega)]; exact d1
  · rw [G 0 (by omega) (by omega)]; exact d3
  · rw [G 2 (by omega) (by omega), E8 S 7 (by omega) (by omega) (by omega)]; exact dh
  · rw [G 3 (by omega) (by omega), E8 S 8 (by omega) (by omega) (by omega)]; exact da
  · obtain ⟨i1, i2, i3, i4, i5⟩ := dS s hs
    rw [shf_60] at i3 i5
    have e : ∀ i, 0 < i → i < 5 → σ8 (S + i) = σ (S + i) := fun i h1 h2 => funext fun j => E8 _ j (by omega) (by omega) (by omega)
    unfold ISeaS
    rw [shf_60, e 1 (by decide) (by decide), e 2 (by decide) (by decide), e 3 (by decide) (by decide), e 4 (by decide) (by decide), G (34 + s) (by omega) (by omega), G (39 + s) (by omega) (by omega)]
    refine ⟨i1, i2, fun i hi => ?_, i4, i5⟩
    rw [G _ (by omega) (by omega)]
    exact i3 i hi
  · unfold ISeaW
    rw [shf_60]
    by_cases c : w = q
    · subst c
      obtain ⟨a0, a1, a2, a3, a4⟩ := W
      obtain ⟨b0, b1, b2, b3, b4⟩ := GW
      have h1 : 1 ≤ mi := by
        by_cases z : w = 0
        · rw [if_pos z] at hmi; exact hmi.1
        · rw [if_neg z] at hmi
          obtain ⟨-, w1, -⟩ := dW (w - 1) (by omega)
          omega
      rw [a0, a1, a2, a3, a4]
      refine ⟨fun j hj => ?_, h1, hmi.2, hpk.1, hpk.2, hy.1, hy.2, hhg.1, hhg.2, hln.1, hln.2, fun v hv => ?_⟩
      · have : j = 0 ∨ j = 1 ∨ j = 2 ∨ j = 3 ∨ j = 4 := by omega
        rcases this with rfl | rfl | rfl | rfl | rfl
        · exact b0.trans a0.symm
        · exact b1.trans a1.symm
        · exact b2.trans a2.symm
        · exact b3.trans a3.symm
        · exact b4.trans a4.symm
      · rw [E8 (S + 5) (5 * v) (by omega) (by omega) (by omega)]
        rw [if_neg (by omega)] at hmi
        by_cases z : v = w - 1
        · rw [z]; exact hmi.1
        · obtain ⟨-, -, -, -, -, -, -, -, -, -, -, w3⟩ := dW (w - 1) (by omega)
          exact Int.le_trans (w3 v (by omega)) hmi.1
    · have I := dW w (by omega)
      unfold ISeaW at I
      rw [shf_60] at I
      have e : ∀ i, i < 5 → σ8 (S + 5) (5 * w + i) = σ (S + 5) (5 * w + i) := fun i hi => E8 _ _ (by omega) (by omega) (by omega)
      have e0 : σ8 (S + 5) (5 * w) = σ (S + 5) (5 * w) := e 0 (by decide)
      rw [e0, e 1 (by decide), e 2 (by decide), e 3 (by decide), e 4 (by decide)]
      refine ⟨fun j hj => ?_, I.2.1, I.2.2.1, I.2.2.2.1, I.2.2.2.2.1, I.2.2.2.2.2.1, I.2.2.2.2.2.2.1, I.2.2.2.2.2.2.2.1, I.2.2.2.2.2.2.2.2.1, I.2.2.2.2.2.2.2.2.2.1, I.2.2.2.2.2.2.2.2.2.2.1, fun v hv => ?_⟩
      · rw [G _ (by omega) (by omega), e j hj]
        exact I.1 j hj
      · rw [E8 (S + 5) (5 * v) (by omega) (by omega) (by omega)]
        exact I.2.2.2.2.2.2.2.2.2.2.2 v hv
  · rw [G57 12 (by omega), E8 17 2 (by omega) (by omega) (by omega)]; exact f12
  · rw [G57 13 (by omega), E8 17 3 (by omega) (by omega) (by omega)]; exact f13
  · rw [E8 17 1 (by omega) (by omega) (by omega)]; exact d17
theorem wave_ok {σ ρ : SG} {B : Nat → Int} {L b S m q n : Nat} (P : TC σ B L b) (R : TB ρ B L b) (hT : Txt B L) (D : SeaD σ ρ S m q) (hw : waB B L b (strB 5) = true) (hn : 500 < n) : ∃ v σ' ρ', X7_passWave n σ = some (v, σ') ∧ X12_waveLine n ρ = some ρ' ∧ LO B L S b σ ρ v σ' ρ' := by
  obtain ⟨⟨m5, q20, d1, d2, d3, d4⟩, -, -, -, -, -, -, d17, hS⟩ := id D
  by_cases c0 : q < 20
  · rcases waveH_ok P R hT D hw hn c0 with ⟨σ', ρ', h1, h2, h3, h4, h5⟩ | ⟨b2, mi, pk, y, σ1, ρ1, h1, h2, h3, P1, R1, hmi, hpk, hy, F1, G1, x1, x2, x3⟩
    · exact ⟨0, σ', ρ', h1, h2, h3.s, h4, Or.inr ⟨rfl, h5⟩⟩
    · have key := h1 _ (waveT_ok (n := n) (mi := mi) (pk := pk) P1 R1 hT ((F1 17 1 (by omega)).trans d17) ((F1 S 6 (by omega)).trans d2) c0 hS ((G1 61 1 (by omega) (by omega)).trans d4) hy hn)
      obtain ⟨⟨v, σ'⟩, e1, hq⟩ := key
      obtain ⟨ρ', e2, hO⟩ := h2 _ hq
      have fR : FsR ρ ρ1 := fun c j q1 q2 => G1 c j (by omega) (by omega)
      rcases hO with ⟨o1, o2, o3, o4⟩ | ⟨o1, b', hg, ln, o2, o3, o4, o5, o6, o7, o8, o9, o10, o11, o12, o13, o14⟩
      · exact ⟨v, σ', ρ', e1, e2, F1.s.tr o2, fR.tr o3, Or.inr ⟨o1, o4⟩⟩
      · refine ⟨v, σ', ρ', e1, e2, F1.s.tr o8, fR.tr (fun c j q1 q2 => o11 c j (by omega) (by omega)), Or.inl ⟨o1, b', m, q + 1, by omega, o3, o4, ?_⟩⟩
        exact wave_fin D c0 (fun c j q1 q2 q3 => (o7 c j q1 q2 q3).trans (F1 c j (by omega))) o9 o10 hmi hpk hy o5 o6 (fun j q1 q2 => (o11 61 j (by omega) (by omega)).trans (G1 61 j (by omega) (by omega))) ⟨(o11 61 _ (by omega) (by omega)).trans x1, (o11 61 _ (by omega) (by omega)).trans x2, (o11 61 _ (by omega) (by omega)).trans x3, o12, o13⟩ o14 (fun j hj => (o11 57 j (by omega) (by omega)).trans (G1 57 j (by omega) (by omega)))
  · obtain ⟨ρ1, u1, u2, u3⟩ := R.fails (n := n) hT
    refine ⟨0, σ, ρ1, of_wp ?_, of_wp ?_, FsC.rf, u2.s, Or.inr ⟨rfl, by rw [P.2.2.2.1]; exact u3⟩⟩
    · unfold X7_passWave
      exact wp_ckI S d17 (isSea_S hS) (wp_ifF (by rw [d2, w32i (by omega)]; omega) (wp_some rfl))
    · unfold X12_waveLine
      exact wp_rdI 1 rfl (by decide) (by decide) (wp_lt (wp_ifT (by rw [d4, w32i (by omega)]; omega) (wp_bind (wp_of u1 (wp_some rfl)))))
theorem SeaD.num {σ ρ σ' ρ' : SG} {S m q : Nat} (D : SeaD σ ρ S m q) (E : ∀ c j, c ≠ 15 → ¬ (c = 17 ∧ (j = 2 ∨ j = 3)) → ¬ (c = S ∧ (j = 7 ∨ j = 8)) → σ' c j = σ c j) (G : ∀ j, j ≠ 2 → j ≠ 3 → ρ' 61 j = ρ 61 j) (h2 : ρ' 61 2 = σ' S 7 ∧ 1 ≤ σ' S 7 ∧ σ' S 7 ≤ 60) (h3 : ρ' 61 3 = σ' S 8 ∧ 0 ≤ σ' S 8 ∧ σ' S 8 ≤ 30) (h4 : ρ' 57 12 = σ' 17 2 ∧ (σ' 17 2 = 0 ∨ σ' 17 2 = 1)) (h5 : ρ' 57 13 = σ' 17 3 ∧ (σ' 17 3 = 0 ∨ σ' 17 3 = 1)) : SeaD σ' ρ' S m q := by
  obtain ⟨⟨m5, q20, d1, d2, d3, d4⟩, dh, da, dS, dW, f12, f13, d17, hS⟩ := D
  have e : ∀ i, 0 < i → i < 6 → σ' (S + i) = σ (S + i) := fun i h1 h2 => funext fun j => E _ j (by omega) (by omega) (by omega)
  refine ⟨⟨m5, q20, (E S 5 (by omega) (by omega) (by omega)).trans d1, (E S 6 (by omega) (by omega) (by omega)).trans d2, (G 0 (by omega) (by omega)).trans d3, (G 1 (by omega) (by omega)).trans d4⟩, h2, h3, fun s hs => ?_, fun w hw => ?_, h4, h5, (E 17 1 (by omega) (by omega) (by omega)).trans d17, hS⟩
  · obtain ⟨i1, i2, i3, i4, i5⟩ := dS s hs
    rw [shf_60] at i3 i5
    unfold ISeaS
    rw [shf_60, e 1 (by decide) (by decide), e 2 (by decide) (by decide), e 3 (by decide) (by decide), e 4 (by decide) (by decide), G (34 + s) (by omega) (by omega), G (39 + s) (by omega) (by omega)]
    refine ⟨i1, i2, fun i hi => ?_, i4, i5⟩
    rw [G _ (by omega) (by omega)]
    exact i3 i hi
  · have I := dW w hw
    unfold ISeaW at *
    rw [shf_60] at *
    rw [e 5 (by decide) (by decide)]
    refine ⟨fun j hj => ?_, I.2⟩
    rw [G _ (by omega) (by omega)]
    exact I.1 j hj
/-- the reference's branches for heat and again -/
def heatR (n : Nat) (σ15 : SG) : Option SG := if w32 (σ15 57 12) = 0 then lt (up σ15 57 12 1) fun σ42 => bnd2 (X12_after n 50 1 60 σ42) fun v44 σ45 => rdA 144 2 fun j46 => lt (up σ45 61 j46 v44) fun σ47 => some (σ47) else bnd2 (X12_isWord n 51 σ15) fun v30 σ31 => if w32 v30 = 0 then (X12_fails n σ31).bind fun σ33 => some (σ33) else if w32 (σ31 57 13) = 0 then lt (up σ31 57 13 1) fun σ36 => bnd2 (X12_after n 51 0 30 σ36) fun v38 σ39 => rdA 144 3 fun j40 => lt (up σ39 61 j40 v38) fun σ41 => some (σ41) else (X12_fails n σ31).bind fun σ35 => some (σ35)
def againR (n : Nat) (σ18 : SG) : Option SG := if w32 (σ18 57 13) = 0 then lt (up σ18 57 13 1) fun σ23 => bnd2 (X12_after n 51 0 30 σ23) fun v25 σ26 => rdA 144 3 fun j27 => lt (up σ26 61 j27 v25) fun σ28 => some (σ28) else (X12_fails n σ18).bind fun σ22 => some (σ22)
theorem heat_ok {σ ρ : SG} {B : Nat → Int} {L b S m q n : Nat} (P : TC σ B L b) (R : TB ρ B L b) (hT : Txt B L) (D : SeaD σ ρ S m q) (hw : waB B L b (strB 3) = true) (hn : 500 < n) : ∃ v σ' ρ', X7_passMinutes n σ = some (v, σ') ∧ heatR n ρ = some ρ' ∧ LO B L S b σ ρ v σ' ρ' := by
  obtain ⟨-, dh, da, -, -, ⟨f1, f2⟩, f13, d17, hS⟩ := id D
  rcases f2 with f2 | f2
  · have P0 : TC (up σ 17 2 1) B L b := P.cg (fun j => up_ne (by omega)) (fun j => up_ne (by omega))
    obtain ⟨σ1, a1, P1, a3⟩ := P0.adv (n := n) hT hn
    have R0 : TR (up ρ 57 12 1) B L b := R.tr.up (Or.inr (Or.inr (Or.inr ⟨rfl, by decide⟩)))
    obtain ⟨v, ρ1, m1, m2, σ2, s1, s2⟩ := wk_ok (n := n) (a := 3) (a' := 50) (lo := 1) (hi := 60) P1 R0 hT (by decide) (wd_eq 3 (by decide)) hw (by decide) hn
    have F2 : FrT (up σ 17 2 1) σ2 := a3.tr s1
    have g17 : ∀ σ', FrT (up σ 17 2 1) σ' → σ' 17 1 = (S : Int) := fun σ' f => by rw [f 17 1 (by omega), up_ne (by omega)]; exact d17
    have hR : heatR n ρ = some (up ρ1 61 2 v) := of_wp (by
      unfold heatR
      exact wp_ifT (by rw [f1, f2]; rfl) (wp_lt (wp_bnd2 (wp_of m1 (wp_rdI 2 rfl (by decide) (by decide) (wp_lt (wp_some rfl)))))))
    have hRf : FsR ρ (up ρ1 61 2 v) := fun c j q1 q2 => by rw [up_ne (by omega), m2 c j (by omega), up_ne (by omega)]
    have hC : ∀ (v6 : Int) (σ2 : SG), X10_passNumber n 1 60 2 σ1 = some (v6, σ2) → FrT (up σ 17 2 1) σ2 → X7_passMinutes n σ = some (if w32 v6 = -1 then 0 else 1, up σ2 S 7 v6) := fun v6 σ2 h1 h2 => of_wp (by
      unfold X7_passMinutes
      refine wp_ifT (by rw [f2]; rfl) (wp_lt (wp_bind (wp_of a1 (wp_ckI S (g17 _ a3) (isSea_S hS) (wp_bnd2 (wp_of h1 (wp_lt (wp_ckI S (by dsimp only; rw [up_ne (by omega)]; exact g17 _ h2) (isSea_S hS) ?_))))))))
      dsimp only
      by_cases c : w32 v6 = -1
      · rw [if_pos c]
        exact wp_ifT (by rw [up_eq rfl rfl]; exact c) (wp_some rfl)
      · rw [if_neg c]
        exact wp_ifF (by rw [up_eq rfl rfl]; exact c) (wp_some rfl))
    have hCf : ∀ v6, FsC S σ (up σ2 S 7 v6) := fun v6 c j q1 q2 q3 => by rw [up_ne (by omega), F2 c j (by omega), up_ne (by omega)]
    rcases s2 with ⟨s2, s3⟩ | ⟨s2, lo, hi, b', hb', P2, R2⟩
    · refine ⟨_, _, _, hC _ _ s2 F2, hR, hCf _, hRf, Or.inr ⟨rfl, ?_⟩⟩
      rw [up_ne (by omega)]
      exact s3.up (Or.inl rfl)
    · refine ⟨_, _, _, hC _ _ s2 F2, hR, hCf _, hRf, Or.inl ⟨if_neg (by rw [w32i (by omega)]; omega), b', m, q, hb', ?_, R2.up (Or.inl rfl), ?_⟩⟩
      · exact P2.cg (fun j => up_ne (by omega)) (fun j => up_ne (by omega))
      · refine D.num (fun c j q1 q2 q3 => ?_) (fun j q1 q2 => ?_) ⟨?_, ?_, ?_⟩ ⟨?_, ?_, ?_⟩ ⟨?_, ?_⟩ ⟨?_, ?_⟩
        · rw [up_ne (by omega), F2 c j (by omega), up_ne (by omega)]
        · rw [up_ne (by omega), m2 61 j (by omega), up_ne (by omega)]
        · rw [up_eq rfl rfl, up_eq rfl rfl]
        · rw [up_eq rfl rfl]; exact lo
        · rw [up_eq rfl rfl]; exact hi
        · rw [up_ne (by omega), m2 61 3 (by omega), up_ne (by omega), up_ne (by omega), F2 S 8 (by omega), up_ne (by omega)]; exact da.1
        · rw [up_ne (by omega), F2 S 8 (by omega), up_ne (by omega)]; exact da.2.1
        · rw [up_ne (by omega), F2 S 8 (by omega), up_ne (by omega)]; exact da.2.2
        · rw [up_ne (by omega), m2 57 12 (by omega), up_eq rfl rfl, up_ne (by omega), F2 17 2 (by omega), up_eq rfl rfl]
        · rw [up_ne (by omega), F2 17 2 (by omega), up_eq rfl rfl]; exact Or.inr rfl
        · rw [up_ne (by omega), m2 57 13 (by omega), up_ne (by omega), up_ne (by omega), F2 17 3 (by omega), up_ne (by omega)]; exact f13.1
        · rw [up_ne (by omega), F2 17 3 (by omega), up_ne (by omega)]; exact f13.2
  · obtain ⟨ρ1, u1, u2, u3⟩ := R.tr.isWord (n := n) (a := 51) hT (by decide) hn
    rw [show strB 51 = strB 4 from wd_eq 4 (by decide), wa_len hw (w' := strB 4) (by decide)] at u1
    obtain ⟨ρ2, v1, v2, v3⟩ := u3.fails (n := n) hT
    refine ⟨0, σ, ρ2, of_wp ?_, of_wp ?_, FsC.rf, (u2.tr v2).s, Or.inr ⟨rfl, by rw [P.2.2.2.1]; exact v3⟩⟩
    · unfold X7_passMinutes
      exact wp_ifF (by rw [f2]; decide) (wp_some rfl)
    · unfold heatR
      exact wp_ifF (by rw [f1, f2]; decide) (wp_bnd2 (wp_of u1 (wp_ifT rfl (wp_bind (wp_of v1 (wp_some rfl))))))
theorem again2_ok {σ ρ : SG} {B : Nat → Int} {L b S m q n : Nat} (P : TC σ B L b) (R : TB ρ B L b) (hT : Txt B L) (D : SeaD σ ρ S m q) (hw : waB B L b (strB 4) = true) (hn : 500 < n) : ∃ v σ' ρ', X7_passAgain n σ = some (v, σ') ∧ againR n ρ = some ρ' ∧ LO B L S b σ ρ v σ' ρ' := by
  obtain ⟨-, dh, da, -, -, f12, ⟨f1, f2⟩, d17, hS⟩ := id D
  rcases f2 with f2 | f2
  · have P0 : TC (up σ 17 3 1) B L b := P.cg (fun j => up_ne (by omega)) (fun j => up_ne (by omega))
    obtain ⟨σ1, a1, P1, a3⟩ := P0.adv (n := n) hT hn
    have R0 : TR (up ρ 57 13 1) B L b := R.tr.up (Or.inr (Or.inr (Or.inr ⟨rfl, by decide⟩)))
    obtain ⟨v, ρ1, m1, m2, σ2, s1, s2⟩ := wk_ok (n := n) (a := 4) (a' := 51) (lo := 0) (hi := 30) P1 R0 hT (by decide) (wd_eq 4 (by decide)) hw (by decide) hn
    have F2 : FrT (up σ 17 3 1) σ2 := a3.tr s1
    have g17 : ∀ σ', FrT (up σ 17 3 1) σ' → σ' 17 1 = (S : Int) := fun σ' f => by rw [f 17 1 (by omega), up_ne (by omega)]; exact d17
    have hR : againR n ρ = some (up ρ1 61 3 v) := of_wp (by
      unfold againR
      exact wp_ifT (by rw [f1, f2]; rfl) (wp_lt (wp_bnd2 (wp_of m1 (wp_rdI 3 rfl (by decide) (by decide) (wp_lt (wp_some rfl)))))))
    have hRf : FsR ρ (up ρ1 61 3 v) := fun c j q1 q2 => by rw [up_ne (by omega), m2 c j (by omega), up_ne (by omega)]
    have hC : ∀ (v6 : Int) (σ2 : SG), X10_passNumber n 0 30 2 σ1 = some (v6, σ2) → FrT (up σ 17 3 1) σ2 → X7_passAgain n σ = some (if w32 v6 = -1 then 0 else 1, up σ2 S 8 v6) := fun v6 σ2 h1 h2 => of_wp (by
      unfold X7_passAgain
      refine wp_ifT (by rw [f2]; rfl) (wp_lt (wp_bind (wp_of a1 (wp_ckI S (g17 _ a3) (isSea_S hS) (wp_bnd2 (wp_of h1 (wp_lt (wp_ckI S (by dsimp only; rw [up_ne (by omega)]; exact g17 _ h2) (isSea_S hS) ?_))))))))
      dsimp only
      by_cases c : w32 v6 = -1
      · rw [if_pos c]
        exact wp_ifT (by rw [up_eq rfl rfl]; exact c) (wp_some rfl)
      · rw [if_neg c]
        exact wp_ifF (by rw [up_eq rfl rfl]; exact c) (wp_some rfl))
    have hCf : ∀ v6, FsC S σ (up σ2 S 8 v6) := fun v6 c j q1 q2 q3 => by rw [up_ne (by omega), F2 c j (by omega), up_ne (by omega)]
    rcases s2 with ⟨s2, s3⟩ | ⟨s2, lo, hi, b', hb', P2, R2⟩
    · refine ⟨_, _, _, hC _ _ s2 F2, hR, hCf _, hRf, Or.inr ⟨rfl, ?_⟩⟩
      rw [up_ne (by omega)]
      exact s3.up (Or.inl rfl)
    · refine ⟨_, _, _, hC _ _ s2 F2, hR, hCf _, hRf, Or.inl ⟨if_neg (by rw [w32i (by omega)]; omega), b', m, q, hb', ?_, R2.up (Or.inl rfl), ?_⟩⟩
      · exact P2.cg (fun j => up_ne (by omega)) (fun j => up_ne (by omega))
      · refine D.num (fun c j q1 q2 q3 => ?_) (fun j q1 q2 => ?_) ⟨?_, ?_, ?_⟩ ⟨?_, ?_, ?_⟩ ⟨?_, ?_⟩ ⟨?_, ?_⟩
        · rw [up_ne (by omega), F2 c j (by omega), up_ne (by omega)]
        · rw [up_ne (by omega), m2 61 j (by omega), up_ne (by omega)]
        · rw [up_ne (by omega), m2 61 2 (by omega), up_ne (by omega), up_ne (by omega), F2 S 7 (by omega), up_ne (by omega)]; exact dh.1
        · rw [up_ne (by omega), F2 S 7 (by omega), up_ne (by omega)]; exact dh.2.1
        · rw [up_ne (by omega), F2 S 7 (by omega), up_ne (by omega)]; exact dh.2.2
        · rw [up_eq rfl rfl, up_eq rfl rfl]
        · rw [up_eq rfl rfl]; exact lo
        · rw [up_eq rfl rfl]; exact hi
        · rw [up_ne (by omega), m2 57 12 (by omega), up_ne (by omega), up_ne (by omega), F2 17 2 (by omega), up_ne (by omega)]; exact f12.1
        · rw [up_ne (by omega), F2 17 2 (by omega), up_ne (by omega)]; exact f12.2
        · rw [up_ne (by omega), m2 57 13 (by omega), up_eq rfl rfl, up_ne (by omega), F2 17 3 (by omega), up_eq rfl rfl]
        · rw [up_ne (by omega), F2 17 3 (by omega), up_eq rfl rfl]; exact Or.inr rfl
  · obtain ⟨ρ2, v1, v2, v3⟩ := R.fails (n := n) hT
    refine ⟨0, σ, ρ2, of_wp ?_, of_wp ?_, FsC.rf, v2.s, Or.inr ⟨rfl, by rw [P.2.2.2.1]; exact v3⟩⟩
    · unfold X7_passAgain
      exact wp_ifF (by rw [f2]; decide) (wp_some rfl)
    · unfold againR
      exact wp_ifF (by rw [f1, f2]; decide) (wp_bind (wp_of v1 (wp_some rfl)))
theorem LO.v {B : Nat → Int} {L S b : Nat} {σ ρ σ' ρ' : SG} {v : Int} (h : LO B L S b σ ρ v σ' ρ') : v = 0 ∨ v = 1 := by
  rcases h.2.2 with ⟨h, -⟩ | ⟨h, -⟩
  · exact Or.inr h
  · exact Or.inl h
theorem LO.pre {B : Nat → Int} {L S b : Nat} {σ ρ ρ1 σ' ρ' : SG} {v : Int} (h : LO B L S b σ ρ1 v σ' ρ') (f : FrK ρ ρ1) : LO B L S b σ ρ v σ' ρ' := ⟨h.1, f.s.tr h.2.1, h.2.2⟩
/-- a line, on both sides -/
theorem line2_ok {σ ρ : SG} {B : Nat → Int} {L b S m q n : Nat} (P : TC σ B L b) (R : TR ρ B L b) (hT : Txt B L) (D : SeaD σ ρ S m q) (hn : 500 < n) : ∃ v σ' ρ', X7_passLine n σ = some (v, σ') ∧ (∀ Q, wp (X12_seaLine_j118 n ρ') Q → wp (X12_seaLine n ρ) Q) ∧ LO B L S b σ ρ v σ' ρ' := by
  obtain ⟨ρ0, z1, z2, z3⟩ := R.blanks (n := n) hT hn
  obtain ⟨ρ1, u1, u2, u3⟩ := z3.tr.isWord (n := n) (a := 47) hT (by decide) hn
  rw [show strB 47 = strB 0 from wd_eq 0 (by decide)] at u1
  have c0 := P.isWord (n := n) (a := 0) hT (by decide) hn
  have wv : ∀ v : Int, v = 0 ∨ v = 1 → wZ v = v := fun v h => by rcases h with rfl | rfl <;> decide
  cases w0 : waB B L b (strB 0)
  case true =>
    rw [w0] at u1 c0
    obtain ⟨v, σ', ρ', e1, e2, h⟩ := surf_ok P u3 hT (D.cg FrT.rf (z2.tr u2)) w0 hn
    refine ⟨v, σ', ρ', of_wp ?_, fun Q hQ => ?_, h.pre (z2.tr u2)⟩
    · unfold X7_passLine
      exact wp_bind (wp_of c0 (wp_ifF (by decide) (wp_bnd2 (wp_of e1 (wp_some (by rw [wv v h.v]))))))
    · unfold X12_seaLine
      exact wp_bind (wp_of z1 (wp_bnd2 (wp_of u1 (wp_bind (wp_ifF (by dsimp only; decide) (wp_bind (wp_of e2 (wp_some hQ))))))))
  rw [w0] at u1 c0
  obtain ⟨ρ2, v1, v2, v3⟩ := u3.tr.isWord (n := n) (a := 52) hT (by decide) hn
  rw [show strB 52 = strB 5 from wd_eq 5 (by decide)] at v1
  have c5 := P.isWord (n := n) (a := 5) hT (by decide) hn
  have f2 := z2.tr (u2.tr v2)
  cases w5 : waB B L b (strB 5)
  case true =>
    rw [w5] at v1 c5
    obtain ⟨v, σ', ρ', e1, e2, h⟩ := wave_ok P v3 hT (D.cg FrT.rf f2) w5 hn
    refine ⟨v, σ', ρ', of_wp ?_, fun Q hQ => ?_, h.pre f2⟩
    · unfold X7_passLine
      exact wp_bind (wp_of c0 (wp_ifT rfl (wp_bind (wp_of c5 (wp_ifF (by decide) (wp_bnd2 (wp_of e1 (wp_some (by rw [wv v h.v])))))))))
    · unfold X12_seaLine
      exact wp_bind (wp_of z1 (wp_bnd2 (wp_of u1 (wp_bind (wp_ifT rfl (wp_bnd2 (wp_of v1 (wp_ifF (by dsimp only; decide) (wp_bind (wp_of e2 (wp_some hQ)))))))))))
  rw [w5] at v1 c5
  obtain ⟨ρ3, x1, x2, x3⟩ := v3.tr.isWord (n := n) (a := 50) hT (by decide) hn
  rw [show strB 50 = strB 3 from wd_eq 3 (by decide)] at x1
  have c3 := P.isWord (n := n) (a := 3) hT (by decide) hn
  have f3 := f2.tr x2
  cases w3 : waB B L b (strB 3)
  case true =>
    rw [w3] at x1 c3
    obtain ⟨v, σ', ρ', e1, e2, h⟩ := heat_ok P x3 hT (D.cg FrT.rf f3) w3 hn
    refine ⟨v, σ', ρ', of_wp ?_, fun Q hQ => ?_, h.pre f3⟩
    · unfold X7_passLine
      exact wp_bind (wp_of c0 (wp_ifT rfl (wp_bind (wp_of c5 (wp_ifT rfl (wp_bind (wp_of c3 (wp_ifF (by decide) (wp_bnd2 (wp_of e1 (wp_some (by rw [wv v h.v]))))))))))))
    · unfold X12_seaLine
      exact wp_bind (wp_of z1 (wp_bnd2 (wp_of u1 (wp_bind (wp_ifT rfl (wp_bnd2 (wp_of v1 (wp_ifT rfl (wp_bnd2 (wp_of x1 (wp_ifF (by dsimp only; decide) (wp_of e2 hQ))))))))))))
  rw [w3] at x1 c3
  obtain ⟨ρ4, y1, y2, y3⟩ := x3.tr.isWord (n := n) (a := 51) hT (by decide) hn
  rw [show strB 51 = strB 4 from wd_eq 4 (by decide)] at y1
  have c4 := P.isWord (n := n) (a := 4) hT (by decide) hn
  have f4 := f3.tr y2
  cases w4 : waB B L b (strB 4)
  case true =>
    rw [w4] at y1 c4
    obtain ⟨v, σ', ρ', e1, e2, h⟩ := again2_ok P y3 hT (D.cg FrT.rf f4) w4 hn
    refine ⟨v, σ', ρ', of_wp ?_, fun Q hQ => ?_, h.pre f4⟩
    · unfold X7_passLine
      refine wp_bind (wp_of c0 (wp_ifT rfl (wp_bind (wp_of c5 (wp_ifT rfl (wp_bind (wp_of c3 (wp_ifT rfl (wp_bind (wp_of c4 (wp_ifF (by decide) (wp_bnd2 (wp_of e1 ?_)))))))))))))
      rcases h.v with rfl | rfl
      · exact wp_ifT rfl (wp_some rfl)
      · exact wp_ifF (by dsimp only; decide) (wp_some rfl)
    · unfold X12_seaLine
      exact wp_bind (wp_of z1 (wp_bnd2 (wp_of u1 (wp_bind (wp_ifT rfl (wp_bnd2 (wp_of v1 (wp_ifT rfl (wp_bnd2 (wp_of x1 (wp_ifT rfl (wp_bnd2 (wp_of y1 (wp_ifF (by dsimp only; decide) (wp_of e2 hQ)))))))))))))))
  rw [w4] at y1 c4
  obtain ⟨ρ5, t1, t2, t3⟩ := y3.fails (n := n) hT
  refine ⟨0, σ, ρ5, of_wp ?_, fun Q hQ => ?_, FsC.rf, (f4.tr t2).s, Or.inr ⟨rfl, by rw [P.2.2.2.1]; exact t3⟩⟩
  · unfold X7_passLine
    exact wp_bind (wp_of c0 (wp_ifT rfl (wp_bind (wp_of c5 (wp_ifT rfl (wp_bind (wp_of c3 (wp_ifT rfl (wp_bind (wp_of c4 (wp_ifT rfl (wp_some rfl))))))))))))
  · unfold X12_seaLine
    exact wp_bind (wp_of z1 (wp_bnd2 (wp_of u1 (wp_bind (wp_ifT rfl (wp_bnd2 (wp_of v1 (wp_ifT rfl (wp_bnd2 (wp_of x1 (wp_ifT rfl (wp_bnd2 (wp_of y1 (wp_ifT rfl (wp_bind (wp_of t1 (wp_some hQ)))))))))))))))))
