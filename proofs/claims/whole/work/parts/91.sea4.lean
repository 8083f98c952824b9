/-! ===== the sea's text: a wave's line ===== -/
/-- a number behind a word that is known, on both sides -/
theorem wk_ok {σ ρ : SG} {B : Nat → Int} {L b n a a' : Nat} {lo hi : Int} (P : TC σ B L (nx B L b)) (R : TR ρ B L b) (hT : Txt B L) (ha' : a' < 70) (he : strB a' = strB a) (hw : waB B L b (strB a) = true) (hr : (0 ≤ lo ∧ lo ≤ 9999) ∧ 0 ≤ hi ∧ hi ≤ 9999) (hn : 500 < n) :
    ∃ v ρ', X12_after n a' lo hi ρ = some (v, ρ') ∧ FrK ρ ρ' ∧ ∃ σ2, FrT σ σ2 ∧ ((X10_passNumber n lo hi 2 σ = some (-1, σ2) ∧ FR ρ' B L (σ2 15 3)) ∨ (X10_passNumber n lo hi 2 σ = some (v, σ2) ∧ lo ≤ v ∧ v ≤ hi ∧ ∃ b', b < b' ∧ TC σ2 B L b' ∧ TR ρ' B L b')) := by
  obtain ⟨v, ρ1, m1, m2, m3⟩ := R.after (n := n) (a := a') (lo := lo) (hi := hi) hT ha' hr hn
  rw [he, hw, if_pos rfl] at m3
  refine ⟨v, ρ1, m1, m2, ?_⟩
  have hb := R.le.1
  have nb := nx_b (B := B) hb
  obtain ⟨σ2, g3, g4, P2⟩ := P.passNumber (n := n) (dg := 2) (lo := lo) (hi := hi) hT (by decide) hr hn
  refine ⟨σ2, g4, ?_⟩
  cases hu : nuB B L (nx B L b) 2 lo hi
  · rw [hu, if_neg (by decide)] at m3 P2
    rw [hu, if_neg (by decide)] at g3
    exact Or.inl ⟨g3, by rw [P2.2.2.2.1]; exact m3⟩
  · have hv := of_decide_eq_true hu
    rw [hu, if_pos rfl] at m3 P2
    rw [hu, if_pos rfl, ← m3.1] at g3
    refine Or.inr ⟨g3, by rw [m3.1]; exact hv.2.2.1, by rw [m3.1]; exact hv.2.2.2, _, ?_, P2, m3.2⟩
    obtain ⟨t1, t2, t3⟩ := te_b (B := B) nb.2.1
    have nb2 := nx_b (B := B) nb.2.1
    have : nx B L b < L := by
      rcases kd_c (B := B) nb.2.1 with ⟨q, -⟩ | ⟨q, -⟩ | ⟨-, q, -⟩ | ⟨q, -⟩
      · rw [q] at hv; exact absurd hv.1 (by decide)
      · rw [q] at hv; exact absurd hv.1 (by decide)
      · exact q
      · rw [q] at hv; exact absurd hv.1 (by decide)
    have := nb2.2.2 this
    have := te_b (B := B) hb
    omega
/-! the reference's rest of a wave's line, once it failed -/
theorem wvF4 {ρ : SG} {B : Nat → Int} {L q n : Nat} {x : Int} (h : FR ρ B L x) (hq : q < 20) : wp (X12_waveLine_j139 n (44 + (5 * (q : Int))) ρ) (fun ρ' => FsR ρ ρ' ∧ FR ρ' B L x) := by
  unfold X12_waveLine_j139
  refine wp_bnd2 (wp_of h.after (wp_rdI (44 + 5 * q + 3) (by omega) (by omega) (by decide) (wp_lt ?_)))
  have h2 := h.up (k := 61) (j := 44 + 5 * q + 3) (v := (0, ρ).1) (Or.inl rfl)
  refine wp_bnd2 (wp_of h2.after (wp_rdI (44 + 5 * q + 4) (by omega) (by omega) (by decide) (wp_lt (wp_rdI 1 rfl (by decide) (by decide) (wp_rdI 1 rfl (by decide) (by decide) (wp_lt (wp_some ⟨FsR.up.tr (FsR.up.tr FsR.up), (h2.up (Or.inl rfl)).up (Or.inl rfl)⟩)))))))
theorem wvF3 {ρ : SG} {B : Nat → Int} {L q n : Nat} {x y : Int} (h : FR ρ B L x) (hq : q < 20) : wp (X12_waveLine_j123 n (44 + (5 * (q : Int))) y ρ) (fun ρ' => FsR ρ ρ' ∧ FR ρ' B L x) := by
  unfold X12_waveLine_j123
  have h2 := h.up (k := 61) (j := 44 + 5 * q + 2) (v := y) (Or.inl rfl)
  have fin : wp (X12_waveLine_j139 n (44 + (5 * (q : Int))) (up ρ 61 (44 + 5 * q + 2) y)) (fun ρ' => FsR ρ ρ' ∧ FR ρ' B L x) := wp_mono (wvF4 h2 hq) (fun ρ' h => ⟨FsR.up.tr h.1, h.2⟩)
  refine wp_rdI (44 + 5 * q + 2) (by omega) (by omega) (by decide) (wp_lt (wp_rdI (44 + 5 * q + 2) (by omega) (by omega) (by decide) (wp_bind (wp_if (fun _ => wp_bind (wp_of h2.fails (wp_some fin))) (fun _ => wp_some fin)))))
/-- which ways, in the reference -/
def wayR (n q : Nat) (σ15 : SG) : Option SG := (X12_blanks n σ15).bind fun σ17 => bnd2 (X12_takesWord n 53 σ17) fun v19 σ20 => ((if w32 v19 = 0 then bnd2 (X12_takesWord n 54 σ20) fun v45 σ46 => if w32 v45 = 0 then bnd2 (X12_takesWord n 55 σ46) fun v48 σ49 => if w32 v48 = 0 then some ((0, σ49)) else some ((3, σ49)) else some ((2, σ46)) else some ((1, σ20))) : Option (Int × SG)).bind (fun s => X12_waveLine_j123 n (44 + (5 * (q : Int))) s.1 s.2)
theorem wvF2 {ρ : SG} {B : Nat → Int} {L q n : Nat} {x : Int} (h : FR ρ B L x) (hT : Txt B L) (hq : q < 20) (hn : 500 < n) : wp (wayR n q ρ) (fun ρ' => FsR ρ ρ' ∧ FR ρ' B L x) := by
  obtain ⟨ρ1, e1, e2, e3⟩ := h.blanks (n := n) hT hn
  unfold wayR
  refine wp_bind (wp_of e1 (wp_bnd2 (wp_of (e3.takesWord hn) (wp_bind (wp_ifT rfl (wp_bnd2 (wp_of (e3.takesWord hn) (wp_ifT rfl (wp_bnd2 (wp_of (e3.takesWord hn) (wp_ifT rfl (wp_some ?_))))))))))))
  exact wp_mono (wvF3 e3 hq) (fun ρ' h => ⟨e2.s.tr h.1, h.2⟩)
/-- which ways, on both sides -/
theorem ways_ok {σ ρ : SG} {B : Nat → Int} {L b q n : Nat} (P : TC σ B L b) (R : TR ρ B L b) (hT : Txt B L) (hn : 500 < n) : ∃ y σ' ρ', X7_passWays n σ = some (y, σ') ∧ (∀ Q, wp (X12_waveLine_j123 n (44 + (5 * (q : Int))) y ρ') Q → wp (wayR n q ρ) Q) ∧ FrT σ σ' ∧ FrK ρ ρ' ∧ ((y = 0 ∧ σ' 15 3 = (b : Int) ∧ TB ρ' B L b) ∨ (1 ≤ y ∧ y ≤ 3 ∧ ∃ b', b ≤ b' ∧ TC σ' B L b' ∧ TR ρ' B L b')) := by
  obtain ⟨ρ0, z1, z2, z3⟩ := R.blanks (n := n) hT hn
  have hb := P.2.2.1
  have nb := nx_b (B := B) hb
  obtain ⟨t1, -, -⟩ := te_b (B := B) hb
  obtain ⟨σ1, a1, a2, P1⟩ := P.passWord (n := n) (a := 6) hT (by decide) hn
  obtain ⟨ρ1, u1, u2, u3⟩ := z3.tr.takesWord (n := n) (a := 53) hT (by decide) hn
  rw [show strB 53 = strB 6 from wd_eq 6 (by decide)] at u1 u3
  cases w6 : waB B L b (strB 6)
  case true =>
    rw [w6] at a1 u1
    rw [w6, if_pos rfl] at P1 u3
    refine ⟨1, σ1, ρ1, of_wp ?_, fun Q hQ => ?_, a2, z2.tr u2, Or.inr ⟨by decide, by decide, nx B L b, by omega, P1, u3⟩⟩
    · unfold X7_passWays
      exact wp_bnd2 (wp_of a1 (wp_ifF (by dsimp only; decide) (wp_some rfl)))
    · unfold wayR
      exact wp_bind (wp_of z1 (wp_bnd2 (wp_of u1 (wp_bind (wp_ifF (by dsimp only; decide) (wp_some hQ))))))
  rw [w6] at a1 u1
  rw [w6, if_neg (by decide)] at P1 u3
  obtain ⟨σ2, b1, b2, P2⟩ := P1.passWord (n := n) (a := 7) hT (by decide) hn
  obtain ⟨ρ2, v1, v2, v3⟩ := u3.tr.takesWord (n := n) (a := 54) hT (by decide) hn
  rw [show strB 54 = strB 7 from wd_eq 7 (by decide)] at v1 v3
  cases w7 : waB B L b (strB 7)
  case true =>
    rw [w7] at b1 v1
    rw [w7, if_pos rfl] at P2 v3
    refine ⟨2, σ2, ρ2, of_wp ?_, fun Q hQ => ?_, a2.tr b2, z2.tr (u2.tr v2), Or.inr ⟨by decide, by decide, nx B L b, by omega, P2, v3⟩⟩
    · unfold X7_passWays
      exact wp_bnd2 (wp_of a1 (wp_ifT rfl (wp_bnd2 (wp_of b1 (wp_ifF (by dsimp only; decide) (wp_some rfl))))))
    · unfold wayR
      exact wp_bind (wp_of z1 (wp_bnd2 (wp_of u1 (wp_bind (wp_ifT rfl (wp_bnd2 (wp_of v1 (wp_ifF (by dsimp only; decide) (wp_some hQ)))))))))
  rw [w7] at b1 v1
  rw [w7, if_neg (by decide)] at P2 v3
  obtain ⟨σ3, c1, c2, P3⟩ := P2.passWord (n := n) (a := 8) hT (by decide) hn
  obtain ⟨ρ3, x1, x2, x3⟩ := v3.tr.takesWord (n := n) (a := 55) hT (by decide) hn
  rw [show strB 55 = strB 8 from wd_eq 8 (by decide)] at x1 x3
  have fC := a2.tr (b2.tr c2)
  have fR := z2.tr (u2.tr (v2.tr x2))
  cases w8 : waB B L b (strB 8)
  case true =>
    rw [w8] at c1 x1
    rw [w8, if_pos rfl] at P3 x3
    refine ⟨3, σ3, ρ3, of_wp ?_, fun Q hQ => ?_, fC, fR, Or.inr ⟨by decide, by decide, nx B L b, by omega, P3, x3⟩⟩
    · unfold X7_passWays
      exact wp_bnd2 (wp_of a1 (wp_ifT rfl (wp_bnd2 (wp_of b1 (wp_ifT rfl (wp_bnd2 (wp_of c1 (wp_ifF (by dsimp only; decide) (wp_some rfl)))))))))
    · unfold wayR
      exact wp_bind (wp_of z1 (wp_bnd2 (wp_of u1 (wp_bind (wp_ifT rfl (wp_bnd2 (wp_of v1 (wp_ifT rfl (wp_bnd2 (wp_of x1 (wp_ifF (by dsimp only; decide) (wp_some hQ))))))))))))
  rw [w8] at c1 x1
  rw [w8, if_neg (by decide)] at P3 x3
  refine ⟨0, σ3, ρ3, of_wp ?_, fun Q hQ => ?_, fC, fR, Or.inl ⟨rfl, P3.2.2.2.1, x3⟩⟩
  · unfold X7_passWays
    exact wp_bnd2 (wp_of a1 (wp_ifT rfl (wp_bnd2 (wp_of b1 (wp_ifT rfl (wp_bnd2 (wp_of c1 (wp_ifT rfl (wp_some rfl)))))))))
  · unfold wayR
    exact wp_bind (wp_of z1 (wp_bnd2 (wp_of u1 (wp_bind (wp_ifT rfl (wp_bnd2 (wp_of v1 (wp_ifT rfl (wp_bnd2 (wp_of x1 (wp_ifT rfl (wp_some hQ))))))))))))
/-- high, long and the wave's end -/
def WvO (B : Nat → Int) (L S q b : Nat) (mi pk y : Int) (σ ρ : SG) (v : Int) (σ' ρ' : SG) : Prop := (v = 0 ∧ FsC S σ σ' ∧ FsR ρ ρ' ∧ FR ρ' B L (σ' 15 3)) ∨ (v = 1 ∧ ∃ (b' : Nat) (hg ln : Int), b < b' ∧ TC σ' B L b' ∧ TR ρ' B L b' ∧ (1 ≤ hg ∧ hg ≤ 9) ∧ (1 ≤ ln ∧ ln ≤ 15) ∧ (∀ c j, c ≠ 15 → ¬ (c = S + 5 ∧ 5 * q ≤ j ∧ j < 5 * q + 5) → ¬ (c = S ∧ j = 6) → σ' c j = σ c j) ∧ FsC S σ σ' ∧ σ' S 6 = ((q + 1 : Nat) : Int) ∧ (σ' (S + 5) (5 * q) = mi ∧ σ' (S + 5) (5 * q + 1) = pk ∧ σ' (S + 5) (5 * q + 2) = y ∧ σ' (S + 5) (5 * q + 3) = hg ∧ σ' (S + 5) (5 * q + 4) = ln) ∧
  (∀ c j, ¬ (c = 57 ∧ (j = 4 ∨ j = 5 ∨ j = 7)) → ¬ (c = 61 ∧ (j = 1 ∨ j = 44 + 5 * q + 3 ∨ j = 44 + 5 * q + 4)) → ρ' c j = ρ c j) ∧ ρ' 61 (44 + 5 * q + 3) = hg ∧ ρ' 61 (44 + 5 * q + 4) = ln ∧ ρ' 61 1 = ((q + 1 : Nat) : Int))
theorem waveT_ok {σ ρ : SG} {B : Nat → Int} {L b S q n : Nat} {mi pk y : Int} (P : TC σ B L b) (R : TR ρ B L b) (hT : Txt B L) (d17 : σ 17 1 = (S : Int)) (d6 : σ S 6 = (q : Int)) (hq : q < 20) (hS : S = 1 ∨ S = 20) (d61 : ρ 61 1 = (q : Int)) (hy : 1 ≤ y ∧ y ≤ 3) (hn : 500 < n) : wp (X7_passWave_j109 n mi pk y σ) (fun r => wp (X12_waveLine_j139 n (44 + (5 * (q : Int))) ρ) (fun ρ' => WvO B L S q b mi pk y σ ρ r.1 r.2 ρ')) := by
  obtain ⟨v6, ρ1, m1, m2, σ1, g1, g2⟩ := wn_ok (n := n) (a := 9) (a' := 56) (lo := 1) (hi := 9) P R hT (by decide) (by decide) (wd_eq 9 (by decide)) (by decide) hn
  have failA : ∀ (x : Int) (σ' : SG), FsC S σ σ' → FR ρ1 B L x → σ' 15 3 = x → wp (X12_waveLine_j139 n (44 + (5 * (q : Int))) ρ) (fun ρ' => WvO B L S q b mi pk y σ ρ 0 σ' ρ') := fun x σ' hC hF hx => by
    unfold X12_waveLine_j139
    refine wp_bnd2 (wp_of m1 (wp_rdI (44 + 5 * q + 3) (by omega) (by omega) (by decide) (wp_lt ?_)))
    have h2 := hF.up (k := 61) (j := 44 + 5 * q + 3) (v := (v6, ρ1).1) (Or.inl rfl)
    refine wp_bnd2 (wp_of h2.after (wp_rdI (44 + 5 * q + 4) (by omega) (by omega) (by decide) (wp_lt (wp_rdI 1 rfl (by decide) (by decide) (wp_rdI 1 rfl (by decide) (by decide) (wp_lt (wp_some (Or.inl ⟨rfl, hC, m2.s.tr (FsR.up.tr (FsR.up.tr FsR.up)), ?_⟩))))))))
    rw [hx]
    exact (h2.up (Or.inl rfl)).up (Or.inl rfl)
  unfold X7_passWave_j109
  refine wp_ifF (by rw [w32i (by omega)]; omega) ?_
  rcases g2 with ⟨g2, g3⟩ | ⟨g2, σ2, g3, g4⟩
  · exact wp_bnd2 (wp_of g2 (wp_ifT rfl (wp_some (failA _ _ g1.s g3 rfl))))
  rcases g4 with ⟨g4, g5⟩ | ⟨g4, lo6, hi6, b4, hb4, P2, R2⟩
  · exact wp_bnd2 (wp_of g2 (wp_ifF (by dsimp only; decide) (wp_bnd2 (wp_of g4 (wp_ifT rfl (wp_some (failA _ _ (g1.s.tr g3.s) g5 rfl)))))))
  refine wp_bnd2 (wp_of g2 (wp_ifF (by dsimp only; decide) (wp_bnd2 (wp_of g4 (wp_ifF (by dsimp only; rw [w32i (by omega)]; omega) ?_)))))
  have F2 : FrT σ σ2 := g1.tr g3
  have R3 : TR (up ρ1 61 (44 + 5 * q + 3) v6) B L b4 := R2.up (Or.inl rfl)
  obtain ⟨v8, ρ3, m3, m4, σ3, g6, g7⟩ := wn_ok (n := n) (a := 10) (a' := 57) (lo := 1) (hi := 15) P2 R3 hT (by decide) (by decide) (wd_eq 10 (by decide)) (by decide) hn
  have k3 : FsR ρ ρ3 := m2.s.tr (FsR.up.tr m4.s)
  have hR2 : ∀ Q : SG → Prop, Q (up (up ρ3 61 (44 + 5 * q + 4) v8) 61 1 (up ρ3 61 (44 + 5 * q + 4) v8 61 1 + 1)) → wp (X12_waveLine_j139 n (44 + (5 * (q : Int))) ρ) Q := fun Q hQ => by
    unfold X12_waveLine_j139
    exact wp_bnd2 (wp_of m1 (wp_rdI (44 + 5 * q + 3) (by omega) (by omega) (by decide) (wp_lt (wp_bnd2 (wp_of m3 (wp_rdI (44 + 5 * q + 4) (by omega) (by omega) (by decide) (wp_lt (wp_rdI 1 rfl (by decide) (by decide) (wp_rdI 1 rfl (by decide) (by decide) (wp_lt (wp_some hQ)))))))))))
  have failB : ∀ (x : Int) (σ' : SG), FsC S σ σ' → FR ρ3 B L x → σ' 15 3 = x → wp (X12_waveLine_j139 n (44 + (5 * (q : Int))) ρ) (fun ρ' => WvO B L S q b mi pk y σ ρ 0 σ' ρ') := fun x σ' hC hF hx => hR2 _ (Or.inl ⟨rfl, hC, k3.tr (FsR.up.tr FsR.up), by rw [hx]; exact (hF.up (Or.inl rfl)).up (Or.inl rfl)⟩)
  rcases g7 with ⟨g7, g8⟩ | ⟨g7, σ4, g8, g9⟩
  · exact wp_bnd2 (wp_of g7 (wp_ifT rfl (wp_some (failB _ _ (F2.s.tr g6.s) g8 rfl))))
  rcases g9 with ⟨g9, g10⟩ | ⟨g9, lo8, hi8, b6, hb6, P4, R4⟩
  · exact wp_bnd2 (wp_of g7 (wp_ifF (by dsimp only; decide) (wp_bnd2 (wp_of g9 (wp_ifT rfl (wp_some (failB _ _ (F2.s.tr (g6.s.tr g8.s)) g10 rfl)))))))
  have F4 : FrT σ σ4 := F2.tr (g6.tr g8)
  have h17 : σ4 17 1 = (S : Int) := (F4 17 1 (by omega)).trans d17
  have h6 : σ4 S 6 = (q : Int) := (F4 S 6 (by omega)).trans d6
  refine wp_bnd2 (wp_of g7 (wp_ifF (by dsimp only; decide) (wp_bnd2 (wp_of g9 (wp_ifF (by dsimp only; rw [w32i (by omega)]; omega) (wp_ckI S h17 (isSea_S hS) (wp_bind ?_)))))))
  unfold X6_addWave
  refine wp_ifF (by dsimp only; rw [h6, w32i (by omega)]; omega) ?_
  dsimp only
  rw [h6]
  refine wp_lt (wp_rdI (5 * q) (by omega) (by omega) (by decide) (wp_lt (wp_rdI (5 * q + 1) (by omega) (by omega) (by decide) (wp_lt (wp_rdI (5 * q + 2) (by omega) (by omega) (by decide) (wp_lt (wp_rdI (5 * q + 3) (by omega) (by omega) (by decide) (wp_lt (wp_rdI (5 * q + 4) (by omega) (by omega) (by decide) (wp_lt (wp_lt (wp_some (wp_some (hR2 _ ?_))))))))))))))
  obtain ⟨σ5, hσ5⟩ : ∃ z, z = up (up (up (up (up σ4 (S + 5) (5 * q) mi) (S + 5) (5 * q + 1) pk) (S + 5) (5 * q + 2) y) (S + 5) (5 * q + 3) v6) (S + 5) (5 * q + 4) v8 := ⟨_, rfl⟩
  rw [← hσ5]
  have E5 : ∀ c j, ¬ (c = S + 5 ∧ 5 * q ≤ j ∧ j < 5 * q + 5) → σ5 c j = σ4 c j := fun c j q1 => by rw [hσ5, up_ne (by omega), up_ne (by omega), up_ne (by omega), up_ne (by omega), up_ne (by omega)]
  dsimp only
  refine Or.inr ⟨rfl, b6, v6, v8, by omega, ?_, ?_, ⟨lo6, hi6⟩, ⟨lo8, hi8⟩, fun c j q1 q2 q3 => ?_, fun c j q1 q2 q3 => ?_, ?_, ⟨?_, ?_, ?_, ?_, ?_⟩, fun c j q1 q2 => ?_, ?_, ?_, ?_⟩
  · exact P4.cg (fun j => by rw [up_ne (by omega), E5 15 j (by omega)]) (fun j => by rw [up_ne (by omega), E5 16 j (by omega)])
  · exact (R4.up (Or.inl rfl)).up (Or.inl rfl)
  · rw [up_ne q3, E5 c j q2]
    exact F4 c j (by omega)
  · rw [up_ne (by omega), E5 c j (by omega)]
    exact F4 c j q1
  · rw [up_eq rfl rfl, E5 S 6 (by omega), h6]
    omega
  · rw [up_ne (by omega), hσ5]
    simp (disch := omega) only [up_eq, up_ne]
  · rw [up_ne (by omega), hσ5]
    simp (disch := omega) only [up_eq, up_ne]
  · rw [up_ne (by omega), hσ5]
    simp (disch := omega) only [up_eq, up_ne]
  · rw [up_ne (by omega), hσ5]
    simp (disch := omega) only [up_eq, up_ne]
  · rw [up_ne (by omega), hσ5]
    simp (disch := omega) only [up_eq, up_ne]
  · rw [up_ne (by omega), up_ne (by omega), m4 c j q1, up_ne (by omega)]
    exact m2 c j q1
  · rw [up_ne (by omega), up_ne (by omega), m4 61 _ (by omega), up_eq rfl rfl]
  · rw [up_ne (by omega), up_eq rfl rfl]
  · rw [up_eq rfl rfl, up_ne (by omega), m4 61 1 (by omega), up_ne (by omega), m2 61 1 (by omega), d61]
    omega
/-- minute, peak and ways -/
def WhO (B : Nat → Int) (L S q b n : Nat) (ah : Int) (σ ρ : SG) : Prop := (∃ σ' ρ', X7_passWave n σ = some (0, σ') ∧ X12_waveLine n ρ = some ρ' ∧ FrT σ σ' ∧ FsR ρ ρ' ∧ FR ρ' B L (σ' 15 3)) ∨ ∃ (b2 : Nat) (mi pk y : Int) (σ' ρ' : SG), (∀ Q, wp (X7_passWave_j109 n mi pk y σ') Q → wp (X7_passWave n σ) Q) ∧ (∀ Q, wp (X12_waveLine_j139 n (44 + (5 * (q : Int))) ρ') Q → wp (X12_waveLine n ρ) Q) ∧ b < b2 ∧ TC σ' B L b2 ∧ TR ρ' B L b2 ∧ (ah ≤ mi ∧ mi ≤ 99) ∧ (0 ≤ pk ∧ pk ≤ 40) ∧ (1 ≤ y ∧ y ≤ 3) ∧ FrT σ σ' ∧
  (∀ c j, ¬ (c = 57 ∧ (j = 4 ∨ j = 5 ∨ j = 7)) → ¬ (c = 61 ∧ 44 + 5 * q ≤ j ∧ j < 44 + 5 * q + 3) → ρ' c j = ρ c j) ∧ ρ' 61 (44 + 5 * q) = mi ∧ ρ' 61 (44 + 5 * q + 1) = pk ∧ ρ' 61 (44 + 5 * q + 2) = y
theorem waveH_ok {σ ρ : SG} {B : Nat → Int} {L b S m q n : Nat} (P : TC σ B L b) (R : TB ρ B L b) (hT : Txt B L) (D : SeaD σ ρ S m q) (hw : waB B L b (strB 5) = true) (hn : 500 < n) (c0 : q < 20) : WhO B L S q b n (if q = 0 then 1 else σ (S + 5) (5 * (q - 1))) σ ρ := by
  obtain ⟨⟨m5, q20, d1, d2, d3, d4⟩, dh, da, dS, dW, f12, f13, d17, hS⟩ := id D
  obtain ⟨σ1, a1, P1, a3⟩ := P.adv hT hn
  obtain ⟨ah, hah⟩ : ∃ ah, ah = if q = 0 then (1 : Int) else σ (S + 5) (5 * (q - 1)) := ⟨_, rfl⟩
  have hab : 1 ≤ ah ∧ ah ≤ 99 := by
    rw [hah]
    split
    · omega
    · obtain ⟨-, w1, w2, -⟩ := dW (q - 1) (by omega)
      omega
  rw [← hah]
  have g17 : σ1 17 1 = (S : Int) := (a3 17 1 (by omega)).trans d17
  have g6 : σ1 S 6 = (q : Int) := (a3 S 6 (by omega)).trans d2
  have hC0 : ∀ Q : Int × SG → Prop, wp (X7_passWave_j52 n σ1 ah) Q → wp (X7_passWave n σ) Q := fun Q hQ => by
    unfold X7_passWave
    refine wp_ckI S d17 (isSea_S hS) (wp_ifT (by rw [d2, w32i (by omega)]; omega) (wp_bind (wp_of a1 (wp_ckI S g17 (isSea_S hS) (wp_bind ?_)))))
    by_cases c : q = 0
    · rw [if_pos c] at hah
      rw [hah] at hQ
      exact wp_ifT (by rw [g6, c]; rfl) (wp_some hQ)
    · rw [if_neg c] at hah
      refine wp_ifF (by rw [g6, w32i (by omega)]; omega) (wp_ckI S g17 (isSea_S hS) (wp_ckI S g17 (isSea_S hS) (wp_bind (wp_fact0 (q - 1) (by rw [g6]; omega) rfl (by omega) (wp_some ?_)))))
      rw [a3 (S + 5) _ (by omega), ← hah]
      exact hQ
  have hR0 : ∀ Q : SG → Prop, wp (X12_waveLine_j49 n ρ (44 + (5 * (q : Int))) ah) Q → wp (X12_waveLine n ρ) Q := fun Q hQ => by
    unfold X12_waveLine
    refine wp_rdI 1 rfl (by decide) (by decide) ?_
    rw [d4]
    refine wp_lt (wp_ifF (by rw [w32i (by omega)]; omega) (wp_lt (wp_bind ?_)))
    by_cases c : q = 0
    · rw [if_pos c] at hah
      rw [hah] at hQ
      exact wp_ifT (by rw [c]; rfl) (wp_some hQ)
    · rw [if_neg c] at hah
      refine wp_ifF (by rw [w32i (by omega)]; omega) (wp_rdI (44 + 5 * (q - 1)) (by omega) (by omega) (by decide) (wp_some ?_))
      have h0 := (dW (q - 1) (by omega)).1 0 (by decide)
      rw [shf_60] at h0
      rw [show ρ 61 (44 + 5 * (q - 1)) = ah from h0.trans hah.symm]
      exact hQ
  obtain ⟨mi, ρ1, m1, m2, σ2, s1, s2⟩ := wk_ok (n := n) (a := 5) (a' := 52) (lo := ah) (hi := 99) P1 R.tr hT (by decide) (wd_eq 5 (by decide)) hw (by omega) hn
  have fA : ∀ (x : Int), FR ρ1 B L x → wp (X12_waveLine n ρ) (fun ρ' => FsR ρ ρ' ∧ FR ρ' B L x) := fun x hF => by
    refine hR0 _ ?_
    unfold X12_waveLine_j49
    refine wp_bnd2 (wp_of m1 (wp_rdI (44 + 5 * q) (by omega) (by omega) (by decide) (wp_lt ?_)))
    have h2 := hF.up (k := 61) (j := 44 + 5 * q) (v := (mi, ρ1).1) (Or.inl rfl)
    refine wp_bnd2 (wp_of h2.after (wp_rdI (44 + 5 * q + 1) (by omega) (by omega) (by decide) (wp_lt ?_)))
    exact wp_mono (wvF2 (h2.up (k := 61) (j := 44 + 5 * q + 1) (v := 0) (Or.inl rfl)) hT c0 hn) (fun ρ' h => ⟨m2.s.tr (FsR.up.tr (FsR.up.tr h.1)), h.2⟩)
  rcases s2 with ⟨s2, s3⟩ | ⟨s2, lo1, hi1, b2, hb2, P2, R2⟩
  · obtain ⟨ρ', e1, e2, e3⟩ := fA _ s3
    refine Or.inl ⟨σ2, ρ', of_wp (hC0 _ ?_), e1, a3.tr s1, e2, e3⟩
    unfold X7_passWave_j52
    exact wp_bnd2 (wp_of s2 (wp_ifT rfl (wp_some rfl)))
  have R3 : TR (up ρ1 61 (44 + 5 * q) mi) B L b2 := R2.up (Or.inl rfl)
  obtain ⟨pk, ρ3, m3, m4, σ3, g1, g2⟩ := wn_ok (n := n) (a := 1) (a' := 48) (lo := 0) (hi := 40) P2 R3 hT (by decide) (by decide) (wd_eq 1 (by decide)) (by decide) hn
  have hR1 : ∀ Q : SG → Prop, wp (wayR n q (up ρ3 61 (44 + 5 * q + 1) pk)) Q → wp (X12_waveLine n ρ) Q := fun Q hQ => by
    refine hR0 Q ?_
    unfold X12_waveLine_j49
    exact wp_bnd2 (wp_of m1 (wp_rdI (44 + 5 * q) (by omega) (by omega) (by decide) (wp_lt (wp_bnd2 (wp_of m3 (wp_rdI (44 + 5 * q + 1) (by omega) (by omega) (by decide) (wp_lt hQ)))))))
  have k4 : FsR ρ (up ρ3 61 (44 + 5 * q + 1) pk) := m2.s.tr (FsR.up.tr (m4.s.tr FsR.up))
  have fB : ∀ (x : Int), FR ρ3 B L x → wp (X12_waveLine n ρ) (fun ρ' => FsR ρ ρ' ∧ FR ρ' B L x) := fun x hF => hR1 _ (wp_mono (wvF2 (hF.up (k := 61) (j := 44 + 5 * q + 1) (v := pk) (Or.inl rfl)) hT c0 hn) (fun ρ' h => ⟨k4.tr h.1, h.2⟩))
  have hC1 : ∀ Q : Int × SG → Prop, wp (bnd2 (X10_passWord n 1 σ2) fun v11 σ12 => if w32 v11 = 0 then some ((0, σ12)) else bnd2 (X10_passNumber n 0 40 2 σ12) fun v14 σ15 => ((if w32 v14 = (-1) then some ((0, σ15)) else bnd2 (X7_passWays n σ15) fun v35 σ36 => some ((v35, σ36))) : Option (Int × SG)).bind (fun s => X7_passWave_j109 n mi v14 s.1 s.2)) Q → wp (X7_passWave n σ) Q := fun Q hQ => by
    refine hC0 Q ?_
    unfold X7_passWave_j52
    exact wp_bnd2 (wp_of s2 (wp_ifF (by dsimp only; rw [w32i (by omega)]; omega) hQ))
  rcases g2 with ⟨g2, g3⟩ | ⟨g2, σ4, g3, g4⟩
  · obtain ⟨ρ', e1, e2, e3⟩ := fB _ g3
    exact Or.inl ⟨σ3, ρ', of_wp (hC1 _ (wp_bnd2 (wp_of g2 (wp_ifT rfl (wp_some rfl))))), e1, a3.tr (s1.tr g1), e2, e3⟩
  rcases g4 with ⟨g4, g5⟩ | ⟨g4, lo2, hi2, b4, hb4, P4, R4⟩
  · obtain ⟨ρ', e1, e2, e3⟩ := fB _ g5
    refine Or.inl ⟨σ4, ρ', of_wp (hC1 _ (wp_bnd2 (wp_of g2 (wp_ifF (by dsimp only; decide) (wp_bnd2 (wp_of g4 (wp_bind (wp_ifT rfl (wp_some ?_))))))))), e1, a3.tr (s1.tr (g1.tr g3)), e2, e3⟩
    unfold X7_passWave_j109
    exact wp_ifT rfl (wp_some rfl)
  obtain ⟨y, σ5, ρ5, w1, w2, w3, w4, w5⟩ := ways_ok (n := n) (q := q) P4 (R4.up (k := 61) (j := 44 + 5 * q + 1) (v := pk) (Or.inl rfl)) hT hn
  have hC2 : ∀ Q : Int × SG → Prop, wp (X7_passWave_j109 n mi pk y σ5) Q → wp (X7_passWave n σ) Q := fun Q hQ => hC1 Q (wp_bnd2 (wp_of g2 (wp_ifF (by dsimp only; decide) (wp_bnd2 (wp_of g4 (wp_bind (wp_ifF (by dsimp only; rw [w32i (by omega)]; omega) (wp_bnd2 (wp_of w1 (wp_some hQ))))))))))
  have F5 : FrT σ σ5 := a3.tr (s1.tr (g1.tr (g3.tr w3)))
  have hR2 : ∀ Q : SG → Prop, wp (X12_waveLine_j123 n (44 + (5 * (q : Int))) y ρ5) Q → wp (X12_waveLine n ρ) Q := fun Q hQ => hR1 Q (w2 Q hQ)
  rcases w5 with ⟨rfl, y2, y3⟩ | ⟨y1, y2, b5, hb5, P5, R5⟩
  · have T : TB (up ρ5 61 (44 + 5 * q + 2) 0) B L b4 := by
      obtain ⟨⟨r1, r2⟩, r3, r4, r5, r6⟩ := y3
      exact ⟨⟨(up_ne (by omega)).trans r1, fun j hj => (up_ne (by omega)).trans (r2 j hj)⟩, (up_ne (by omega)).trans r3, (up_ne (by omega)).trans r4, (up_ne (by omega)).trans r5, r6⟩
    obtain ⟨ρ6, z1, z2, z3⟩ := T.fails (n := n) hT
    have key : wp (X12_waveLine n ρ) (fun ρ' => FsR ρ ρ' ∧ FR ρ' B L (b4 : Int)) := by
      refine hR2 _ ?_
      unfold X12_waveLine_j123
      refine wp_rdI (44 + 5 * q + 2) (by omega) (by omega) (by decide) (wp_lt (wp_rdI (44 + 5 * q + 2) (by omega) (by omega) (by decide) (wp_bind (wp_ifT (by rw [up_eq rfl rfl]; rfl) (wp_bind (wp_of z1 (wp_some ?_)))))))
      exact wp_mono (wvF4 z3 c0) (fun ρ' h => ⟨k4.tr (w4.s.tr (FsR.up.tr (z2.s.tr h.1))), h.2⟩)
    obtain ⟨ρ', e1, e2, e3⟩ := key
    refine Or.inl ⟨σ5, ρ', of_wp (hC2 _ ?_), e1, F5, e2, by rw [y2]; exact e3⟩
    unfold X7_passWave_j109
    exact wp_ifT rfl (wp_some rfl)
  · refine Or.inr ⟨b5, mi, pk, y, σ5, up ρ5 61 (44 + 5 * q + 2) y, hC2, fun Q hQ => hR2 Q ?_, by omega, P5, R5.up (Or.inl rfl), ⟨lo1, hi1⟩, ⟨lo2, hi2⟩, ⟨y1, y2⟩, F5, fun c j q1 q2 => ?_, ?_, ?_, up_eq rfl rfl⟩
    · unfold X12_waveLine_j123
      exact wp_rdI (44 + 5 * q + 2) (by omega) (by omega) (by decide) (wp_lt (wp_rdI (44 + 5 * q + 2) (by omega) (by omega) (by decide) (wp_bind (wp_ifF (by rw [up_eq rfl rfl, w32i (by omega)]; omega) (wp_some hQ)))))
    · rw [up_ne (by omega), w4 c j q1, up_ne (by omega), m4 c j q1, up_ne (by omega)]
      exact m2 c j q1
    · rw [up_ne (by omega), w4 61 _ (by omega), up_ne (by omega), m4 61 _ (by omega), up_eq rfl rfl]
    · rw [up_ne (by omega), w4 61 _ (by omega), up_eq rfl rfl]
