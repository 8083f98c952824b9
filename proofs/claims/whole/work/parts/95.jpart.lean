/-! ===== the judge's text: a part ===== -/
def uS (dp : Nat) : Nat := 3 + 2 * (6 - dp)
def uP (dp : Nat) : Nat := 1 + 2 * (6 - dp)
theorem JS.mv {σ ρ σ1 ρ1 : SG} {B : Nat → Int} {L T b b1 st cd dp : Nat} (h : JS σ ρ B L T b st cd dp) (f : FrT σ σ1) (g : FrK ρ ρ1) (P1 : TC σ1 B L b1) (R1 : TR ρ1 B L b1) (hb : b ≤ b1) : JS σ1 ρ1 B L T b1 st cd dp := by
  obtain ⟨-, -, h3, h4, h5, h6, h7, h8, h9, h10⟩ := h
  exact ⟨P1, R1, (f 18 1 (by omega)).trans h3, h4, (f T 2 (by omega)).trans h5, (g 57 20 (by omega)).trans h6, (g 57 21 (by omega)).trans h7, by omega, by omega, h10⟩
/-- a step is written; a code is -/
theorem JS.wC {σ ρ : SG} {B : Nat → Int} {L T b st cd dp n : Nat} {kind v : Int} (h : JS σ ρ B L T b st cd dp) (hT : Txt B L) (hs : st + 1 ≤ b) : ∃ σ', X2_write n T kind v σ = some ((st : Int), σ') ∧ JS σ' ρ B L T b (st + 1) cd dp ∧ σ' (T + 1) st = kind ∧ σ' (T + 2) st = v ∧ (∀ i, i ≠ st → σ' (T + 1) i = σ (T + 1) i ∧ σ' (T + 2) i = σ (T + 2) i) ∧ FjC T σ σ' ∧ (∀ j, σ' 15 j = σ 15 j) := by
  obtain ⟨h1, h2, h3, h4, h5, h6, h7, h8, h9, h10⟩ := h
  have := h1.2.2.1
  have := hT.1
  obtain ⟨σ', e1, e2, e3, e4, e5⟩ := jwrite_ok (n := n) (kind := kind) (v := v) h5 (by omega)
  exact ⟨σ', e1, ⟨h1.cg (fun j => e5 15 j (by omega) (by omega) (by omega)) (fun j => e5 16 j (by omega) (by omega) (by omega)), h2, (e5 18 1 (by omega) (by omega) (by omega)).trans h3, h4, e2, h6, h7, by omega, h9, h10⟩, e3, e4, fun i hi => ⟨e5 _ i (by omega) (by omega) (by omega), e5 _ i (by omega) (by omega) (by omega)⟩, fun c j q1 q2 q3 q4 => e5 c j (by omega) (by omega) (by omega), fun j => e5 15 j (by omega) (by omega) (by omega)⟩
theorem JS.wR {σ ρ : SG} {B : Nat → Int} {L T b st cd dp n : Nat} {v : Int} (h : JS σ ρ B L T b st cd dp) (hT : Txt B L) (hs : cd + 1 ≤ b) : ∃ ρ', X12_codes n v ρ = some ρ' ∧ JS σ ρ' B L T b st (cd + 1) dp ∧ ρ' 63 cd = v ∧ (∀ i, i ≠ cd → ρ' 63 i = ρ 63 i) ∧ FjR ρ ρ' := by
  obtain ⟨h1, h2, h3, h4, h5, h6, h7, h8, h9, h10⟩ := h
  have := h1.2.2.1
  have := hT.1
  obtain ⟨ρ', e1, e2, e3, e4⟩ := codes_ok (n := n) (v := v) h6 (by omega)
  exact ⟨ρ', e1, ⟨h1, h2.cg (fun j hj => e4 57 j (by omega) (by omega)) (fun j => e4 58 j (by omega) (by omega)), h3, h4, h5, e2, (e4 57 21 (by omega) (by omega)).trans h7, h8, by omega, h10⟩, e3, fun i hi => e4 63 i (by omega) (by omega), fun c j q1 q2 => e4 c j (by omega) (by omega)⟩
theorem JS.dp {σ ρ : SG} {B : Nat → Int} {L T b st cd dp dp' : Nat} {v : Int} (h : JS σ ρ B L T b st cd dp) (hv : v = (dp' : Int)) (hd : dp' ≤ 6) : JS σ (up ρ 57 21 v) B L T b st cd dp' := by
  obtain ⟨h1, h2, h3, h4, h5, h6, h7, h8, h9, h10⟩ := h
  exact ⟨h1, h2.up (Or.inr (Or.inr (Or.inr ⟨rfl, by decide⟩))), h3, h4, h5, by rw [up_ne (by omega)]; exact h6, by rw [up_eq rfl rfl, hv], h8, h9, hd⟩
/-- a piece of the text, on both sides -/
def PJ (B : Nat → Int) (L T n : Nat) (sem : SemT) (D E i i' dp lv : Nat) : Prop := ∀ (σ ρ : SG) (b st cd : Nat), (L - b) + 9 * (6 - dp) + 3 * lv ≤ 3 * D → JS σ ρ B L T b st cd dp → ∃ v σ' ρ', JR n E i (dp : Int) σ = some (v, σ') ∧ MJ n D i' ρ = some ρ' ∧ JO sem B L T b st cd dp D σ ρ v σ' ρ'
theorem goesIn_ok {ρ : SG} {B : Nat → Int} {L b dp n : Nat} (R : TR ρ B L b) (hT : Txt B L) (hd : ρ 57 21 = (dp : Int)) (h6 : dp ≤ 6) (hn : 500 < n) : (dp < 6 ∧ ∃ ρ1, X12_goesIn n ρ = some (1, up ρ1 57 21 (((dp + 1 : Nat) : Int))) ∧ FrK ρ ρ1 ∧ TB ρ1 B L b) ∨ (dp = 6 ∧ ∃ ρ1, X12_goesIn n ρ = some (0, ρ1) ∧ FrK ρ ρ1 ∧ FR ρ1 B L (b : Int)) := by
  obtain ⟨ρ1, e1, e2, e3⟩ := R.blanks (n := n) hT hn
  have h1 : ρ1 57 21 = (dp : Int) := (e2 57 21 (by omega)).trans hd
  by_cases c : dp = 6
  · obtain ⟨ρ2, u1, u2, u3⟩ := e3.fails (n := n) hT
    refine Or.inr ⟨c, ρ2, of_wp ?_, e2.tr u2, u3⟩
    unfold X12_goesIn
    refine wp_bind (wp_of e1 (wp_bind (wp_ifT (by rw [h1, c]; decide) (wp_bind (wp_of u1 (wp_some ?_))))))
    unfold X12_goesIn_j30
    exact wp_bind (wp_of u3.hf (wp_ifF (by decide) (wp_some rfl)))
  · refine Or.inl ⟨by omega, ρ1, of_wp ?_, e2, e3⟩
    unfold X12_goesIn
    refine wp_bind (wp_of e1 (wp_bind (wp_ifF (by rw [h1, w32i (by omega)]; omega) (wp_lt (wp_some ?_)))))
    unfold X12_goesIn_j30
    rw [h1, show (dp : Int) + 1 = ((dp + 1 : Nat) : Int) by omega]
    exact wp_bind (wp_of (hf0 (by rw [up_ne (by omega)]; exact e3.2.1)) (wp_ifT rfl (wp_some rfl)))
theorem partN_ok {σ ρ : SG} {B : Nat → Int} {L T b st cd dp n D E : Nat} (J : JS σ ρ B L T b st cd dp) (hT : Txt B L) (hk : kd B L b = 2) (hn : 500 < n) : ∃ v σ' ρ', JR n (E + 1) 7 (dp : Int) σ = some (v, σ') ∧ MJ n (D + 1) 5 ρ = some ρ' ∧ JO (semS T (uP dp)) B L T b st cd dp (D + 1) σ ρ v σ' ρ' := by
  have J0 := J
  obtain ⟨P, R, j3, hJ, j5, j6, j7, j8, j9, j10⟩ := J0
  have hL := hT.1
  have hb := P.2.2.1
  have hsg : sgB B L b 91 = false := by
    cases q : sgB B L b 91
    · rfl
    · have := (sg_nx isg_c.2.2.2.2.2.2.2.2.2.1 q).2.1
      omega
  have c91 := P.isSign (n := n) hT isg_c.2.2.2.2.2.2.2.2.2.1
  rw [hsg] at c91
  have hft : X3_factTold n σ = some (-1) := by
    obtain ⟨f, ρ', e1, -, -, h⟩ := fact_ok P R hT hn
    rcases h with ⟨rfl, -⟩ | ⟨k, -, -, h1, -⟩
    · exact e1
    · omega
  obtain ⟨ρ1, u1, u2, u3⟩ := R.isNumber (n := n) hT hn
  rw [decide_eq_true hk] at u1
  obtain ⟨v, ρ2, m1, m2, mb, m3⟩ := u3.tr.number (n := n) (dg := 4) (lo := 0) (hi := 9999) hT (by decide) (by decide) hn
  obtain ⟨σ1, g1, g2, P1⟩ := P.passNumber (n := n) (dg := 4) (lo := 0) (hi := 9999) hT (by decide) (by decide) hn
  have nb := nx_b (B := B) hb
  have hbL : b < L := by
    rcases kd_c (B := B) hb with ⟨q, -⟩ | ⟨q, -⟩ | ⟨-, q, -⟩ | ⟨q, -⟩ <;> omega
  have hR : ∀ ρ', X12_codes n (1000 + v) ρ2 = some ρ' → MJ n (D + 1) 5 ρ = some ρ' := fun ρ' h => of_wp (by
    show wp (X12_part_b (MJ n D) n ρ) _
    unfold X12_part_b
    exact wp_bind (wp_of R.hf (wp_ifT rfl (wp_bnd2 (wp_of u1 (wp_ifF (by dsimp only; decide) (wp_bnd2 (wp_of m1 (wp_bind (wp_of h (wp_some rfl)))))))))))
  cases hu : nuB B L b 4 0 9999
  · rw [hu, if_neg (by decide)] at m3 g1 P1
    obtain ⟨ρ3, z1, z2, z3, z4⟩ := m3.codes (n := n) (v := 1000 + v) (by rw [m2 57 20 (by omega), u2 57 20 (by omega), j6]; omega)
    refine ⟨0, σ1, ρ3, of_wp ?_, hR _ z1, g2.j, u2.j.tr (m2.j.tr z3), Or.inl ⟨rfl, by rw [P1.2.2.2.1]; exact z2, ?_, ?_⟩⟩
    · show wp (X3_passPart_b (JR n E) n (dp : Int) σ) _
      unfold X3_passPart_b
      exact wp_bind (wp_of c91 (wp_ifT rfl (wp_bind (wp_of hft (wp_ifT rfl (wp_bnd2 (wp_of g1 (wp_ifT rfl (wp_some rfl)))))))))
    · rw [z4, m2 57 20 (by omega), u2 57 20 (by omega), j6]; omega
    · rw [z4, m2 57 20 (by omega), u2 57 20 (by omega), j6]; omega
  · rw [hu, if_pos rfl] at m3 g1 P1
    have hv := (of_decide_eq_true hu).2.2
    rw [← m3.1] at g1 hv
    have J1 := J.mv g2 (u2.tr m2) P1 m3.2 (by omega)
    obtain ⟨σ2, w1, J2, w3, w4, w5, w6, w7⟩ := J1.wC (n := n) (kind := 0) (v := v) hT (by omega)
    obtain ⟨ρ3, z1, J3, z3, z4, z5⟩ := J2.wR (n := n) (v := 1000 + v) hT (by omega)
    refine ⟨1, σ2, ρ3, of_wp ?_, hR _ z1, g2.j.tr w6, u2.j.tr (m2.j.tr z5), Or.inr ⟨rfl, nx B L b, st + 1, cd + 1, ⟨J3, by omega, by omega, by omega, by omega, by omega, fun i hi => ?_, fun i hi => ?_⟩, fun _ => (v, 0), ?_, ?_⟩⟩
    · show wp (X3_passPart_b (JR n E) n (dp : Int) σ) _
      unfold X3_passPart_b
      exact wp_bind (wp_of c91 (wp_ifT rfl (wp_bind (wp_of hft (wp_ifT rfl (wp_bnd2 (wp_of g1 (wp_ifF (by dsimp only; rw [w32i (by omega)]; omega) (wp_ckI T J1.2.2.1 (isJudge_J hJ) (wp_bnd2 (wp_of w1 (wp_some rfl))))))))))))
    · rw [(w5 i (by omega)).1, (w5 i (by omega)).2, g2 _ _ (by omega), g2 _ _ (by omega)]
      exact ⟨rfl, rfl⟩
    · rw [z4 i (by omega), m2 63 i (by omega), u2 63 i (by omega)]
    · exact (CS_put w3 w4 (by unfold rng; omega)).u (by unfold uP; omega)
    · exact (RS_put z3 mb).u (by unfold uP; omega)
theorem partF_ok {σ ρ : SG} {B : Nat → Int} {L T b st cd dp n D E : Nat} (J : JS σ ρ B L T b st cd dp) (hT : Txt B L) (hk : kd B L b ≠ 2) (hsg : sgB B L b 91 = false) (hn : 500 < n) : ∃ v σ' ρ', JR n (E + 1) 7 (dp : Int) σ = some (v, σ') ∧ MJ n (D + 1) 5 ρ = some ρ' ∧ JO (semS T (uP dp)) B L T b st cd dp (D + 1) σ ρ v σ' ρ' := by
  have J0 := J
  obtain ⟨P, R, j3, hJ, j5, j6, j7, j8, j9, j10⟩ := J0
  have hL := hT.1
  have hb := P.2.2.1
  have c91 := P.isSign (n := n) hT isg_c.2.2.2.2.2.2.2.2.2.1
  rw [hsg] at c91
  obtain ⟨ρ1, u1, u2, u3⟩ := R.isNumber (n := n) hT hn
  rw [decide_eq_false hk] at u1
  obtain ⟨ρ2, v1, v2, v3⟩ := u3.tr.isSign (n := n) hT isg_c.2.2.2.2.2.2.2.2.2.1 hn
  rw [hsg] at v1
  obtain ⟨f, ρ3, x1, x2, x3, x4⟩ := fact_ok (n := n) P v3.tr hT hn
  have nb := nx_b (B := B) hb
  rcases x4 with ⟨rfl, x5⟩ | ⟨k, rfl, hk8, hk1, x5⟩
  · obtain ⟨ρ4, y1, y2, y3⟩ := x5.fails (n := n) hT
    obtain ⟨σ1, g1, g2, P1⟩ := P.passNumber (n := n) (dg := 4) (lo := 0) (hi := 9999) hT (by decide) (by decide) hn
    have hu : nuB B L b 4 0 9999 = false := decide_eq_false (fun q => hk q.1)
    rw [hu, if_neg (by decide)] at g1 P1
    have f4 := u2.tr (v2.tr (x3.tr y2))
    refine ⟨0, σ1, ρ4, of_wp ?_, of_wp ?_, g2.j, f4.j, Or.inl ⟨rfl, by rw [P1.2.2.2.1]; exact y3, by rw [f4 57 20 (by omega), j6]; omega, by rw [f4 57 20 (by omega), j6]; omega⟩⟩
    · show wp (X3_passPart_b (JR n E) n (dp : Int) σ) _
      unfold X3_passPart_b
      exact wp_bind (wp_of c91 (wp_ifT rfl (wp_bind (wp_of x1 (wp_ifT rfl (wp_bnd2 (wp_of g1 (wp_ifT rfl (wp_some rfl)))))))))
    · show wp (X12_part_b (MJ n D) n ρ) _
      unfold X12_part_b
      exact wp_bind (wp_of R.hf (wp_ifT rfl (wp_bnd2 (wp_of u1 (wp_ifT rfl (wp_bnd2 (wp_of v1 (wp_ifT rfl (wp_bnd2 (wp_of x2 (wp_ifT rfl (wp_bind (wp_of y1 (wp_some rfl))))))))))))))
  · have hbL : b < L := by
      rcases kd_c (B := B) hb with ⟨q, -⟩ | ⟨-, q, -⟩ | ⟨q, -⟩ | ⟨q, -⟩ <;> omega
    obtain ⟨σ1, g1, P1, g2⟩ := P.adv (n := n) hT hn
    have J1 := J.mv g2 (u2.tr (v2.tr x3)) P1 x5 (by omega)
    obtain ⟨σ2, w1, J2, w3, w4, w5, w6, w7⟩ := J1.wC (n := n) (kind := 1) (v := (k : Int)) hT (by omega)
    obtain ⟨ρ4, z1, J3, z3, z4, z5⟩ := J2.wR (n := n) (v := (k : Int)) hT (by omega)
    have f3 := u2.tr (v2.tr x3)
    refine ⟨1, σ2, ρ4, of_wp ?_, of_wp ?_, g2.j.tr w6, f3.j.tr z5, Or.inr ⟨rfl, nx B L b, st + 1, cd + 1, ⟨J3, by omega, by omega, by omega, by omega, by omega, fun i hi => ?_, fun i hi => ?_⟩, fun F => (F k, 0), ?_, ?_⟩⟩
    · show wp (X3_passPart_b (JR n E) n (dp : Int) σ) _
      unfold X3_passPart_b
      exact wp_bind (wp_of c91 (wp_ifT rfl (wp_bind (wp_of x1 (wp_ifF (by rw [w32i (by omega)]; omega) (wp_bind (wp_of g1 (wp_ckI T J1.2.2.1 (isJudge_J hJ) (wp_bnd2 (wp_of w1 (wp_some rfl)))))))))))
    · show wp (X12_part_b (MJ n D) n ρ) _
      unfold X12_part_b
      exact wp_bind (wp_of R.hf (wp_ifT rfl (wp_bnd2 (wp_of u1 (wp_ifT rfl (wp_bnd2 (wp_of v1 (wp_ifT rfl (wp_bnd2 (wp_of x2 (wp_ifF (by dsimp only; rw [w32i (by omega)]; omega) (wp_bind (wp_of z1 (wp_some rfl))))))))))))))
    · rw [(w5 i (by omega)).1, (w5 i (by omega)).2, g2 _ _ (by omega), g2 _ _ (by omega)]
      exact ⟨rfl, rfl⟩
    · rw [z4 i (by omega), f3 63 i (by omega)]
    · exact (CS_fetch w3 w4 hk8).u (by unfold uP; omega)
    · exact (RS_fetch z3 hk8).u (by unfold uP; omega)
/-- a bracket: what stands within, and its end -/
theorem partB_ok {σ ρ : SG} {B : Nat → Int} {L T b st cd dp n D E : Nat} (J : JS σ ρ B L T b st cd dp) (hT : Txt B L) (hsg : sgB B L b 91 = true) (hn : 500 < n) (hf : (L - b) + 9 * (6 - dp) + 3 * 1 ≤ 3 * (D + 1)) (H : dp < 6 → PJ B L T n (semS T (uS (dp + 1))) D E 5 3 (dp + 1) 3) : ∃ v σ' ρ', JR n (E + 1) 7 (dp : Int) σ = some (v, σ') ∧ MJ n (D + 1) 5 ρ = some ρ' ∧ JO (semS T (uP dp)) B L T b st cd dp (D + 1) σ ρ v σ' ρ' := by
  have J0 := J
  obtain ⟨P, R, j3, hJ, j5, j6, j7, j8, j9, j10⟩ := J0
  have hL := hT.1
  have hb := P.2.2.1
  have i91 := isg_c.2.2.2.2.2.2.2.2.2.1
  have i93 := isg_c.2.2.2.2.2.2.2.2.2.2
  obtain ⟨hbL, hk3, -⟩ := sg_nx i91 hsg
  have c91 := P.isSign (n := n) hT i91
  rw [hsg] at c91
  obtain ⟨ρ1, u1, u2, u3⟩ := R.isNumber (n := n) hT hn
  rw [decide_eq_false (by omega)] at u1
  obtain ⟨ρ2, v1, v2, v3⟩ := u3.tr.isSign (n := n) hT i91 hn
  rw [hsg] at v1
  have f2 := u2.tr v2
  have nb := nx_b (B := B) hb
  have hlt := nb.2.2 hbL
  rcases goesIn_ok (n := n) v3.tr hT ((f2 57 21 (by omega)).trans j7) j10 hn with ⟨hd, ρ3, x1, x2, x3⟩ | ⟨hd, ρ3, x1, x2, x3⟩
  · have T3 : TR (up ρ3 57 21 (((dp + 1 : Nat) : Int))) B L b := x3.tr.up (Or.inr (Or.inr (Or.inr ⟨rfl, by decide⟩)))
    obtain ⟨ρ4, y1, y2, y3⟩ := T3.asksSign (n := n) hT i91 hn
    rw [if_pos hsg] at y3
    obtain ⟨σ1, g1, P1, g2⟩ := P.adv (n := n) hT hn
    have hc4 : ∀ c j, ¬ (c = 57 ∧ (j = 4 ∨ j = 5 ∨ j = 7 ∨ j = 21)) → ρ4 c j = ρ c j := fun c j q => by rw [y2 c j (by omega), up_ne (by omega), x2 c j (by omega), f2 c j (by omega)]
    have J1 : JS σ1 ρ4 B L T (nx B L b) st cd (dp + 1) := ⟨P1, y3, (g2 18 1 (by omega)).trans j3, hJ, (g2 T 2 (by omega)).trans j5, (hc4 57 20 (by omega)).trans j6, by rw [y2 57 21 (by omega), up_eq rfl rfl], by omega, by omega, by omega⟩
    obtain ⟨v, σ2, ρ5, e1, e2, kC, kR, O⟩ := H hd σ1 ρ4 (nx B L b) st cd (by omega) J1
    rw [show ((dp + 1 : Nat) : Int) = (dp : Int) + 1 by omega] at e1
    have fR5 : FjR ρ ρ5 := (fun c j q1 q2 => (kR c j q1 q2).trans (hc4 c j (by omega)))
    have hC : ∀ Q : Int × SG → Prop, wp (if w32 v = 0 then some ((0, σ2)) else bnd2 (X10_passSign n 93 σ2) fun v24 σ25 => if w32 v24 = 0 then some ((0, σ25)) else some ((1, σ25))) Q → wp (JR n (E + 1) 7 (dp : Int) σ) Q := fun Q hQ => by
      show wp (X3_passPart_b (JR n E) n (dp : Int) σ) _
      unfold X3_passPart_b
      exact wp_bind (wp_of c91 (wp_ifF (by decide) (wp_ifT (by rw [w32i (by omega)]; omega) (wp_bind (wp_of g1 (wp_bnd2 (wp_of e1 hQ)))))))
    have hR : ∀ ρ6, X12_asksSign n 93 ρ5 = some ρ6 → MJ n (D + 1) 5 ρ = some (up ρ6 57 21 (ρ6 57 21 - 1)) := fun ρ6 h => of_wp (by
      show wp (X12_part_b (MJ n D) n ρ) _
      unfold X12_part_b
      exact wp_bind (wp_of R.hf (wp_ifT rfl (wp_bnd2 (wp_of u1 (wp_ifT rfl (wp_bnd2 (wp_of v1 (wp_ifF (by dsimp only; decide) (wp_bnd2 (wp_of x1 (wp_ifF (by dsimp only; decide) (wp_bind (wp_of y1 (wp_bind (wp_of e2 (wp_bind (wp_of h (wp_lt (wp_some rfl))))))))))))))))))))
    have fu : ∀ ρ6, FjR ρ6 (up ρ6 57 21 (ρ6 57 21 - 1)) := fun ρ6 c j q1 q2 => up_ne (by omega)
    rcases O with ⟨rfl, F1, F2, F3⟩ | ⟨rfl, b', st', cd', ⟨J2, k1, k2, k3, k4, k5, k6, k7⟩, d, s1, s2⟩
    · refine ⟨0, σ2, _, of_wp (hC _ (wp_ifT rfl (wp_some rfl))), hR _ F1.asksSign, g2.j.tr kC, fR5.tr (fu ρ5), Or.inl ⟨rfl, F1.up (Or.inr (Or.inr (Or.inr ⟨rfl, by decide⟩))), ?_, ?_⟩⟩
      · rw [up_ne (by omega)]; omega
      · rw [up_ne (by omega)]; omega
    · obtain ⟨P2, R2, m3, -, m5, m6, m7, m8, m9, m10⟩ := id J2
      obtain ⟨σ3, g3, g4, P3⟩ := P2.passSign (n := n) (c := 93) hT i93 hn
      obtain ⟨ρ6, z1, z2, z3⟩ := R2.asksSign (n := n) (c := 93) hT i93 hn
      have nb2 := nx_b (B := B) P2.2.2.1
      cases hs : sgB B L b' 93
      · rw [hs] at g3
        rw [hs, if_neg (by decide)] at P3 z3
        refine ⟨0, σ3, _, of_wp (hC _ (wp_ifF (by decide) (wp_bnd2 (wp_of g3 (wp_ifT rfl (wp_some rfl)))))), hR _ z1, g2.j.tr (kC.tr g4.j), fR5.tr (z2.j.tr (fu ρ6)), Or.inl ⟨rfl, by rw [P3.2.2.2.1]; exact z3.up (Or.inr (Or.inr (Or.inr ⟨rfl, by decide⟩))), ?_, ?_⟩⟩
        · rw [up_ne (by omega), z2 57 20 (by omega), m6]; omega
        · have := P2.2.2.1
          rw [up_ne (by omega), z2 57 20 (by omega), m6]; omega
      · rw [hs] at g3
        rw [hs, if_pos rfl] at P3 z3
        have te2 := te_b (B := B) P2.2.2.1
        have J3 := (J2.mv g4 z2 P3 z3 (by omega)).dp (v := ρ6 57 21 - 1) (dp' := dp) (by rw [z2 57 21 (by omega), m7]; omega) (by omega)
        refine ⟨1, σ3, _, of_wp (hC _ (wp_ifF (by decide) (wp_bnd2 (wp_of g3 (wp_ifF (by dsimp only; decide) (wp_some rfl)))))), hR _ z1, g2.j.tr (kC.tr g4.j), fR5.tr (z2.j.tr (fu ρ6)), Or.inr ⟨rfl, nx B L b', st', cd', ⟨J3, by omega, by omega, by omega, k4, k5, fun i hi => ?_, fun i hi => ?_⟩, d, ?_, ?_⟩⟩
        · rw [g4 _ _ (by omega), g4 _ _ (by omega), (k6 i hi).1, (k6 i hi).2, g2 _ _ (by omega), g2 _ _ (by omega)]
          exact ⟨rfl, rfl⟩
        · rw [up_ne (by omega), z2 63 i (by omega), k7 i hi, hc4 63 i (by omega)]
        · exact (s1.cg (fun i _ _ => ⟨g4 _ _ (by omega), g4 _ _ (by omega)⟩)).u (by unfold uS uP; omega)
        · exact (s2.cg (fun i _ _ => by rw [up_ne (by omega), z2 63 i (by omega)])).u (by unfold uS uP; omega)
  · have f3 := f2.tr x2
    refine ⟨0, σ, ρ3, of_wp ?_, of_wp ?_, FjC.rf, f3.j, Or.inl ⟨rfl, by rw [P.2.2.2.1]; exact x3, by rw [f3 57 20 (by omega), j6]; omega, by rw [f3 57 20 (by omega), j6]; omega⟩⟩
    · show wp (X3_passPart_b (JR n E) n (dp : Int) σ) _
      unfold X3_passPart_b
      exact wp_bind (wp_of c91 (wp_ifF (by decide) (wp_ifF (by rw [w32i (by omega)]; omega) (wp_some rfl))))
    · show wp (X12_part_b (MJ n D) n ρ) _
      unfold X12_part_b
      exact wp_bind (wp_of R.hf (wp_ifT rfl (wp_bnd2 (wp_of u1 (wp_ifT rfl (wp_bnd2 (wp_of v1 (wp_ifF (by dsimp only; decide) (wp_bnd2 (wp_of x1 (wp_ifT rfl (wp_some rfl))))))))))))
theorem part_ok {B : Nat → Int} {L T dp n D E : Nat} (hT : Txt B L) (hn : 500 < n) (H : dp < 6 → PJ B L T n (semS T (uS (dp + 1))) D E 5 3 (dp + 1) 3) : PJ B L T n (semS T (uP dp)) (D + 1) (E + 1) 7 5 dp 1 := by
  intro σ ρ b st cd hf J
  by_cases hk : kd B L b = 2
  · exact partN_ok J hT hk hn
  · cases hsg : sgB B L b 91
    · exact partF_ok J hT hk hsg hn
    · exact partB_ok J hT hsg hn hf H
