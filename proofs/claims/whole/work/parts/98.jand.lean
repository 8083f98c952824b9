/-! ===== the judge's text: and, or; all pieces ===== -/
theorem ao_eq : strB 68 = strB 24 ∧ strB 69 = strB 25 := by decide +kernel
def jmpL (rec : Nat → Int → SG → Option (Int × SG)) (n w : Nat) (kind : Int) (ri : Nat) (a0 z4 : Int) (σ5 : SG) : Option ((Int × SG) ⊕ ((SG) ⊕ (Int × SG))) := if 400 ≤ w32 z4 then some (.inr (.inl σ5)) else bnd2 (X10_passWord n w σ5) fun v9 σ10 => if w32 v9 = 0 then some (.inr (.inl σ10)) else ckR isJudge (σ10 18 1) fun k11 => bnd2 (X2_write n k11 kind 0 σ10) fun v13 σ14 => bnd2 (rec ri a0 σ14) fun v16 σ17 => if w32 v16 = 0 then some (.inr (.inr (0, σ17))) else ckR isJudge (σ17 18 1) fun k18 => (X2_landHere n k18 v13 σ17).bind fun σ20 => lt (z4 + 1) fun x21 => some (.inl (x21, σ20))
theorem anyL_eq {rec : Nat → Int → SG → Option (Int × SG)} {n : Nat} {a z : Int} {σ : SG} : X3_passAny_l12 rec n a z σ = jmpL rec n 25 10 1 a z σ := rfl
theorem allL_eq {rec : Nat → Int → SG → Option (Int × SG)} {n : Nat} {a z : Int} {σ : SG} : X3_passAll_l12 rec n a z σ = jmpL rec n 24 11 2 a z σ := rfl
def jmpR (rec : Nat → SG → Option SG) (n w : Nat) (code : Int) (ri : Nat) (σ3 : SG) : Option ((SG) ⊕ (SG)) := bnd2 (X12_takesWord n w σ3) fun v7 σ8 => if w32 v7 = 0 then some (.inr σ8) else lt (σ8 57 20) fun x9 => (X12_codes n code σ8).bind fun σ11 => (X12_codes n 0 σ11).bind fun σ13 => (rec ri σ13).bind fun σ15 => rdA 900 (x9 + 1) fun j16 => lt (up σ15 63 j16 (σ15 57 20)) fun σ17 => some (.inl σ17)
theorem someR_eq {rec : Nat → SG → Option SG} {n : Nat} {σ : SG} : X12_some_l4 rec n σ = jmpR rec n 69 29 1 σ := rfl
theorem everyR_eq {rec : Nat → SG → Option SG} {n : Nat} {σ : SG} : X12_every_l4 rec n σ = jmpR rec n 68 28 2 σ := rfl
theorem FR.jmpL {ρ : SG} {B : Nat → Int} {L n m w ri : Nat} {x code : Int} {rec : Nat → SG → Option SG} (h : FR ρ B L x) (hn : 500 < n) (hm : 0 < m) : iter m (fun s : SG => jmpR rec n w code ri s) ρ = some ρ := by
  obtain ⟨a, rfl⟩ : ∃ a, m = a + 1 := ⟨m - 1, by omega⟩
  refine iter_r (of_wp ?_)
  unfold jmpR
  exact wp_bnd2 (wp_of (h.takesWord hn) (wp_ifT rfl (wp_some rfl)))
theorem land_ok {σ : SG} {T st st' n : Nat} (h : σ T 2 = (st' : Int)) (hs : st < st') (h4 : st' ≤ 400) : X2_landHere n T (st : Int) σ = some (up σ (T + 2) st (st' : Int)) := by
  refine of_wp ?_
  unfold X2_landHere
  refine wp_ifF (by rw [w32i (by omega)]; omega) (wp_ifF (by rw [h, w32i (by omega), w32i (by omega)]; omega) (wp_rdn (by omega) (by omega) (wp_lt (wp_some ?_))))
  rw [h]
theorem jmpLoop {B : Nat → Int} {L T n D E dp ri i2 lv u b0 st0 cd0 wc wr : Nat} {kind code w : Int} {σ0 ρ0 : SG} (hT : Txt B L) (hn : 500 < n) (hD : D ≤ 300) (hwc : wc < 70) (hwr : wr < 70) (hw : strB wr = strB wc) (hwl : 2 ≤ (strB wc).length) (hk : (w = 1 ∧ kind = 10 ∧ code = 29) ∨ (w = 0 ∧ kind = 11 ∧ code = 28)) (H : PJ B L T n (semC T u) D E ri i2 dp lv) :
    ∀ (d k : Nat) (σ ρ : SG) (b st cd : Nat), L - b ≤ d → k ≤ b → (L - b) + 9 * (6 - dp) + 3 * lv ≤ 3 * D → JK B L T b0 st0 cd0 dp σ0 ρ0 σ ρ b st cd → semC T u (σ (T + 1)) (σ (T + 2)) st0 st (ρ 63) cd0 cd → FjC T σ0 σ → FjR ρ0 ρ → ∀ n1 n2, d < n1 → d + 1 < n2 → ∃ r ρ' σ', iter n1 (fun s : Int × SG => jmpL (JR n E) n wc kind ri (dp : Int) s.1 s.2) ((k : Int), σ) = some r ∧ iter n2 (fun s : SG => jmpR (MJ n D) n wr code i2 s) ρ = some ρ' ∧ FjC T σ0 σ' ∧ FjR ρ0 ρ' ∧
      ((r = .inl σ' ∧ ∃ b' st' cd', JK B L T b0 st0 cd0 dp σ0 ρ0 σ' ρ' b' st' cd' ∧ semC T u (σ' (T + 1)) (σ' (T + 2)) st0 st' (ρ' 63) cd0 cd') ∨ (r = .inr (0, σ') ∧ FR ρ' B L (σ' 15 3) ∧ 0 ≤ ρ' 57 20 ∧ ρ' 57 20 ≤ 400 + ((D + 1 : Nat) : Int))) := by
  intro d
  induction d with
  | zero =>
    intro k σ ρ b st cd hd hkb hf K S0 fC fR n1 n2 h1 h2
    obtain ⟨a, rfl⟩ : ∃ a, n1 = a + 1 := ⟨n1 - 1, by omega⟩
    obtain ⟨c, rfl⟩ : ∃ c, n2 = c + 1 := ⟨n2 - 1, by omega⟩
    obtain ⟨J, q1, q2, q3, q4, q5, q6, q7⟩ := id K
    obtain ⟨P, R, -, hJ, -⟩ := id J
    have hb := P.2.2.1
    have hno : waB B L b (strB wc) = false := by
      cases hq : waB B L b (strB wc)
      · rfl
      · have := (wa_nx hq hb).2.2.2
        omega
    obtain ⟨ρ1, u1, u2, u3⟩ := R.takesWord (n := n) (a := wr) hT hwr hn
    rw [hw, hno] at u1 u3
    rw [if_neg (by decide)] at u3
    obtain ⟨σ1, g1, g2, P1⟩ := P.passWord (n := n) (a := wc) hT hwc hn
    rw [hno] at g1
    rw [hno, if_neg (by decide)] at P1
    obtain ⟨σ2, hl, f2, P2⟩ : ∃ σ2, jmpL (JR n E) n wc kind ri (dp : Int) (k : Int) σ = some (.inr (.inl σ2)) ∧ FrT σ σ2 ∧ TC σ2 B L b := by
      by_cases c : 400 ≤ w32 (k : Int)
      · refine ⟨σ, of_wp ?_, FrT.rf, P⟩
        unfold jmpL
        exact wp_ifT c (wp_some rfl)
      · refine ⟨σ1, of_wp ?_, g2, P1⟩
        unfold jmpL
        exact wp_ifF c (wp_bnd2 (wp_of g1 (wp_ifT rfl (wp_some rfl))))
    have hr : jmpR (MJ n D) n wr code i2 ρ = some (.inr ρ1) := of_wp (by
      unfold jmpR
      exact wp_bnd2 (wp_of u1 (wp_ifT rfl (wp_some rfl))))
    refine ⟨.inl σ2, ρ1, σ2, iter_r hl, iter_r hr, fC.tr f2.j, fR.tr u2.j, Or.inl ⟨rfl, b, st, cd, ⟨J.mv f2 u2 P2 u3.tr (Nat.le_refl _), q1, q2, q3, q4, q5, fun i hi => by rw [f2 _ _ (by omega), f2 _ _ (by omega)]; exact q6 i hi, fun i hi => by rw [u2 63 i (by omega)]; exact q7 i hi⟩, ?_⟩⟩
    rw [show ρ1 63 = ρ 63 from funext fun i => u2 63 i (by omega), show σ2 (T + 1) = σ (T + 1) from funext fun i => f2 _ i (by have := J.2.2.2.1; omega), show σ2 (T + 2) = σ (T + 2) from funext fun i => f2 _ i (by have := J.2.2.2.1; omega)]
    exact S0
  | succ d ih =>
    intro k σ ρ b st cd hd hkb hf K S0 fC fR n1 n2 h1 h2
    obtain ⟨a, rfl⟩ : ∃ a, n1 = a + 1 := ⟨n1 - 1, by omega⟩
    obtain ⟨c, rfl⟩ : ∃ c, n2 = c + 1 := ⟨n2 - 1, by omega⟩
    obtain ⟨J, q1, q2, q3, q4, q5, q6, q7⟩ := id K
    obtain ⟨P, R, -, hJ, j5, j6, j7, j8, j9, j10⟩ := id J
    have hL := hT.1
    have hb := P.2.2.1
    obtain ⟨ρ1, u1, u2, u3⟩ := R.takesWord (n := n) (a := wr) hT hwr hn
    rw [hw] at u1 u3
    obtain ⟨σ1, g1, g2, P1⟩ := P.passWord (n := n) (a := wc) hT hwc hn
    cases hq : waB B L b (strB wc)
    · rw [hq] at u1 g1
      rw [hq, if_neg (by decide)] at u3 P1
      obtain ⟨σ2, hl, f2, P2⟩ : ∃ σ2, jmpL (JR n E) n wc kind ri (dp : Int) (k : Int) σ = some (.inr (.inl σ2)) ∧ FrT σ σ2 ∧ TC σ2 B L b := by
        by_cases c : 400 ≤ w32 (k : Int)
        · refine ⟨σ, of_wp ?_, FrT.rf, P⟩
          unfold jmpL
          exact wp_ifT c (wp_some rfl)
        · refine ⟨σ1, of_wp ?_, g2, P1⟩
          unfold jmpL
          exact wp_ifF c (wp_bnd2 (wp_of g1 (wp_ifT rfl (wp_some rfl))))
      have hr : jmpR (MJ n D) n wr code i2 ρ = some (.inr ρ1) := of_wp (by
        unfold jmpR
        exact wp_bnd2 (wp_of u1 (wp_ifT rfl (wp_some rfl))))
      refine ⟨.inl σ2, ρ1, σ2, iter_r hl, iter_r hr, fC.tr f2.j, fR.tr u2.j, Or.inl ⟨rfl, b, st, cd, ⟨J.mv f2 u2 P2 u3.tr (Nat.le_refl _), q1, q2, q3, q4, q5, fun i hi => by rw [f2 _ _ (by omega), f2 _ _ (by omega)]; exact q6 i hi, fun i hi => by rw [u2 63 i (by omega)]; exact q7 i hi⟩, ?_⟩⟩
      rw [show ρ1 63 = ρ 63 from funext fun i => u2 63 i (by omega), show σ2 (T + 1) = σ (T + 1) from funext fun i => f2 _ i (by omega), show σ2 (T + 2) = σ (T + 2) from funext fun i => f2 _ i (by omega)]
      exact S0
    · rw [hq] at u1 g1
      rw [hq, if_pos rfl] at u3 P1
      obtain ⟨w1, w2, w3, w4⟩ := wa_nx hq hb
      have nb := nx_b (B := B) hb
      have J1 := J.mv g2 u2 P1 u3 (by omega)
      obtain ⟨σ2, x1, J2, x3, x4, x5, x6, x7⟩ := J1.wC (n := n) (kind := kind) (v := 0) hT (by omega)
      obtain ⟨ρ2, y1, J3, y3, y4, y5⟩ := J2.wR (n := n) (v := code) hT (by omega)
      obtain ⟨ρ3, z1, J4, z3, z4, z5⟩ := J3.wR (n := n) (v := 0) hT (by omega)
      obtain ⟨v, σ3, ρ4, e1, e2, kC, kR, O⟩ := H σ2 ρ3 (nx B L b) (st + 1) (cd + 2) (by omega) J4
      have hC : ∀ Q : ((Int × SG) ⊕ ((SG) ⊕ (Int × SG))) → Prop, wp (if w32 v = 0 then some (.inr (.inr (0, σ3))) else ckR isJudge (σ3 18 1) fun k18 => (X2_landHere n k18 (st : Int) σ3).bind fun σ20 => lt ((k : Int) + 1) fun x21 => some (.inl (x21, σ20))) Q → wp (jmpL (JR n E) n wc kind ri (dp : Int) (k : Int) σ) Q := fun Q hQ => by
        unfold jmpL
        exact wp_ifF (by rw [w32i (by omega)]; omega) (wp_bnd2 (wp_of g1 (wp_ifF (by dsimp only; decide) (wp_ckI T J1.2.2.1 (isJudge_J hJ) (wp_bnd2 (wp_of x1 (wp_bnd2 (wp_of e1 hQ))))))))
      have hcd : ρ1 57 20 = (cd : Int) := J1.2.2.2.2.2.1
      have hR : jmpR (MJ n D) n wr code i2 ρ = some (.inl (up ρ4 63 (cd + 1) (ρ4 57 20))) := of_wp (by
        unfold jmpR
        refine wp_bnd2 (wp_of u1 (wp_ifF (by dsimp only; decide) (wp_lt (wp_bind (wp_of y1 (wp_bind (wp_of z1 (wp_bind (wp_of e2 ?_)))))))))
        dsimp only
        rw [hcd]
        exact wp_rdI (cd + 1) (by omega) (by omega) (by decide) (wp_lt (wp_some rfl)))
      have fu : FjR ρ4 (up ρ4 63 (cd + 1) (ρ4 57 20)) := fun c j q1 q2 => up_ne (by omega)
      have fC3 : FjC T σ0 σ3 := fC.tr (g2.j.tr (x6.tr kC))
      have fR4 : FjR ρ0 (up ρ4 63 (cd + 1) (ρ4 57 20)) := fR.tr (u2.j.tr (y5.tr (z5.tr (kR.tr fu))))
      rcases O with ⟨rfl, F1, F2, F3⟩ | ⟨rfl, b', st', cd', ⟨J5, k1, k2, k3, k4, k5, k6, k7⟩, d2, hB2, s1, s2⟩
      · have F5 := F1.up (k := 63) (j := cd + 1) (v := ρ4 57 20) (Or.inr (Or.inl rfl))
        refine ⟨.inr (0, σ3), _, σ3, iter_r (of_wp (hC _ (wp_ifT rfl (wp_some rfl)))), (iter_l (f := fun s : SG => jmpR (MJ n D) n wr code i2 s) (a := ρ) hR).trans (F5.jmpL hn (by omega)), fC3, fR4, Or.inr ⟨rfl, F5, ?_, ?_⟩⟩
        · rw [up_ne (by omega)]; omega
        · rw [up_ne (by omega)]; omega
      · obtain ⟨P5, R5, m3, -, m5, m6, m7, m8, m9, m10⟩ := id J5
        have hb5 := P5.2.2.1
        have hstep : jmpL (JR n E) n wc kind ri (dp : Int) (k : Int) σ = some (.inl (((k + 1 : Nat) : Int), up σ3 (T + 2) st (st' : Int))) := of_wp (hC _ (wp_ifF (by decide) (wp_ckI T m3 (isJudge_J hJ) (wp_bind (wp_of (land_ok m5 (by omega) (by omega)) (wp_lt (wp_some (by rw [show (k : Int) + 1 = ((k + 1 : Nat) : Int) by omega]))))))))
        rw [m6] at hR fR4
        have J6 : JS (up σ3 (T + 2) st (st' : Int)) (up ρ4 63 (cd + 1) (cd' : Int)) B L T b' st' cd' dp := ⟨P5.cg (fun j => up_ne (by omega)) (fun j => up_ne (by omega)), R5.up (Or.inr (Or.inl rfl)), by rw [up_ne (by omega)]; exact m3, hJ, by rw [up_ne (by omega)]; exact m5, by rw [up_ne (by omega)]; exact m6, by rw [up_ne (by omega)]; exact m7, m8, m9, m10⟩
        have kc1 : ∀ i, i < st → up σ3 (T + 2) st (st' : Int) (T + 1) i = σ (T + 1) i ∧ up σ3 (T + 2) st (st' : Int) (T + 2) i = σ (T + 2) i := fun i hi => by
          rw [up_ne (by omega), up_ne (by omega), (k6 i (by omega)).1, (k6 i (by omega)).2, (x5 i (by omega)).1, (x5 i (by omega)).2, g2 _ _ (by omega), g2 _ _ (by omega)]
          exact ⟨rfl, rfl⟩
        have kr1 : ∀ i, i < cd → up ρ4 63 (cd + 1) (cd' : Int) 63 i = ρ 63 i := fun i hi => by
          rw [up_ne (by omega), k7 i (by omega), z4 i (by omega), y4 i (by omega), u2 63 i (by omega)]
        have K' : JK B L T b0 st0 cd0 dp σ0 ρ0 (up σ3 (T + 2) st (st' : Int)) (up ρ4 63 (cd + 1) (cd' : Int)) b' st' cd' := ⟨J6, by omega, by omega, by omega, by omega, by omega, fun i hi => by rw [(kc1 i (by omega)).1, (kc1 i (by omega)).2]; exact q6 i hi, fun i hi => by rw [kr1 i (by omega)]; exact q7 i hi⟩
        have S' : semC T u (up σ3 (T + 2) st (st' : Int) (T + 1)) (up σ3 (T + 2) st (st' : Int) (T + 2)) st0 st' (up ρ4 63 (cd + 1) (cd' : Int) 63) cd0 cd' := by
          obtain ⟨d1, hB1, t1, t2⟩ := S0
          refine ⟨djmp w d1 d2, Bl_jmp (by omega) hB2, CC_jmp (t1.cg (fun i i1 i2 => kc1 i (by omega))) (s1.cg (fun i i1 i2 => ⟨up_ne (by omega), up_ne (by omega)⟩)) ?_ (up_eq rfl rfl), RS_jmp (t2.cg (fun i i1 i2 => kr1 i (by omega))) (s2.cg (fun i i1 i2 => up_ne (by omega))) hB1 ?_ (up_eq rfl rfl) (by omega)⟩
          · have h10 : up σ3 (T + 2) st (st' : Int) (T + 1) st = kind := by rw [up_ne (by omega), (k6 st (by omega)).1]; exact x3
            rw [h10]
            rcases hk with ⟨h1, h2, -⟩ | ⟨h1, h2, -⟩
            · exact Or.inl ⟨h1, h2⟩
            · exact Or.inr ⟨h1, h2⟩
          · have h10 : up ρ4 63 (cd + 1) (cd' : Int) 63 cd = code := by rw [up_ne (by omega), k7 cd (by omega), z4 cd (by omega)]; exact y3
            rw [h10]
            rcases hk with ⟨h1, -, h2⟩ | ⟨h1, -, h2⟩
            · exact Or.inl ⟨h1, h2⟩
            · exact Or.inr ⟨h1, h2⟩
        have fu2 : FjC T σ3 (up σ3 (T + 2) st (st' : Int)) := fun c j a1 a2 a3 a4 => up_ne (by omega)
        obtain ⟨r, ρ', σ', m1, m2, n3, n4, n5⟩ := ih (k + 1) _ _ b' st' cd' (by omega) (by omega) (by omega) K' S' (fC3.tr fu2) fR4 a c (by omega) (by omega)
        exact ⟨r, ρ', σ', (iter_l (f := fun s : Int × SG => jmpL (JR n E) n wc kind ri (dp : Int) s.1 s.2) (a := ((k : Int), σ)) hstep).trans m1, (iter_l (f := fun s : SG => jmpR (MJ n D) n wr code i2 s) (a := ρ) hR).trans m2, n3, n4, n5⟩
theorem all_ok {B : Nat → Int} {L T dp n D E : Nat} (hT : Txt B L) (hn : 500 < n) (hD : D ≤ 300) (H : PJ B L T n (semC T (uC dp)) D E 2 2 dp 4) : PJ B L T n (semC T (uC dp)) (D + 1) (E + 1) 1 1 dp 5 := by
  intro σ ρ b st cd hf J
  have hL := hT.1
  obtain ⟨v, σ1, ρ1, e1, e2, kC, kR, O⟩ := H σ ρ b st cd (by omega) J
  have hR : ∀ ρ', iter n (fun s : SG => jmpR (MJ n D) n 68 28 2 s) ρ1 = some ρ' → MJ n (D + 1) 1 ρ = some ρ' := fun ρ' h => of_wp (by
    show wp (X12_every_b (MJ n D) n ρ) _
    unfold X12_every_b
    refine wp_bind (wp_of e2 (wp_bind (wp_of h ?_)))
    unfold X12_every_e4
    exact wp_some rfl)
  rcases O with ⟨rfl, F1, F2, F3⟩ | ⟨rfl, b', st', cd', K, S⟩
  · refine ⟨0, σ1, ρ1, of_wp ?_, hR _ (F1.jmpL hn (by omega)), kC, kR, Or.inl ⟨rfl, F1, F2, by omega⟩⟩
    show wp (X3_passAll_b (JR n E) n (dp : Int) σ) _
    unfold X3_passAll_b
    exact wp_bnd2 (wp_of e1 (wp_ifT rfl (wp_some rfl)))
  · have hb' := K.1.1.2.2.1
    obtain ⟨r, ρ', σ', m1, m2, m3, m4, m5⟩ := jmpLoop (wc := 24) (wr := 68) (kind := 11) (code := 28) (w := 0) hT hn hD (by decide) (by decide) ao_eq.1 (by decide) (by decide) H (L - b') 0 σ1 ρ1 b' st' cd' (Nat.le_refl _) (by omega) (by have := K.2.1; omega) K S kC kR n n (by omega) (by omega)
    have hC : ∀ Q : Int × SG → Prop, wp (orr (fun s => X3_passAll_e12 (JR n E) n s) r) Q → wp (JR n (E + 1) 1 (dp : Int) σ) Q := fun Q hQ => by
      show wp (X3_passAll_b (JR n E) n (dp : Int) σ) _
      unfold X3_passAll_b
      exact wp_bnd2 (wp_of e1 (wp_ifF (by dsimp only; decide) (wp_bind (wp_of m1 hQ))))
    rcases m5 with ⟨rfl, b2, st2, cd2, K2, S2⟩ | ⟨rfl, F1, F2, F3⟩
    · refine ⟨1, σ', ρ', of_wp (hC _ ?_), hR _ m2, m3, m4, Or.inr ⟨rfl, b2, st2, cd2, K2, S2⟩⟩
      show wp (X3_passAll_e12 (JR n E) n σ') _
      unfold X3_passAll_e12
      exact wp_some rfl
    · exact ⟨0, σ', ρ', of_wp (hC _ (wp_some rfl)), hR _ m2, m3, m4, Or.inl ⟨rfl, F1, F2, F3⟩⟩
theorem any_ok {B : Nat → Int} {L T dp n D E : Nat} (hT : Txt B L) (hn : 500 < n) (hD : D ≤ 300) (H : PJ B L T n (semC T (uC dp)) D E 1 1 dp 5) : PJ B L T n (semC T (uC dp)) (D + 1) (E + 1) 0 0 dp 6 := by
  intro σ ρ b st cd hf J
  have hL := hT.1
  obtain ⟨v, σ1, ρ1, e1, e2, kC, kR, O⟩ := H σ ρ b st cd (by omega) J
  have hR : ∀ ρ', iter n (fun s : SG => jmpR (MJ n D) n 69 29 1 s) ρ1 = some ρ' → MJ n (D + 1) 0 ρ = some ρ' := fun ρ' h => of_wp (by
    show wp (X12_some_b (MJ n D) n ρ) _
    unfold X12_some_b
    refine wp_bind (wp_of e2 (wp_bind (wp_of h ?_)))
    unfold X12_some_e4
    exact wp_some rfl)
  rcases O with ⟨rfl, F1, F2, F3⟩ | ⟨rfl, b', st', cd', K, S⟩
  · refine ⟨0, σ1, ρ1, of_wp ?_, hR _ (F1.jmpL hn (by omega)), kC, kR, Or.inl ⟨rfl, F1, F2, by omega⟩⟩
    show wp (X3_passAny_b (JR n E) n (dp : Int) σ) _
    unfold X3_passAny_b
    exact wp_bnd2 (wp_of e1 (wp_ifT rfl (wp_some rfl)))
  · have hb' := K.1.1.2.2.1
    obtain ⟨r, ρ', σ', m1, m2, m3, m4, m5⟩ := jmpLoop (wc := 25) (wr := 69) (kind := 10) (code := 29) (w := 1) hT hn hD (by decide) (by decide) ao_eq.2 (by decide) (by decide) H (L - b') 0 σ1 ρ1 b' st' cd' (Nat.le_refl _) (by omega) (by have := K.2.1; omega) K S kC kR n n (by omega) (by omega)
    have hC : ∀ Q : Int × SG → Prop, wp (orr (fun s => X3_passAny_e12 (JR n E) n s) r) Q → wp (JR n (E + 1) 0 (dp : Int) σ) Q := fun Q hQ => by
      show wp (X3_passAny_b (JR n E) n (dp : Int) σ) _
      unfold X3_passAny_b
      exact wp_bnd2 (wp_of e1 (wp_ifF (by dsimp only; decide) (wp_bind (wp_of m1 hQ))))
    rcases m5 with ⟨rfl, b2, st2, cd2, K2, S2⟩ | ⟨rfl, F1, F2, F3⟩
    · refine ⟨1, σ', ρ', of_wp (hC _ ?_), hR _ m2, m3, m4, Or.inr ⟨rfl, b2, st2, cd2, K2, S2⟩⟩
      show wp (X3_passAny_e12 (JR n E) n σ') _
      unfold X3_passAny_e12
      exact wp_some rfl
    · exact ⟨0, σ', ρ', of_wp (hC _ (wp_some rfl)), hR _ m2, m3, m4, Or.inl ⟨rfl, F1, F2, F3⟩⟩
/-- every piece -/
def AllP (B : Nat → Int) (L T n D : Nat) : Prop := ∀ dp, dp ≤ 6 → ∀ E, (4 * (6 - dp) + 1 ≤ E → PJ B L T n (semS T (uP dp)) D E 7 5 dp 1) ∧ (4 * (6 - dp) + 2 ≤ E → PJ B L T n (semS T (1 + uP dp)) D E 6 4 dp 2) ∧ (4 * (6 - dp) + 3 ≤ E → PJ B L T n (semS T (uS dp)) D E 5 3 dp 3) ∧ (4 * (6 - dp) + 5 ≤ E → PJ B L T n (semC T (uC dp)) D E 2 2 dp 4) ∧ (4 * (6 - dp) + 6 ≤ E → PJ B L T n (semC T (uC dp)) D E 1 1 dp 5) ∧ (4 * (6 - dp) + 7 ≤ E → PJ B L T n (semC T (uC dp)) D E 0 0 dp 6)
theorem pieces {B : Nat → Int} {L T n : Nat} (hT : Txt B L) (hn : 500 < n) : ∀ D, D ≤ 300 → (∀ D', D' < D → AllP B L T n D') → AllP B L T n D := by
  intro D hD ih dp hdp E
  have hat : 4 * (6 - dp) + 5 ≤ E → PJ B L T n (semC T (uC dp)) D E 2 2 dp 4 := fun hE => by
    obtain ⟨E', rfl⟩ : ∃ E', E = E' + 2 := ⟨E - 2, by omega⟩
    exact atom_ok hT hn hD (fun D' h => (ih D' h dp hdp E').2.2.1 (by omega)) (fun D' h h6 => (ih D' h (dp + 1) (by omega) E').2.2.2.2.2 (by omega))
  cases D with
  | zero => exact ⟨fun _ σ ρ b st cd hf => absurd hf (by omega), fun _ σ ρ b st cd hf => absurd hf (by omega), fun _ σ ρ b st cd hf => absurd hf (by omega), fun _ σ ρ b st cd hf => absurd hf (by omega), fun _ σ ρ b st cd hf => absurd hf (by omega), fun _ σ ρ b st cd hf => absurd hf (by omega)⟩
  | succ D =>
    have i0 := ih D (by omega)
    refine ⟨fun hE => ?_, fun hE => ?_, fun hE => ?_, hat, fun hE => ?_, fun hE => ?_⟩
    · obtain ⟨E', rfl⟩ : ∃ E', E = E' + 1 := ⟨E - 1, by omega⟩
      exact part_ok hT hn (fun h6 => (i0 (dp + 1) (by omega) E').2.2.1 (by omega))
    · obtain ⟨E', rfl⟩ : ∃ E', E = E' + 1 := ⟨E - 1, by omega⟩
      exact prod_ok hT hn (by omega) ((i0 dp hdp E').1 (by omega))
    · obtain ⟨E', rfl⟩ : ∃ E', E = E' + 1 := ⟨E - 1, by omega⟩
      exact sum_ok hT hn (by omega) ((i0 dp hdp E').2.1 (by omega))
    · obtain ⟨E', rfl⟩ : ∃ E', E = E' + 1 := ⟨E - 1, by omega⟩
      exact all_ok hT hn (by omega) ((i0 dp hdp E').2.2.2.1 (by omega))
    · obtain ⟨E', rfl⟩ : ∃ E', E = E' + 1 := ⟨E - 1, by omega⟩
      exact any_ok hT hn (by omega) ((i0 dp hdp E').2.2.2.2.1 (by omega))
theorem pieces_all {B : Nat → Int} {L T n : Nat} (hT : Txt B L) (hn : 500 < n) : ∀ m D, D < m → D ≤ 300 → AllP B L T n D
  | 0, _, h, _ => absurd h (by omega)
  | m + 1, D, h, hD => pieces hT hn D hD (fun D' h' => pieces_all hT hn m D' (by omega) (by omega))
