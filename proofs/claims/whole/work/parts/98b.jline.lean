/-! ===== the judge's text: a line ===== -/
theorem jw_eq : strB 58 = strB 12 ∧ strB 59 = strB 13 ∧ strB 66 = strB 22 := by decide +kernel
def FlC (T : Nat) (σ σ' : SG) : Prop := ∀ c j, ¬ (c = 15 ∧ 2 ≤ j ∧ j ≤ 5) → ¬ (c = T ∧ (j = 2 ∨ j = 6)) → ¬ (T + 1 ≤ c ∧ c ≤ T + 5) → σ' c j = σ c j
def FlR (ρ ρ' : SG) : Prop := ∀ c j, ¬ (c = 57 ∧ (j = 4 ∨ j = 5 ∨ j = 7 ∨ j = 19 ∨ j = 20 ∨ j = 21)) → c ≠ 63 → c ≠ 65 → ρ' c j = ρ c j
theorem FlC.rf {T : Nat} {σ : SG} : FlC T σ σ := fun _ _ _ _ _ => rfl
theorem FlC.tr {T : Nat} {σ τ υ : SG} (h : FlC T σ τ) (h' : FlC T τ υ) : FlC T σ υ := fun c j a b d => (h' c j a b d).trans (h c j a b d)
theorem FlR.rf {σ : SG} : FlR σ σ := fun _ _ _ _ _ => rfl
theorem FlR.tr {σ τ υ : SG} (h : FlR σ τ) (h' : FlR τ υ) : FlR σ υ := fun c j a b d => (h' c j a b d).trans (h c j a b d)
theorem FrT.l {T : Nat} {σ τ : SG} (h : FrT σ τ) : FlC T σ τ := fun c j a _ _ => h c j a
theorem FrK.l {σ τ : SG} (h : FrK σ τ) : FlR σ τ := fun c j a _ _ => h c j (by omega)
theorem FjC.l {T : Nat} {σ τ : SG} (h : FjC T σ τ) : FlC T σ τ := fun c j a b d => h c j a (by omega) (by omega) (by omega)
theorem FjR.l {σ τ : SG} (h : FjR σ τ) : FlR σ τ := fun c j a b _ => h c j (by omega) b
theorem FlR.u65 {ρ : SG} {j : Nat} {v : Int} : FlR ρ (up ρ 65 j v) := fun c i _ _ h => up_ne (by omega)
theorem JS.cgw {σ ρ σ' ρ' : SG} {B : Nat → Int} {L T b st cd dp : Nat} (h : JS σ ρ B L T b st cd dp) (e : ∀ c j, c = 15 ∨ c = 16 ∨ (c = 18 ∧ j = 1) ∨ (c = T ∧ j = 2) → σ' c j = σ c j) (g : ∀ c j, (c = 57 ∧ ((4 ≤ j ∧ j ≤ 7) ∨ j = 20 ∨ j = 21)) ∨ c = 58 → ρ' c j = ρ c j) : JS σ' ρ' B L T b st cd dp := by
  obtain ⟨h1, h2, h3, h4, h5, h6, h7, h8⟩ := h
  exact ⟨h1.cg (fun j => e 15 j (by omega)) (fun j => e 16 j (by omega)), h2.cg (fun j hj => g 57 j (by omega)) (fun j => g 58 j (by omega)), (e 18 1 (by omega)).trans h3, h4, (e T 2 (by omega)).trans h5, (g 57 20 (by omega)).trans h6, (g 57 21 (by omega)).trans h7, h8⟩
def lineC2 (n : Nat) (σ40 : SG) : Option (Int × SG) := bnd2 (X10_passWord n 22 σ40) fun v42 σ43 => if w32 v42 = 0 then ckR isJudge (σ43 18 1) fun k44 => (X2_endLine n k44 σ43).bind fun σ46 => some ((1, σ46)) else bnd2 (JR n 200 0 0 σ43) fun v48 σ49 => if w32 v48 = 0 then some ((0, σ49)) else ckR isJudge (σ49 18 1) fun k50 => (X2_endLine n k50 σ49).bind fun σ52 => some ((1, σ52))
def lineC (n : Nat) (v2 : Int) (σ : SG) : Option (Int × SG) := ckR isJudge (σ 18 1) fun k29 => if w32 (σ k29 6) < 10 then (X10_advance n σ).bind fun σ31 => ckR isJudge (σ31 18 1) fun k32 => (X2_beginLine n k32 v2 σ31).bind fun σ34 => bnd2 (JR n 200 5 0 σ34) fun v36 σ37 => if w32 v36 = 0 then some ((0, σ37)) else ckR isJudge (σ37 18 1) fun k38 => (X2_endSum n k38 σ37).bind fun σ40 => lineC2 n σ40 else some ((0, σ))
theorem passLine_eq {n : Nat} {σ : SG} : X3_passLine n σ = (X10_isWord n 12 σ).bind fun v2 => if w32 v2 = 0 then (X10_isWord n 13 σ).bind fun v28 => if w32 v28 = 0 then some ((0, σ)) else lineC n v2 σ else lineC n v2 σ := rfl
def lineR2 (n : Nat) (x3 : Int) (σ18 : SG) : Option SG := bnd2 (X12_takesWord n 66 σ18) fun v20 σ21 => ((if w32 v20 = 0 then some (σ21) else (MJ n 200 0 σ21).bind fun σ28 => some (σ28)) : Option (SG)).bind (fun s => X12_judgeLine_j101 n x3 s)
theorem j58_eq {n : Nat} {x3 y9 : Int} {σ7 : SG} : X12_judgeLine_j58 n x3 σ7 y9 = rdA 40 x3 fun j11 => lt (up σ7 65 j11 y9) fun σ12 => rdA 40 (x3 + 1) fun j13 => lt (up σ12 65 j13 (σ12 57 20)) fun σ14 => (MJ n 200 3 σ14).bind fun σ16 => rdA 40 (x3 + 2) fun j17 => lt (up σ16 65 j17 (σ16 57 20)) fun σ18 => lineR2 n x3 σ18 := rfl
/-! once it failed -/
theorem jlF3 {ρ : SG} {B : Nat → Int} {L l n : Nat} {x : Int} (h : FR ρ B L x) (hl : l < 10) : wp (X12_judgeLine_j101 n (4 * (l : Int)) ρ) (fun ρ' => FR ρ' B L x ∧ FlR ρ ρ') := by
  unfold X12_judgeLine_j101
  refine wp_rdI (4 * l + 3) (by omega) (by omega) (by decide) (wp_lt (wp_lt (wp_some ⟨(h.up (Or.inr (Or.inr (Or.inl rfl)))).up (Or.inr (Or.inr (Or.inr ⟨rfl, by decide⟩))), fun c j q1 q2 q3 => ?_⟩)))
  rw [up_ne (by omega), up_ne (by omega)]
theorem jlF2 {ρ : SG} {B : Nat → Int} {L l n : Nat} {x : Int} (h : FR ρ B L x) (hl : l < 10) (hn : 500 < n) : wp (lineR2 n (4 * (l : Int)) ρ) (fun ρ' => FR ρ' B L x ∧ FlR ρ ρ') := by
  unfold lineR2
  exact wp_bnd2 (wp_of (h.takesWord hn) (wp_bind (wp_ifT rfl (wp_some (jlF3 h hl)))))
theorem jlF1 {ρ : SG} {B : Nat → Int} {L l n : Nat} {x y : Int} (h : FR ρ B L x) (hT : Txt B L) (hl : l < 10) (hn : 500 < n) : wp (X12_judgeLine_j58 n (4 * (l : Int)) ρ y) (fun ρ' => FR ρ' B L x ∧ FlR ρ ρ') := by
  rw [j58_eq]
  refine wp_rdI (4 * l) (by omega) (by omega) (by decide) (wp_lt (wp_rdI (4 * l + 1) (by omega) (by omega) (by decide) (wp_lt (wp_bind ?_))))
  have h2 := (h.up (k := 65) (j := 4 * l) (v := y) (Or.inr (Or.inr (Or.inl rfl)))).up (k := 65) (j := 4 * l + 1) (v := up ρ 65 (4 * l) y 57 20) (Or.inr (Or.inr (Or.inl rfl)))
  obtain ⟨ρ1, e1, e2, e3⟩ := h2.sum (n := n) (D := 197) hT hn
  refine wp_of e1 (wp_rdI (4 * l + 2) (by omega) (by omega) (by decide) (wp_lt ?_))
  exact wp_mono (jlF2 (e2.up (Or.inr (Or.inr (Or.inl rfl)))) hl hn) (fun ρ' hp => ⟨hp.1, FlR.u65.tr (FlR.u65.tr (e3.l.tr (FlR.u65.tr hp.2)))⟩)
/-- the lines so far -/
def shj (ρ : SG) : SG := fun k => if k = 64 then ρ 65 else if k = 62 then ρ 63 else ρ k
theorem shj_64 {ρ : SG} : shj ρ 64 = ρ 65 := if_pos rfl
theorem shj_62 {ρ : SG} : shj ρ 62 = ρ 63 := by
  unfold shj
  rw [if_neg (by decide), if_pos rfl]
def JD (σ ρ : SG) (T st l : Nat) : Prop := l ≤ 10 ∧ σ T 6 = (l : Int) ∧ ρ 57 19 = (l : Int) ∧ (0 < l → σ (T + 4) l = (st : Int)) ∧ ∀ i, i < l → ILine σ (shj ρ) T st i
/-- a line written before stays -/
theorem ILine.keep {σ ρ σ' ρ' : SG} {T st st' cd l i : Nat} (h : ILine σ (shj ρ) T st i) (hi : i < l) (hs : st ≤ st') (e3 : ∀ j, j < l → σ' (T + 3) j = σ (T + 3) j ∧ σ' (T + 5) j = σ (T + 5) j) (e4 : ∀ j, j ≤ l → σ' (T + 4) j = σ (T + 4) j) (e1 : ∀ j, j < st → σ' (T + 1) j = σ (T + 1) j ∧ σ' (T + 2) j = σ (T + 2) j) (g5 : ∀ j, j < 4 * l → ρ' 65 j = ρ 65 j) (g3 : ∀ j, j < cd → ρ' 63 j = ρ 63 j) (hcd : ∀ j, j < l → ρ 65 (4 * j + 3) ≤ (cd : Int)) : ILine σ' (shj ρ') T st' i := by
  obtain ⟨a, m, b, a', m', b', d, h1, h2, h3, h4, h5, h6, h7, h8, h9, h10, h11, h12, h13, h14⟩ := h
  rw [shj_64] at h6 h7 h8 h11
  rw [shj_62] at h13 h14
  have hb' := hcd i hi
  refine ⟨a, m, b, a', m', b', d, (e4 i (by omega)).trans h1, (e3 i hi).2.trans h2, (e4 (i + 1) (by omega)).trans h3, h4, by omega, ?_, ?_, ?_, h9, h10, ?_, h12.cg (fun j j1 j2 => e1 j (by omega)), ?_, ?_⟩
  · rw [shj_64, g5 _ (by omega)]; exact h6
  · rw [shj_64, g5 _ (by omega)]; exact h7
  · rw [shj_64, g5 _ (by omega)]; exact h8
  · rw [shj_64, (e3 i hi).1, g5 _ (by omega)]; exact h11
  · rw [shj_62]
    exact h13.cg (fun j j1 j2 => g3 j (by omega))
  · rw [shj_62]
    rcases h14 with h14 | ⟨c, c1, c2, c3⟩
    · exact Or.inl h14
    · exact Or.inr ⟨c, c1, c2.cg (fun j j1 j2 => e1 j (by omega)), c3.cg (fun j j1 j2 => g3 j (by omega))⟩
/-- with a bound for where the lines' codes end -/
def JD2 (σ ρ : SG) (T st cd l : Nat) : Prop := JD σ ρ T st l ∧ ∀ j, j < l → ρ 65 (4 * j + 3) ≤ (cd : Int)
/-- behind the sum -/
def LnB (B : Nat → Int) (L T b st l : Nat) (st0 cd0 : Nat) (σ ρ : SG) (v : Int) (σ' ρ' : SG) : Prop := FlC T σ σ' ∧ FlR ρ ρ' ∧ ((v = 0 ∧ FR ρ' B L (σ' 15 3)) ∨ (v = 1 ∧ ∃ b' st' cd', JS σ' ρ' B L T b' st' cd' 0 ∧ b ≤ b' ∧ st ≤ st' ∧ (∀ i, i < st → σ' (T + 1) i = σ (T + 1) i ∧ σ' (T + 2) i = σ (T + 2) i) ∧ (∀ i, i < cd0 → ρ' 63 i = ρ 63 i) ∧ cd0 ≤ cd' ∧ (∀ j, σ' (T + 3) j = σ (T + 3) j ∧ σ' (T + 5) j = σ (T + 5) j) ∧ (∀ j, j ≠ l + 1 → σ' (T + 4) j = σ (T + 4) j) ∧ σ' (T + 4) (l + 1) = (st' : Int) ∧ σ' T 6 = ((l + 1 : Nat) : Int) ∧ ρ' 57 19 = ((l + 1 : Nat) : Int) ∧ (∀ j, j ≠ 4 * l + 3 → ρ' 65 j = ρ 65 j) ∧ ρ' 65 (4 * l + 3) = (cd' : Int) ∧
  ((st' = st ∧ cd' = cd0) ∨ ∃ c : Dn, Bl c ∧ CC T (σ' (T + 1)) (σ' (T + 2)) st st' 24 c ∧ RS (ρ' 63) cd0 cd' 400 c)))
theorem endLine_ok {σ : SG} {T l st n : Nat} (h6 : σ T 6 = (l : Int)) (hl : l < 10) (h2 : σ T 2 = (st : Int)) : X2_endLine n T σ = some (up (up σ T 6 ((l + 1 : Nat) : Int)) (T + 4) (l + 1) (st : Int)) := by
  refine of_wp ?_
  unfold X2_endLine
  refine wp_ifF (by rw [h6, w32i (by omega)]; omega) (wp_lt ?_)
  rw [h6, show (l : Int) + 1 = ((l + 1 : Nat) : Int) by omega]
  refine wp_rdI (l + 1) (up_eq rfl rfl) (by omega) (by decide) (wp_lt (wp_some ?_))
  rw [up_ne (by omega), h2]
theorem lineB_ok {σ ρ : SG} {B : Nat → Int} {L T b st cd l n : Nat} (J : JS σ ρ B L T b st cd 0) (hT : Txt B L) (hn : 500 < n) (hl : l < 10) (h6 : σ T 6 = (l : Int)) (h19 : ρ 57 19 = (l : Int)) : wp (lineC2 n σ) (fun r => wp (lineR2 n (4 * (l : Int)) ρ) (fun ρ' => LnB B L T b st l st cd σ ρ r.1 r.2 ρ')) := by
  obtain ⟨P, R, j3, hJ, j5, j6, j7, j8, j9, j10⟩ := id J
  have hL := hT.1
  have hb := P.2.2.1
  obtain ⟨σ1, g1, g2, P1⟩ := P.passWord (n := n) (a := 22) hT (by decide) hn
  obtain ⟨ρ1, u1, u2, u3⟩ := R.takesWord (n := n) (a := 66) hT (by decide) hn
  rw [jw_eq.2.2] at u1 u3
  -- the end of a line, on both sides
  have fin : ∀ (σ2 ρ2 : SG) (b' st' cd' : Nat), JS σ2 ρ2 B L T b' st' cd' 0 → b ≤ b' → st ≤ st' → cd ≤ cd' → FjC T σ σ2 → FjR ρ ρ2 → (∀ i, i < st → σ2 (T + 1) i = σ (T + 1) i ∧ σ2 (T + 2) i = σ (T + 2) i) → (∀ i, i < cd → ρ2 63 i = ρ 63 i) → ((st' = st ∧ cd' = cd) ∨ ∃ c : Dn, Bl c ∧ CC T (σ2 (T + 1)) (σ2 (T + 2)) st st' 24 c ∧ RS (ρ2 63) cd cd' 400 c) →
      wp (X12_judgeLine_j101 n (4 * (l : Int)) ρ2) (fun ρ' => LnB B L T b st l st cd σ ρ 1 (up (up σ2 T 6 ((l + 1 : Nat) : Int)) (T + 4) (l + 1) (st' : Int)) ρ') := by
    intro σ2 ρ2 b' st' cd' J2 hb' hst hcd fC fR k1 k2 hc
    have h20 : ρ2 57 20 = (cd' : Int) := J2.2.2.2.2.2.1
    unfold X12_judgeLine_j101
    refine wp_rdI (4 * l + 3) (by omega) (by omega) (by decide) (wp_lt (wp_lt (wp_some ?_)))
    rw [h20, show up ρ2 65 (4 * l + 3) (cd' : Int) 57 19 = (l : Int) by rw [up_ne (by omega), fR 57 19 (by omega) (by omega)]; exact h19, show (l : Int) + 1 = ((l + 1 : Nat) : Int) by omega]
    refine ⟨fun c j q1 q2 q3 => ?_, fun c j q1 q2 q3 => ?_, Or.inr ⟨rfl, b', st', cd', J2.cgw (fun c j h => ?_) (fun c j h => ?_), hb', hst, fun i hi => ?_, fun i hi => ?_, hcd, fun j => ⟨?_, ?_⟩, fun j hj => ?_, up_eq rfl rfl, ?_, up_eq rfl rfl, fun j hj => ?_, ?_, ?_⟩⟩
    · rw [up_ne (by omega), up_ne (by omega)]
      exact fC c j q1 (by omega) (by omega) (by omega)
    · rw [up_ne (by omega), up_ne (by omega)]
      exact fR c j (by omega) q2
    · rw [up_ne (by omega), up_ne (by omega)]
    · rw [up_ne (by omega), up_ne (by omega)]
    · rw [up_ne (by omega), up_ne (by omega), up_ne (by omega), up_ne (by omega)]; exact k1 i hi
    · rw [up_ne (by omega), up_ne (by omega)]; exact k2 i hi
    · rw [up_ne (by omega), up_ne (by omega)]
      exact fC _ j (by omega) (by omega) (by omega) (by omega)
    · rw [up_ne (by omega), up_ne (by omega)]
      exact fC _ j (by omega) (by omega) (by omega) (by omega)
    · rw [up_ne (by omega), up_ne (by omega)]
      exact fC _ j (by omega) (by omega) (by omega) (by omega)
    · rw [up_ne (by omega), up_eq rfl rfl]
    · rw [up_ne (by omega), up_ne (by omega)]
      exact fR 65 j (by omega) (by omega)
    · rw [up_ne (by omega), up_eq rfl rfl]
    · rcases hc with hc | ⟨c, c1, c2, c3⟩
      · exact Or.inl hc
      · exact Or.inr ⟨c, c1, c2.cg (fun i _ _ => by rw [up_ne (by omega), up_ne (by omega), up_ne (by omega), up_ne (by omega)]; exact ⟨rfl, rfl⟩), c3.cg (fun i _ _ => by rw [up_ne (by omega), up_ne (by omega)])⟩
  unfold lineC2 lineR2
  cases hw : waB B L b (strB 22)
  · rw [hw] at g1 u1
    rw [hw, if_neg (by decide)] at P1 u3
    have J1 := J.mv g2 u2 P1 u3.tr (Nat.le_refl _)
    have hE := endLine_ok (n := n) (T := T) (l := l) (st := st) (σ := σ1) ((g2 T 6 (by omega)).trans h6) hl J1.2.2.2.2.1
    refine wp_bnd2 (wp_of g1 (wp_ifT rfl (wp_ckI T J1.2.2.1 (isJudge_J hJ) (wp_bind (wp_of hE (wp_some (wp_bnd2 (wp_of u1 (wp_bind (wp_ifT rfl (wp_some ?_))))))))))) 
    exact fin σ1 ρ1 b st cd J1 (Nat.le_refl _) (Nat.le_refl _) (Nat.le_refl _) g2.j u2.j (fun i hi => ⟨g2 _ _ (by omega), g2 _ _ (by omega)⟩) (fun i hi => u2 63 i (by omega)) (Or.inl ⟨rfl, rfl⟩)
  · rw [hw] at g1 u1
    rw [hw, if_pos rfl] at P1 u3
    have nb := nx_b (B := B) hb
    have te1 := te_b (B := B) hb
    have J1 := J.mv g2 u2 P1 u3 (by omega)
    obtain ⟨v, σ2, ρ2, e1, e2, kC, kR, O⟩ := ((pieces_all hT hn 201 200 (by decide) (by decide)) 0 (by decide) 200).2.2.2.2.2 (by decide) σ1 ρ1 (nx B L b) st cd (by omega) J1
    rcases O with ⟨rfl, F1, -⟩ | ⟨rfl, b', st', cd', ⟨J2, q1, q2, q3, q4, q5, q6, q7⟩, d, hB, S1, S2⟩
    · refine wp_bnd2 (wp_of g1 (wp_ifF (by dsimp only; decide) (wp_bnd2 (wp_of e1 (wp_ifT rfl (wp_some (wp_bnd2 (wp_of u1 (wp_bind (wp_ifF (by dsimp only; decide) (wp_bind (wp_of e2 (wp_some ?_))))))))))))) 
      exact wp_mono (jlF3 F1 hl) (fun ρ' hp => ⟨g2.l.tr kC.l, u2.l.tr (kR.l.tr hp.2), Or.inl ⟨rfl, hp.1⟩⟩)
    · have hE := endLine_ok (n := n) (T := T) (l := l) (st := st') (σ := σ2) (by rw [kC T 6 (by omega) (by omega) (by omega) (by omega), g2 T 6 (by omega)]; exact h6) hl J2.2.2.2.2.1
      refine wp_bnd2 (wp_of g1 (wp_ifF (by dsimp only; decide) (wp_bnd2 (wp_of e1 (wp_ifF (by dsimp only; decide) (wp_ckI T J2.2.2.1 (isJudge_J hJ) (wp_bind (wp_of hE (wp_some (wp_bnd2 (wp_of u1 (wp_bind (wp_ifF (by dsimp only; decide) (wp_bind (wp_of e2 (wp_some ?_)))))))))))))))) 
      refine fin σ2 ρ2 b' st' cd' J2 (by omega) q4 q5 (g2.j.tr kC) (u2.j.tr kR) (fun i hi => ?_) (fun i hi => ?_) (Or.inr ⟨d, hB, S1.u (by unfold uC uS; omega), S2.u (by unfold uC uS; omega)⟩)
      · rw [(q6 i hi).1, (q6 i hi).2, g2 _ _ (by omega), g2 _ _ (by omega)]
        exact ⟨rfl, rfl⟩
      · rw [q7 i hi, u2 63 i (by omega)]
/-- a line begins: its word and its sum -/
def LnA (B : Nat → Int) (L T b st cd l n : Nat) (σ ρ : SG) : Prop := (∃ σ' ρ', X3_passLine n σ = some (0, σ') ∧ X12_judgeLine n ρ = some ρ' ∧ FlC T σ σ' ∧ FlR ρ ρ' ∧ FR ρ' B L (σ' 15 3)) ∨ ∃ (b2 st2 cd2 : Nat) (d : Dn) (σ' ρ' : SG), l < 10 ∧ (∀ Q, wp (lineC2 n σ') Q → wp (X3_passLine n σ) Q) ∧ (∀ Q, wp (lineR2 n (4 * (l : Int)) ρ') Q → wp (X12_judgeLine n ρ) Q) ∧ JS σ' ρ' B L T b2 st2 cd2 0 ∧ b < b2 ∧ st ≤ st2 ∧ cd ≤ cd2 ∧ FlC T σ σ' ∧ FlR ρ ρ' ∧ σ' T 6 = (l : Int) ∧ ρ' 57 19 = (l : Int) ∧ (∀ i, i < st → σ' (T + 1) i = σ (T + 1) i ∧ σ' (T + 2) i = σ (T + 2) i) ∧ (∀ i, i < cd → ρ' 63 i = ρ 63 i) ∧
  (∀ j, j ≠ l → σ' (T + 3) j = σ (T + 3) j ∧ σ' (T + 5) j = σ (T + 5) j ∧ σ' (T + 4) j = σ (T + 4) j) ∧ σ' (T + 4) l = (st : Int) ∧ σ' (T + 5) l = (st2 : Int) ∧ (∀ j, j < 4 * l → ρ' 65 j = ρ 65 j) ∧ ρ' 65 (4 * l + 1) = (cd : Int) ∧ ρ' 65 (4 * l + 2) = (cd2 : Int) ∧ ((σ' (T + 3) l = 1 ∧ ρ' 65 (4 * l) = 1) ∨ (σ' (T + 3) l = 0 ∧ ρ' 65 (4 * l) = -1)) ∧ CS T (σ' (T + 1)) (σ' (T + 2)) st st2 24 d ∧ RS (ρ' 63) cd cd2 400 d
theorem lineA2 {σ ρ σ1 ρ1 : SG} {B : Nat → Int} {L T b b1 st cd l n : Nat} {v2 y9 : Int} (J1 : JS σ1 ρ1 B L T b1 st cd 0) (hT : Txt B L) (hn : 500 < n) (hl : l < 10) (h6 : σ1 T 6 = (l : Int)) (h19 : ρ1 57 19 = (l : Int)) (hb : b ≤ b1) (hy : (v2 = 1 ∧ y9 = 1) ∨ (v2 = 0 ∧ y9 = -1)) (f1 : FrT σ σ1) (g1 : FrK ρ ρ1)
    (hC : ∀ Q : Int × SG → Prop, wp ((X2_beginLine n T v2 σ1).bind fun σ34 => bnd2 (JR n 200 5 0 σ34) fun v36 σ37 => if w32 v36 = 0 then some ((0, σ37)) else ckR isJudge (σ37 18 1) fun k38 => (X2_endSum n k38 σ37).bind fun σ40 => lineC2 n σ40) Q → wp (X3_passLine n σ) Q) (hR : ∀ Q : SG → Prop, wp (X12_judgeLine_j58 n (4 * (l : Int)) ρ1 y9) Q → wp (X12_judgeLine n ρ) Q) : LnA B L T b st cd l n σ ρ := by
  obtain ⟨P1, R1, j3, hJ, j5, j6, j7, j8, j9, j10⟩ := id J1
  have hL := hT.1
  have hb1 := P1.2.2.1
  obtain ⟨σ2, hσ2⟩ : ∃ z, z = up (up σ1 (T + 3) l (wZ v2)) (T + 4) l (st : Int) := ⟨_, rfl⟩
  obtain ⟨ρ2, hρ2⟩ : ∃ z, z = up (up ρ1 65 (4 * l) y9) 65 (4 * l + 1) (cd : Int) := ⟨_, rfl⟩
  have J2 : JS σ2 ρ2 B L T b1 st cd 0 := J1.cgw (fun c j h => by rw [hσ2, up_ne (by omega), up_ne (by omega)]) (fun c j h => by rw [hρ2, up_ne (by omega), up_ne (by omega)])
  obtain ⟨v, σ3, ρ3, e1, e2, kC, kR, O⟩ := ((pieces_all hT hn 201 200 (by decide) (by decide)) 0 (by decide) 200).2.2.1 (by decide) σ2 ρ2 b1 st cd (by omega) J2
  have fC2 : FlC T σ σ2 := f1.l.tr (fun c j q1 q2 q3 => by rw [hσ2, up_ne (by omega), up_ne (by omega)])
  have fR2 : FlR ρ ρ2 := g1.l.tr (fun c j q1 q2 q3 => by rw [hρ2, up_ne (by omega), up_ne (by omega)])
  have hC2 : ∀ Q : Int × SG → Prop, wp (if w32 v = 0 then some ((0, σ3)) else ckR isJudge (σ3 18 1) fun k38 => (X2_endSum n k38 σ3).bind fun σ40 => lineC2 n σ40) Q → wp (X3_passLine n σ) Q := fun Q hQ => hC Q (by
    unfold X2_beginLine
    refine wp_bind (wp_ifF (by rw [h6, w32i (by omega)]; omega) (wp_rdI l h6 (by omega) (by decide) (wp_lt (wp_rdI l (by rw [up_ne (by omega)]; exact h6) (by omega) (by decide) (wp_lt (wp_some ?_))))))
    rw [show up σ1 (T + 3) l (wZ v2) T 2 = (st : Int) by rw [up_ne (by omega)]; exact j5, ← hσ2]
    exact wp_bnd2 (wp_of e1 hQ))
  have hR2 : ∀ Q : SG → Prop, wp (rdA 40 (4 * (l : Int) + 2) fun j17 => lt (up ρ3 65 j17 (ρ3 57 20)) fun σ18 => lineR2 n (4 * (l : Int)) σ18) Q → wp (X12_judgeLine n ρ) Q := fun Q hQ => hR Q (by
    rw [j58_eq]
    refine wp_rdI (4 * l) (by omega) (by omega) (by decide) (wp_lt (wp_rdI (4 * l + 1) (by omega) (by omega) (by decide) (wp_lt (wp_bind ?_))))
    rw [show up ρ1 65 (4 * l) y9 57 20 = (cd : Int) by rw [up_ne (by omega)]; exact j6, ← hρ2]
    exact wp_of e2 hQ)
  rcases O with ⟨rfl, F1, -⟩ | ⟨rfl, b', st', cd', ⟨J3, q1, q2, q3, q4, q5, q6, q7⟩, d, S1, S2⟩
  · have key : wp (X12_judgeLine n ρ) (fun ρ' => FR ρ' B L (σ3 15 3) ∧ FlR ρ ρ') := hR2 _ (wp_rdI (4 * l + 2) (by omega) (by omega) (by decide) (wp_lt (wp_mono (jlF2 (F1.up (Or.inr (Or.inr (Or.inl rfl)))) hl hn) (fun ρ' hp => ⟨hp.1, fR2.tr (kR.l.tr (FlR.u65.tr hp.2))⟩))))
    obtain ⟨ρ', x1, x2, x3⟩ := key
    exact Or.inl ⟨σ3, ρ', of_wp (hC2 _ (wp_ifT rfl (wp_some rfl))), x1, fC2.tr kC.l, x3, x2⟩
  · have h36 : σ3 T 6 = (l : Int) := by rw [kC T 6 (by omega) (by omega) (by omega) (by omega), hσ2, up_ne (by omega), up_ne (by omega)]; exact h6
    have s2 : σ3 T 2 = (st' : Int) := J3.2.2.2.2.1
    have s20 : ρ3 57 20 = (cd' : Int) := J3.2.2.2.2.2.1
    have hkeep : ∀ c j, T + 3 ≤ c ∧ c ≤ T + 5 → σ3 c j = σ2 c j := fun c j h => kC c j (by omega) (by omega) (by omega) (by omega)
    refine Or.inr ⟨b', st', cd', d, up σ3 (T + 5) l (st' : Int), up ρ3 65 (4 * l + 2) (cd' : Int), hl, fun Q hQ => hC2 Q (wp_ifF (by decide) (wp_ckI T J3.2.2.1 (isJudge_J hJ) (wp_bind ?_))), fun Q hQ => hR2 Q (wp_rdI (4 * l + 2) (by omega) (by omega) (by decide) (wp_lt ?_)), J3.cgw (fun c j h => up_ne (by omega)) (fun c j h => up_ne (by omega)), by omega, q4, q5, fC2.tr (kC.l.tr (fun c j a1 a2 a3 => up_ne (by omega))), fR2.tr (kR.l.tr FlR.u65), ?_, ?_, fun i hi => ?_, fun i hi => ?_, fun j hj => ⟨?_, ?_, ?_⟩, ?_, up_eq rfl rfl, fun j hj => ?_, ?_, up_eq rfl rfl, ?_, ?_, ?_⟩
    · unfold X2_endSum
      refine wp_ifF (by rw [h36, w32i (by omega)]; omega) (wp_rdI l h36 (by omega) (by decide) (wp_lt (wp_some ?_)))
      rw [s2]
      exact hQ
    · rw [s20]
      exact hQ
    · rw [up_ne (by omega)]; exact h36
    · rw [up_ne (by omega), kR 57 19 (by omega) (by omega), hρ2, up_ne (by omega), up_ne (by omega)]; exact h19
    · rw [up_ne (by omega), up_ne (by omega), (q6 i hi).1, (q6 i hi).2, hσ2, up_ne (by omega), up_ne (by omega), up_ne (by omega), up_ne (by omega), f1 _ _ (by omega), f1 _ _ (by omega)]
      exact ⟨rfl, rfl⟩
    · rw [up_ne (by omega), q7 i hi, hρ2, up_ne (by omega), up_ne (by omega), g1 63 i (by omega)]
    · rw [up_ne (by omega), hkeep _ j (by omega), hσ2, up_ne (by omega), up_ne (by omega), f1 _ _ (by omega)]
    · rw [up_ne (by omega), hkeep _ j (by omega), hσ2, up_ne (by omega), up_ne (by omega), f1 _ _ (by omega)]
    · rw [up_ne (by omega), hkeep _ j (by omega), hσ2, up_ne (by omega), up_ne (by omega), f1 _ _ (by omega)]
    · rw [up_ne (by omega), hkeep _ l (by omega), hσ2, up_eq rfl rfl]
    · rw [up_ne (by omega), kR 65 j (by omega) (by omega), hρ2, up_ne (by omega), up_ne (by omega), g1 65 j (by omega)]
    · rw [up_ne (by omega), kR 65 _ (by omega) (by omega), hρ2, up_eq rfl rfl]
    · have a1 : up σ3 (T + 5) l (st' : Int) (T + 3) l = wZ v2 := by rw [up_ne (by omega), hkeep _ l (by omega), hσ2, up_ne (by omega), up_eq rfl rfl]
      have a2 : up ρ3 65 (4 * l + 2) (cd' : Int) 65 (4 * l) = y9 := by rw [up_ne (by omega), kR 65 _ (by omega) (by omega), hρ2, up_ne (by omega), up_eq rfl rfl]
      rw [a1, a2]
      rcases hy with ⟨rfl, h⟩ | ⟨rfl, h⟩
      · exact Or.inl ⟨wZ_1, h⟩
      · exact Or.inr ⟨wZ_0, h⟩
    · exact (S1.cg (fun i _ _ => by rw [up_ne (by omega), up_ne (by omega)]; exact ⟨rfl, rfl⟩)).u (by unfold uS; omega)
    · exact (S2.cg (fun i _ _ => up_ne (by omega))).u (by unfold uS; omega)
theorem lineA_ok {σ ρ : SG} {B : Nat → Int} {L T b st cd l n : Nat} (J : JS σ ρ B L T b st cd 0) (hT : Txt B L) (hn : 500 < n) (h6 : σ T 6 = (l : Int)) (h19 : ρ 57 19 = (l : Int)) (hl : l ≤ 10) : LnA B L T b st cd l n σ ρ := by
  obtain ⟨P, R, j3, hJ, j5, j6, j7, j8, j9, j10⟩ := id J
  have hL := hT.1
  have hb := P.2.2.1
  have nb := nx_b (B := B) hb
  have c12 := P.isWord (n := n) (a := 12) hT (by decide) hn
  have c13 := P.isWord (n := n) (a := 13) hT (by decide) hn
  obtain ⟨ρ0, z1, z2, z3⟩ := R.blanks (n := n) hT hn
  have h190 : ρ0 57 19 = (l : Int) := (z2 57 19 (by omega)).trans h19
  by_cases l10 : l = 10
  · obtain ⟨ρ1, u1, u2, u3⟩ := z3.fails (n := n) hT
    have hc : lineC n (b2i (waB B L b (strB 12))) σ = some (0, σ) := of_wp (by
      unfold lineC
      exact wp_ckI T j3 (isJudge_J hJ) (wp_ifF (by rw [h6, l10]; decide) (wp_some rfl)))
    refine Or.inl ⟨σ, ρ1, of_wp ?_, of_wp ?_, FlC.rf, (z2.tr u2).l, by rw [P.2.2.2.1]; exact u3⟩
    · rw [passLine_eq]
      refine wp_bind (wp_of c12 (wp_if (fun _ => wp_bind (wp_of c13 (wp_if (fun _ => wp_some rfl) (fun _ => wp_of hc rfl)))) (fun _ => wp_of hc rfl)))
    · unfold X12_judgeLine
      exact wp_bind (wp_of z1 (wp_ifT (by rw [h190, l10]; decide) (wp_bind (wp_of u1 (wp_some rfl)))))
  · obtain ⟨ρ1, u1, u2, u3⟩ := z3.tr.takesWord (n := n) (a := 58) hT (by decide) hn
    rw [jw_eq.1] at u1 u3
    have hR0 : ∀ Q : SG → Prop, wp (((if w32 (b2i (waB B L b (strB 12))) = 0 then (X12_asksWord n 59 ρ1).bind fun σ30 => some (σ30) else some (ρ1)) : Option (SG)).bind (fun s => X12_judgeLine_j44 n (b2i (waB B L b (strB 12))) (4 * (l : Int)) s)) Q → wp (X12_judgeLine n ρ) Q := fun Q hQ => by
      unfold X12_judgeLine
      refine wp_bind (wp_of z1 (wp_ifF (by rw [h190, w32i (by omega)]; omega) ?_))
      rw [h190]
      exact wp_lt (wp_bnd2 (wp_of u1 hQ))
    obtain ⟨σ1, g1, P1, g2⟩ := P.adv (n := n) hT hn
    have h17 : σ1 18 1 = (T : Int) := (g2 18 1 (by omega)).trans j3
    have hCl : ∀ (v2 : Int) (Q : Int × SG → Prop), wp ((X2_beginLine n T v2 σ1).bind fun σ34 => bnd2 (JR n 200 5 0 σ34) fun v36 σ37 => if w32 v36 = 0 then some ((0, σ37)) else ckR isJudge (σ37 18 1) fun k38 => (X2_endSum n k38 σ37).bind fun σ40 => lineC2 n σ40) Q → wp (lineC n v2 σ) Q := fun v2 Q hQ => by
      unfold lineC
      exact wp_ckI T j3 (isJudge_J hJ) (wp_ifT (by rw [h6, w32i (by omega)]; omega) (wp_bind (wp_of g1 (wp_ckI T h17 (isJudge_J hJ) hQ))))
    cases w12 : waB B L b (strB 12)
    · rw [w12] at c12 hR0
      rw [w12, if_neg (by decide)] at u3
      obtain ⟨ρ2, y1, y2, y3⟩ := u3.tr.asksWord (n := n) (a := 59) hT (by decide) hn
      rw [jw_eq.2.1] at y3
      have hR1 : ∀ Q : SG → Prop, wp (X12_judgeLine_j58 n (4 * (l : Int)) ρ2 (-1)) Q → wp (X12_judgeLine n ρ) Q := fun Q hQ => hR0 Q (wp_bind (wp_ifT rfl (wp_bind (wp_of y1 (wp_some (by
        unfold X12_judgeLine_j44
        exact wp_bind (wp_ifT rfl (wp_some hQ))))))))
      cases w13 : waB B L b (strB 13)
      · rw [w13] at c13
        rw [w13, if_neg (by decide)] at y3
        have key : wp (X12_judgeLine n ρ) (fun ρ' => FR ρ' B L (b : Int) ∧ FlR ρ ρ') := hR1 _ (wp_mono (jlF1 y3 hT (by omega) hn) (fun ρ' hp => ⟨hp.1, (z2.tr (u2.tr y2)).l.tr hp.2⟩))
        obtain ⟨ρ', x1, x2, x3⟩ := key
        refine Or.inl ⟨σ, ρ', of_wp ?_, x1, FlC.rf, x3, by rw [P.2.2.2.1]; exact x2⟩
        rw [passLine_eq]
        exact wp_bind (wp_of c12 (wp_ifT rfl (wp_bind (wp_of c13 (wp_ifT rfl (wp_some rfl))))))
      · rw [w13] at c13
        rw [w13, if_pos rfl] at y3
        obtain ⟨w1, w2, w3, w4⟩ := wa_nx w13 hb
        have hlt : b ≤ nx B L b := by have := te_b (B := B) hb; omega
        have f2 := z2.tr (u2.tr y2)
        have hbL : b < nx B L b := by
          have : (strB 13).length = 4 := by decide
          omega
        exact lineA2 (v2 := 0) (y9 := -1) (J.mv g2 f2 P1 y3 hlt) hT hn (by omega) ((g2 T 6 (by omega)).trans h6) ((f2 57 19 (by omega)).trans h19) (by omega) (Or.inr ⟨rfl, rfl⟩) g2 f2 (fun Q hQ => by
          rw [passLine_eq]
          exact wp_bind (wp_of c12 (wp_ifT rfl (wp_bind (wp_of c13 (wp_ifF (by decide) (hCl _ Q hQ))))))) hR1
    · rw [w12] at c12 hR0
      rw [w12, if_pos rfl] at u3
      have hlt : b ≤ nx B L b := by have := te_b (B := B) hb; omega
      have f2 := z2.tr u2
      exact lineA2 (v2 := 1) (y9 := 1) (J.mv g2 f2 P1 u3 hlt) hT hn (by omega) ((g2 T 6 (by omega)).trans h6) ((f2 57 19 (by omega)).trans h19) (by omega) (Or.inl ⟨rfl, rfl⟩) g2 f2 (fun Q hQ => by
        rw [passLine_eq]
        exact wp_bind (wp_of c12 (wp_ifF (by decide) (hCl _ Q hQ)))) (fun Q hQ => hR0 Q (wp_bind (wp_ifF (by decide) (wp_some (by
          unfold X12_judgeLine_j44
          exact wp_bind (wp_ifF (by decide) (wp_some hQ)))))))
/-- a line, on both sides -/
def LnO (B : Nat → Int) (L T b l : Nat) (σ ρ : SG) (v : Int) (σ' ρ' : SG) : Prop := FlC T σ σ' ∧ FlR ρ ρ' ∧ ((v = 0 ∧ FR ρ' B L (σ' 15 3)) ∨ (v = 1 ∧ ∃ b' st' cd', b < b' ∧ JS σ' ρ' B L T b' st' cd' 0 ∧ JD2 σ' ρ' T st' cd' (l + 1)))
theorem jline_ok {σ ρ : SG} {B : Nat → Int} {L T b st cd l n : Nat} (J : JS σ ρ B L T b st cd 0) (D : JD2 σ ρ T st cd l) (hT : Txt B L) (hn : 500 < n) : ∃ v σ' ρ', X3_passLine n σ = some (v, σ') ∧ X12_judgeLine n ρ = some ρ' ∧ LnO B L T b l σ ρ v σ' ρ' := by
  obtain ⟨⟨hl, h6, h19, h4, hln⟩, hcd⟩ := D
  rcases lineA_ok (n := n) J hT hn h6 h19 hl with ⟨σ', ρ', e1, e2, e3, e4, e5⟩ | ⟨b2, st2, cd2, d, σ1, ρ1, l10, hC, hR, J1, hb, hst, hcd2, fC, fR, a6, a19, k1, k2, k3, k4, k5, k6, k7, k8, k9, S1, S2⟩
  · exact ⟨0, σ', ρ', e1, e2, e3, e4, Or.inl ⟨rfl, e5⟩⟩
  · have key := hC _ (lineB_ok (n := n) J1 hT hn (by omega) a6 a19)
    obtain ⟨⟨v, σ'⟩, e1, hq⟩ := key
    obtain ⟨ρ', e2, hO⟩ := hR _ hq
    have hO : LnB B L T b2 st2 l st2 cd2 σ1 ρ1 v σ' ρ' := hO
    obtain ⟨gC, gR, O⟩ := hO
    refine ⟨v, σ', ρ', e1, e2, fC.tr gC, fR.tr gR, ?_⟩
    rcases O with O | ⟨o1, b', st', cd', J', o2, o3, o4, o5, o6, o7, o8, o9, o10, o11, o12, o13, o14⟩
    · exact Or.inl O
    · refine Or.inr ⟨o1, b', st', cd', by omega, J', ⟨by omega, o10, o11, fun _ => o9, fun i hi => ?_⟩, fun j hj => ?_⟩
      · by_cases q : i = l
        · subst q
          refine ⟨st, st2, st', cd, cd2, cd', d, ?_, ?_, o9, o3, Nat.le_refl _, ?_, ?_, ?_, ?_, o6, ?_, ?_, ?_, ?_⟩
          · rw [o8 i (by omega)]; exact k4
          · rw [(o7 i).2]; exact k5
          · rw [shj_64, o12 _ (by omega)]; exact k7
          · rw [shj_64, o12 _ (by omega)]; exact k8
          · rw [shj_64]; exact o13
          · have h1 := J'.2.2.2.2.2.2.2.2.1
            have h2 := J'.1.2.2.1
            have h3 := hT.1
            omega
          · rw [shj_64, (o7 i).1, o12 _ (by omega)]; exact k9
          · exact S1.cg (fun j j1 j2 => o4 j (by omega))
          · rw [shj_62]
            exact S2.cg (fun j j1 j2 => o5 j (by omega))
          · rw [shj_62]
            rcases o14 with ⟨x1, x2⟩ | x
            · exact Or.inl ⟨x1.symm, x2.symm⟩
            · exact Or.inr x
        · refine (hln i (by omega)).keep (l := l) (cd := cd) (by omega) (by omega) (fun j hj => ?_) (fun j hj => ?_) (fun j hj => ?_) (fun j hj => ?_) (fun j hj => ?_) hcd
          · rw [(o7 j).1, (o7 j).2, (k3 j (by omega)).1, (k3 j (by omega)).2.1]
            exact ⟨rfl, rfl⟩
          · rw [o8 j (by omega)]
            by_cases q2 : j = l
            · rw [q2, k4, h4 (by omega)]
            · exact (k3 j q2).2.2
          · rw [(o4 j (by omega)).1, (o4 j (by omega)).2]
            exact k1 j hj
          · rw [o12 j (by omega)]
            exact k6 j hj
          · rw [o5 j (by omega)]
            exact k2 j hj
      · by_cases q : j = l
        · rw [q, o13]
          exact Int.le_refl _
        · rw [o12 _ (by omega), k6 _ (by omega)]
          have := hcd j (by omega)
          omega
