/-! ===== texts: the reference's tokens ===== -/
def RB (ρ : SG) (B : Nat → Int) (L : Nat) : Prop := ρ 57 6 = (L : Int) ∧ ∀ j, j < L → ρ 58 j = sb (B j)
/-- not failed, ahead of the token at b; at the token -/
def TR (ρ : SG) (B : Nat → Int) (L b : Nat) : Prop := RB ρ B L ∧ ρ 57 7 = -1 ∧ ∃ p : Nat, ρ 57 4 = (p : Int) ∧ p ≤ L ∧ blk B L p = b
def TB (ρ : SG) (B : Nat → Int) (L b : Nat) : Prop := RB ρ B L ∧ ρ 57 7 = -1 ∧ ρ 57 4 = (b : Int) ∧ ρ 57 5 = (b : Int) ∧ b ≤ L ∧ blk B L b = b
/-- failed at x -/
def FR (ρ : SG) (B : Nat → Int) (L : Nat) (x : Int) : Prop := RB ρ B L ∧ ρ 57 7 = x ∧ 0 ≤ x ∧ x ≤ 400 ∧ ∃ p : Nat, ρ 57 4 = (p : Int) ∧ p ≤ L
def FrK (ρ ρ' : SG) : Prop := ∀ c j, ¬ (c = 57 ∧ (j = 4 ∨ j = 5 ∨ j = 7)) → ρ' c j = ρ c j
theorem FrK.rf {σ : SG} : FrK σ σ := fun _ _ _ => rfl
theorem FrK.tr {σ τ υ : SG} (h : FrK σ τ) (h' : FrK τ υ) : FrK σ υ := fun c j q => (h' c j q).trans (h c j q)
theorem FrK.rb {ρ ρ' : SG} {B : Nat → Int} {L : Nat} (h : RB ρ B L) (f : FrK ρ ρ') : RB ρ' B L := ⟨(f 57 6 (by omega)).trans h.1, fun j hj => (f 58 j (by omega)).trans (h.2 j hj)⟩
theorem TB.tr {ρ : SG} {B : Nat → Int} {L b : Nat} (h : TB ρ B L b) : TR ρ B L b := ⟨h.1, h.2.1, b, h.2.2.1, h.2.2.2.2.1, h.2.2.2.2.2⟩
theorem TR.le {ρ : SG} {B : Nat → Int} {L b : Nat} (h : TR ρ B L b) : b ≤ L ∧ blk B L b = b := by
  obtain ⟨-, -, p, -, h2, h3⟩ := h
  rw [← h3]
  exact ⟨(blk_b h2).2, blk_blk h2⟩
theorem TR.cg {ρ ρ' : SG} {B : Nat → Int} {L b : Nat} (h : TR ρ B L b) (e : ∀ j, j = 4 ∨ j = 5 ∨ j = 6 ∨ j = 7 → ρ' 57 j = ρ 57 j) (e2 : ∀ j, ρ' 58 j = ρ 58 j) : TR ρ' B L b := by
  unfold TR RB at *
  rw [e 6 (by omega), e 7 (by omega), e 4 (by omega), show ρ' 58 = ρ 58 from funext e2]
  exact h
theorem FR.cg {ρ ρ' : SG} {B : Nat → Int} {L : Nat} {x : Int} (h : FR ρ B L x) (e : ∀ j, j = 4 ∨ j = 5 ∨ j = 6 ∨ j = 7 → ρ' 57 j = ρ 57 j) (e2 : ∀ j, ρ' 58 j = ρ 58 j) : FR ρ' B L x := by
  unfold FR RB at *
  rw [e 6 (by omega), e 7 (by omega), e 4 (by omega), show ρ' 58 = ρ 58 from funext e2]
  exact h
def iaB (B : Nat → Int) (L p : Nat) (lo hi : Int) : Bool := decide (p < L ∧ lo ≤ B p ∧ B p ≤ hi)
theorem sb_in {u lo hi : Int} (hu : 0 ≤ u ∧ u ≤ 255) (hr : 0 ≤ lo ∧ lo ≤ 128 ∧ 0 ≤ hi ∧ hi < 128) : (lo ≤ sb u ∧ sb u ≤ hi) ↔ (lo ≤ u ∧ u ≤ hi) := by
  unfold sb
  split <;> omega
theorem sb_rg {u : Int} (hu : 0 ≤ u ∧ u ≤ 255) : -128 ≤ sb u ∧ sb u ≤ 127 := by
  unfold sb
  split <;> omega
theorem isAt_ok {ρ : SG} {B : Nat → Int} {L p n : Nat} {lo hi : Int} (h : RB ρ B L) (hT : Txt B L) (hp : ρ 57 4 = (p : Int)) (hpL : p ≤ L) (hr : 0 ≤ lo ∧ lo ≤ 128 ∧ 0 ≤ hi ∧ hi < 128) : X12_isAt n lo hi ρ = some (b2i (iaB B L p lo hi)) := by
  obtain ⟨h1, h2⟩ := h
  obtain ⟨hL, hB⟩ := hT
  refine of_wp ?_
  unfold X12_isAt
  rw [h1, hp]
  by_cases c : p < L
  · have hu := hB p c
    have hb := sb_rg hu
    have hi' := sb_in hu hr
    refine wp_ifF (by rw [w32i (by omega), w32i (by omega)]; omega) (wp_rdn (by omega) (by omega) ?_)
    rw [h2 p c]
    by_cases c1 : sb (B p) < lo
    · have : iaB B L p lo hi = false := decide_eq_false (fun q => by have := hi'.mpr q.2; omega)
      rw [this]
      exact wp_ifT (by rw [w32i (by omega), w32i (by omega)]; exact c1) (wp_some rfl)
    · refine wp_ifF (by rw [w32i (by omega), w32i (by omega)]; exact c1) (wp_rdn (by omega) (by omega) ?_)
      rw [h2 p c]
      by_cases c2 : hi < sb (B p)
      · have : iaB B L p lo hi = false := decide_eq_false (fun q => by have := hi'.mpr q.2; omega)
        rw [this]
        exact wp_ifT (by rw [w32i (by omega), w32i (by omega)]; exact c2) (wp_some rfl)
      · have : iaB B L p lo hi = true := decide_eq_true ⟨c, hi'.mp (by omega)⟩
        rw [this]
        exact wp_ifF (by rw [w32i (by omega), w32i (by omega)]; exact c2) (wp_some rfl)
  · have : iaB B L p lo hi = false := decide_eq_false (fun q => c q.1)
    rw [this]
    exact wp_ifT (by rw [w32i (by omega), w32i (by omega)]; omega) (wp_some rfl)
theorem blanks_ok {ρ : SG} {B : Nat → Int} {L p n : Nat} (h : RB ρ B L) (hT : Txt B L) (hp : ρ 57 4 = (p : Int)) (hpL : p ≤ L) (hn : 500 < n) : ∃ ρ', X12_blanks n ρ = some ρ' ∧ ρ' 57 4 = (blk B L p : Int) ∧ ρ' 57 5 = (blk B L p : Int) ∧ ∀ c j, ¬ (c = 57 ∧ (j = 4 ∨ j = 5)) → ρ' c j = ρ c j := by
  have hL := hT.1
  have key : wp (X12_blanks n ρ) (fun ρ' => ρ' 57 4 = (blk B L p : Int) ∧ ρ' 57 5 = (blk B L p : Int) ∧ ∀ c j, ¬ (c = 57 ∧ (j = 4 ∨ j = 5)) → ρ' c j = ρ c j) := by
    unfold X12_blanks
    refine wp_bind (wp_loop (fun k (z : SG) => z 57 4 = ((p + k : Nat) : Int) ∧ (∀ i, p ≤ i → i < p + k → bkB (B i) = true) ∧ ∀ c j, ¬ (c = 57 ∧ j = 4) → z c j = ρ c j) (L - p) ?_ ⟨hp, fun i i1 i2 => absurd i2 (by omega), fun _ _ _ => rfl⟩ (by omega))
    rintro k ρ1 hk ⟨e1, e2, e3⟩
    have h1 : RB ρ1 B L := ⟨(e3 57 6 (by omega)).trans h.1, fun j hj => (e3 58 j (by omega)).trans (h.2 j hj)⟩
    have fin : p + k = blk B L p → wp (X12_blanks_e0 n ρ1) (fun ρ' => ρ' 57 4 = (blk B L p : Int) ∧ ρ' 57 5 = (blk B L p : Int) ∧ ∀ c j, ¬ (c = 57 ∧ (j = 4 ∨ j = 5)) → ρ' c j = ρ c j) := by
      intro hk2
      unfold X12_blanks_e0
      refine wp_lt (wp_some ⟨?_, ?_, fun c j q => ?_⟩)
      · rw [up_ne (by omega), e1, hk2]
      · rw [up_eq rfl rfl, e1, hk2]
      · rw [up_ne (by omega)]
        exact e3 c j (by omega)
    have go : p + k < L → bkB (B (p + k)) = true → wp (lt (up ρ1 57 4 (ρ1 57 4 + 1)) fun σ7 => some (.inl σ7) : Option (SG ⊕ SG)) (fun y => (∃ a', y = .inl a' ∧ k < L - p ∧ a' 57 4 = ((p + (k + 1) : Nat) : Int) ∧ (∀ i, p ≤ i → i < p + (k + 1) → bkB (B i) = true) ∧ ∀ c j, ¬ (c = 57 ∧ j = 4) → a' c j = ρ c j) ∨ ∃ b, y = .inr b ∧ wp (X12_blanks_e0 n b) (fun ρ' => ρ' 57 4 = (blk B L p : Int) ∧ ρ' 57 5 = (blk B L p : Int) ∧ ∀ c j, ¬ (c = 57 ∧ (j = 4 ∨ j = 5)) → ρ' c j = ρ c j)) := by
      intro q1 q2
      refine wp_lt (wp_some (Or.inl ⟨_, rfl, by omega, ?_, fun i i1 i2 => ?_, fun c j q => ?_⟩))
      · rw [up_eq rfl rfl, e1]
        omega
      · by_cases q : i = p + k
        · rw [q]; exact q2
        · exact e2 i i1 (by omega)
      · rw [up_ne (by omega)]
        exact e3 c j q
    unfold X12_blanks_l0
    refine wp_bind (wp_of (isAt_ok h1 hT e1 (by omega) (by decide)) ?_)
    cases q1 : iaB B L (p + k) 9 10
    · refine wp_ifT rfl (wp_bind (wp_of (isAt_ok h1 hT e1 (by omega) (by decide)) ?_))
      cases q2 : iaB B L (p + k) 32 32
      · refine wp_ifT rfl (wp_some (Or.inr ⟨_, rfl, fin ?_⟩))
        have r1 := of_decide_eq_false q1
        have r2 := of_decide_eq_false q2
        exact (skp_u (by omega) (by omega) e2 (fun q3 => bkB_f.mpr (by omega))).symm
      · have r2 := of_decide_eq_true q2
        exact wp_ifF (by decide) (go r2.1 (bkB_t.mpr (by omega)))
    · have r1 := of_decide_eq_true q1
      exact wp_ifF (by decide) (go r1.1 (bkB_t.mpr (by omega)))
  obtain ⟨ρ', e, h⟩ := key
  exact ⟨ρ', e, h⟩
theorem TR.blanks {ρ : SG} {B : Nat → Int} {L b n : Nat} (h : TR ρ B L b) (hT : Txt B L) (hn : 500 < n) : ∃ ρ', X12_blanks n ρ = some ρ' ∧ FrK ρ ρ' ∧ TB ρ' B L b := by
  obtain ⟨q1, q2⟩ := h.le
  obtain ⟨h1, h2, p, h3, h4, h5⟩ := h
  obtain ⟨ρ', e1, e2, e3, e4⟩ := blanks_ok h1 hT h3 h4 hn
  rw [h5] at e2 e3
  have f : FrK ρ ρ' := fun c j q => e4 c j (by omega)
  exact ⟨ρ', e1, f, f.rb h1, (e4 57 7 (by omega)).trans h2, e2, e3, q1, q2⟩
theorem FR.blanks {ρ : SG} {B : Nat → Int} {L n : Nat} {x : Int} (h : FR ρ B L x) (hT : Txt B L) (hn : 500 < n) : ∃ ρ', X12_blanks n ρ = some ρ' ∧ FrK ρ ρ' ∧ FR ρ' B L x := by
  obtain ⟨h1, h2, h3, h4, p, h5, h6⟩ := h
  obtain ⟨ρ', e1, e2, e3, e4⟩ := blanks_ok h1 hT h5 h6 hn
  have f : FrK ρ ρ' := fun c j q => e4 c j (by omega)
  exact ⟨ρ', e1, f, f.rb h1, (e4 57 7 (by omega)).trans h2, h3, h4, _, e2, (blk_b h6).2⟩
theorem hf0 {ρ : SG} {n : Nat} (h : ρ 57 7 = -1) : X12_hasFailed n ρ = some 0 := by
  unfold X12_hasFailed
  exact if_pos (by rw [h]; decide)
theorem hf1 {ρ : SG} {n : Nat} {x : Int} (h : ρ 57 7 = x) (hx : 0 ≤ x ∧ x ≤ 400) : X12_hasFailed n ρ = some 1 := by
  unfold X12_hasFailed
  exact if_neg (by rw [h, w32i (by omega)]; omega)
theorem TR.hf {ρ : SG} {B : Nat → Int} {L b n : Nat} (h : TR ρ B L b) : X12_hasFailed n ρ = some 0 := hf0 h.2.1
theorem FR.hf {ρ : SG} {B : Nat → Int} {L n : Nat} {x : Int} (h : FR ρ B L x) : X12_hasFailed n ρ = some 1 := hf1 h.2.1 ⟨h.2.2.1, h.2.2.2.1⟩
theorem TB.fails {ρ : SG} {B : Nat → Int} {L b n : Nat} (h : TB ρ B L b) (hT : Txt B L) : ∃ ρ', X12_fails n ρ = some ρ' ∧ FrK ρ ρ' ∧ FR ρ' B L (b : Int) := by
  obtain ⟨h1, h2, h3, h4, h5, h6⟩ := h
  have hL := hT.1
  have f : FrK ρ (up ρ 57 7 (ρ 57 5)) := fun c j q => up_ne (by omega)
  refine ⟨up ρ 57 7 (ρ 57 5), ?_, f, f.rb h1, ?_, by omega, by omega, b, ?_, h5⟩
  · unfold X12_fails
    exact if_pos (by rw [h2]; decide)
  · rw [up_eq rfl rfl]; exact h4
  · rw [up_ne (by omega)]; exact h3
theorem FR.fails {ρ : SG} {B : Nat → Int} {L n : Nat} {x : Int} (h : FR ρ B L x) : X12_fails n ρ = some ρ := by
  obtain ⟨-, h2, h3, h4, -⟩ := h
  unfold X12_fails
  exact if_neg (by rw [h2, w32i (by omega)]; omega)
theorem ia_sg {B : Nat → Int} {L b : Nat} {c : Int} : iaB B L b c c = sgB B L b c := by
  unfold iaB sgB
  refine decide_eq_decide.mpr ?_
  omega
theorem TR.isSign {ρ : SG} {B : Nat → Int} {L b n : Nat} {c : Int} (h : TR ρ B L b) (hT : Txt B L) (hc : isg c) (hn : 500 < n) : ∃ ρ', X12_isSign n c ρ = some (b2i (sgB B L b c), ρ') ∧ FrK ρ ρ' ∧ TB ρ' B L b := by
  obtain ⟨ρ', e1, e2, e3⟩ := h.blanks hT hn
  have hc1 := hc.1
  refine ⟨ρ', of_wp ?_, e2, e3⟩
  unfold X12_isSign
  refine wp_bind (wp_of e1 (wp_bind (wp_of e3.tr.hf (wp_ifT rfl (wp_bind (wp_of (isAt_ok e3.1 hT e3.2.2.1 e3.2.2.2.2.1 (by omega)) ?_))))))
  rw [ia_sg]
  cases sgB B L b c
  · exact wp_ifT rfl (wp_some rfl)
  · exact wp_ifF (by decide) (wp_some rfl)
theorem FR.isSign {ρ : SG} {B : Nat → Int} {L n : Nat} {c x : Int} (h : FR ρ B L x) (hT : Txt B L) (hn : 500 < n) : ∃ ρ', X12_isSign n c ρ = some (0, ρ') ∧ FrK ρ ρ' ∧ FR ρ' B L x := by
  obtain ⟨ρ', e1, e2, e3⟩ := h.blanks hT hn
  refine ⟨ρ', of_wp ?_, e2, e3⟩
  unfold X12_isSign
  exact wp_bind (wp_of e1 (wp_bind (wp_of e3.hf (wp_ifF (by decide) (wp_some rfl)))))
theorem sg_nx {B : Nat → Int} {L b : Nat} {c : Int} (hc : isg c) (h : sgB B L b c = true) : b < L ∧ kd B L b = 3 ∧ nx B L b = blk B L (b + 1) := by
  obtain ⟨h1, h2⟩ := of_decide_eq_true h
  obtain ⟨-, c1, c2, -⟩ := hc
  obtain ⟨k1, k2⟩ := kd_3 (B := B) h1 (ltB_f.mpr (by omega)) (dgB_f.mpr (by omega))
  exact ⟨h1, k1, by unfold nx; rw [k2]⟩
theorem TR.takes {ρ : SG} {B : Nat → Int} {L b n : Nat} {c : Int} (h : TR ρ B L b) (hT : Txt B L) (hc : isg c) (hn : 500 < n) : ∃ ρ', X12_takes n c ρ = some (b2i (sgB B L b c), ρ') ∧ FrK ρ ρ' ∧ (if sgB B L b c = true then TR ρ' B L (nx B L b) else TB ρ' B L b) := by
  obtain ⟨ρ1, e1, e2, e3⟩ := h.isSign hT hc hn
  unfold X12_takes
  cases q : sgB B L b c
  · rw [q] at e1
    exact ⟨ρ1, of_wp (wp_bnd2 (wp_of e1 (wp_ifT rfl (wp_some (by rw [b2i_w]))))), e2, by rw [if_neg (by decide)]; exact e3⟩
  · rw [q] at e1
    obtain ⟨n1, n2, n3⟩ := sg_nx hc q
    have f : FrK ρ1 (up ρ1 57 4 (ρ1 57 4 + 1)) := fun c j q => up_ne (by omega)
    refine ⟨up ρ1 57 4 (ρ1 57 4 + 1), of_wp (wp_bnd2 (wp_of e1 (wp_ifF (by dsimp only; decide) (wp_lt (wp_some (by rw [b2i_w])))))), e2.tr f, ?_⟩
    rw [if_pos rfl]
    refine ⟨f.rb e3.1, by rw [up_ne (by omega)]; exact e3.2.1, b + 1, by rw [up_eq rfl rfl, e3.2.2.1]; omega, by omega, n3.symm⟩
theorem FR.takes {ρ : SG} {B : Nat → Int} {L n : Nat} {c x : Int} (h : FR ρ B L x) (hT : Txt B L) (hn : 500 < n) : ∃ ρ', X12_takes n c ρ = some (0, ρ') ∧ FrK ρ ρ' ∧ FR ρ' B L x := by
  obtain ⟨ρ', e1, e2, e3⟩ := h.isSign (c := c) hT hn
  refine ⟨ρ', of_wp ?_, e2, e3⟩
  unfold X12_takes
  exact wp_bnd2 (wp_of e1 (wp_ifT rfl (wp_some (by rw [wZ_0]))))
theorem TR.asksSign {ρ : SG} {B : Nat → Int} {L b n : Nat} {c : Int} (h : TR ρ B L b) (hT : Txt B L) (hc : isg c) (hn : 500 < n) : ∃ ρ', X12_asksSign n c ρ = some ρ' ∧ FrK ρ ρ' ∧ (if sgB B L b c = true then TR ρ' B L (nx B L b) else FR ρ' B L (b : Int)) := by
  obtain ⟨ρ1, e1, e2, e3⟩ := h.takes hT hc hn
  unfold X12_asksSign
  cases q : sgB B L b c
  · rw [q] at e1 e3
    obtain ⟨ρ2, u1, u2, u3⟩ := TB.fails (n := n) (by rw [if_neg (by decide)] at e3; exact e3) hT
    exact ⟨ρ2, of_wp (wp_bind (wp_of h.hf (wp_ifT rfl (wp_bnd2 (wp_of e1 (wp_ifT rfl (wp_bind (wp_of u1 (wp_some rfl))))))))), e2.tr u2, by rw [if_neg (by decide)]; exact u3⟩
  · rw [q] at e1 e3
    exact ⟨ρ1, of_wp (wp_bind (wp_of h.hf (wp_ifT rfl (wp_bnd2 (wp_of e1 (wp_ifF (by dsimp only; decide) (wp_some rfl))))))), e2, e3⟩
theorem FR.asksSign {ρ : SG} {B : Nat → Int} {L n : Nat} {c x : Int} (h : FR ρ B L x) : X12_asksSign n c ρ = some ρ := by
  unfold X12_asksSign
  exact of_wp (wp_bind (wp_of h.hf (wp_ifF (by decide) (wp_some rfl))))
/-- how long the word at b is -/
def wlen (B : Nat → Int) (L b : Nat) : Nat := if kd B L b = 1 then te B L b - b else 0
theorem wlen_skp {B : Nat → Int} {L b : Nat} (h : b ≤ L) : b + wlen B L b = skp ltB B L b := by
  unfold wlen
  rcases kd_c (B := B) h with ⟨q, q1, -⟩ | ⟨q, q1, q2, q3, q4, q5⟩ | ⟨q, q1, q2, -⟩ | ⟨q, q1, q2, -⟩
  · rw [if_neg (by rw [q]; decide)]
    exact (skp_u (by omega) (by omega) (fun i i1 i2 => absurd i2 (by omega)) (fun q2 => absurd q2 (by omega))).symm
  · rw [if_pos q, ← q3]
    omega
  · rw [if_neg (by rw [q]; decide)]
    have := dgB_t.mp q2
    exact (skp_u (by omega) (by omega) (fun i i1 i2 => absurd i2 (by omega)) (fun _ => ltB_f.mpr (by show ¬ _; rw [Nat.add_zero]; omega))).symm
  · rw [if_neg (by rw [q]; decide)]
    exact (skp_u (by omega) (by omega) (fun i i1 i2 => absurd i2 (by omega)) (fun _ => q2)).symm
theorem TR.wordMany {ρ : SG} {B : Nat → Int} {L b n : Nat} (h : TR ρ B L b) (hT : Txt B L) (hn : 500 < n) : ∃ ρ', X12_wordMany n ρ = some ((wlen B L b : Int), ρ') ∧ FrK ρ ρ' ∧ TB ρ' B L b := by
  obtain ⟨ρ1, e1, e2, e3⟩ := h.blanks hT hn
  have hL := hT.1
  have e3' := e3
  obtain ⟨r1, r2, r3, r4, r5, r6⟩ := e3'
  have hw := wlen_skp (B := B) r5
  obtain ⟨s1, s2, -⟩ := skp_ok (g := ltB) (B := B) r5
  refine ⟨ρ1, of_wp ?_, e2, e3⟩
  unfold X12_wordMany
  refine wp_bind (wp_of e1 (wp_lt ?_))
  rw [r3]
  refine wp_bind (wp_loop (fun k (z : Int) => z = ((b + k : Nat) : Int) ∧ ∀ i, b ≤ i → i < b + k → ltB (B i) = true) (L - b) ?_ ⟨rfl, fun i i1 i2 => absurd i2 (by omega)⟩ (by omega))
  rintro k z hk ⟨g1, g2⟩
  subst g1
  have fin : b + k = skp ltB B L b → wp (X12_wordMany_e9 n ρ1 ((b + k : Nat) : Int)) (fun r => r = ((wlen B L b : Int), ρ1)) := by
    intro q
    unfold X12_wordMany_e9
    refine wp_some ?_
    rw [r3, show (((b + k : Nat) : Int) - (b : Int)) = (wlen B L b : Int) by omega]
  unfold X12_wordMany_l9
  rw [r1.1]
  by_cases c : b + k = L
  · exact wp_ifT (by rw [c]; exact Int.le_refl _) (wp_some (Or.inr ⟨_, rfl, fin (skp_u (by omega) (by omega) g2 (fun q => absurd q (by omega))).symm⟩))
  · have hu := hT.2 (b + k) (by omega)
    have hb := sb_rg hu
    have hi := sb_in (lo := 97) (hi := 122) hu (by decide)
    refine wp_ifF (by rw [w32i (by omega), w32i (by omega)]; omega) (wp_rdn (by omega) (by omega) ?_)
    rw [r1.2 (b + k) (by omega)]
    by_cases c1 : sb (B (b + k)) < 97
    · exact wp_ifT (by rw [w32i (by omega)]; exact c1) (wp_some (Or.inr ⟨_, rfl, fin (skp_u (by omega) (by omega) g2 (fun _ => ltB_f.mpr (fun q => by have := hi.mpr q; omega))).symm⟩))
    · refine wp_ifF (by rw [w32i (by omega)]; exact c1) (wp_rdn (by omega) (by omega) ?_)
      rw [r1.2 (b + k) (by omega)]
      by_cases c2 : 122 < sb (B (b + k))
      · exact wp_ifT (by rw [w32i (by omega)]; exact c2) (wp_some (Or.inr ⟨_, rfl, fin (skp_u (by omega) (by omega) g2 (fun _ => ltB_f.mpr (fun q => by have := hi.mpr q; omega))).symm⟩))
      · refine wp_ifF (by rw [w32i (by omega)]; exact c2) (wp_lt (wp_some (Or.inl ⟨_, rfl, by omega, by omega, fun i i1 i2 => ?_⟩)))
        by_cases q : i = b + k
        · rw [q]
          exact ltB_t.mpr (hi.mp (by omega))
        · exact g2 i i1 (by omega)
theorem FR.wordMany {ρ : SG} {B : Nat → Int} {L n : Nat} {x : Int} (h : FR ρ B L x) (hT : Txt B L) (hn : 500 < n) : ∃ v ρ', X12_wordMany n ρ = some (v, ρ') ∧ FrK ρ ρ' ∧ FR ρ' B L x := by
  obtain ⟨ρ1, e1, e2, e3⟩ := h.blanks hT hn
  have hL := hT.1
  have e3' := e3
  obtain ⟨r1, r2, r3, r4, p, r5, r6⟩ := e3'
  have key : wp (X12_wordMany n ρ) (fun r => r.2 = ρ1) := by
    unfold X12_wordMany
    refine wp_bind (wp_of e1 (wp_lt ?_))
    rw [r5]
    refine wp_bind (wp_loop (fun k (z : Int) => z = ((p + k : Nat) : Int)) (L - p) ?_ rfl (by omega))
    rintro k z hk g1
    subst g1
    have fin : wp (X12_wordMany_e9 n ρ1 ((p + k : Nat) : Int)) (fun r => r.2 = ρ1) := by
      unfold X12_wordMany_e9
      exact wp_some rfl
    unfold X12_wordMany_l9
    rw [r1.1]
    by_cases c : p + k = L
    · exact wp_ifT (by rw [c]; exact Int.le_refl _) (wp_some (Or.inr ⟨_, rfl, fin⟩))
    · refine wp_ifF (by rw [w32i (by omega), w32i (by omega)]; omega) (wp_rdn (by omega) (by omega) (wp_if (fun _ => wp_some (Or.inr ⟨_, rfl, fin⟩)) (fun _ => wp_rdn (by omega) (by omega) (wp_if (fun _ => wp_some (Or.inr ⟨_, rfl, fin⟩)) (fun _ => wp_lt (wp_some (Or.inl ⟨_, rfl, by omega, by omega⟩)))))))
  obtain ⟨⟨v, ρ'⟩, e, h⟩ := key
  obtain rfl : ρ' = ρ1 := h
  exact ⟨v, ρ', e, e2, e3⟩
theorem TR.isWord {ρ : SG} {B : Nat → Int} {L b n a : Nat} (h : TR ρ B L b) (hT : Txt B L) (ha : a < 70) (hn : 500 < n) : ∃ ρ', X12_isWord n a ρ = some (b2i (waB B L b (strB a)), ρ') ∧ FrK ρ ρ' ∧ TB ρ' B L b := by
  obtain ⟨ρ1, e1, e2, e3⟩ := h.wordMany hT hn
  have hL := hT.1
  obtain ⟨w1, w2, w3⟩ := sw ha
  have e3' := e3
  obtain ⟨r1, r2, r3, r4, r5, r6⟩ := e3'
  obtain ⟨t1, t2, t3⟩ := te_b (B := B) r5
  have hwl : wlen B L b ≤ L := by unfold wlen; split <;> omega
  refine ⟨ρ1, of_wp ?_, e2, e3⟩
  unfold X12_isWord
  refine wp_bind (wp_of h.hf (wp_bind (wp_ifT rfl (wp_bnd2 (wp_of e1 ?_)))))
  by_cases c : wlen B L b = (strB a).length
  · have c1 : kd B L b = 1 := by
      unfold wlen at c
      split at c
      · assumption
      · omega
    have c2 : te B L b - b = (strB a).length := by
      unfold wlen at c
      rw [if_pos c1] at c
      exact c
    refine wp_ifT (by rw [c]) (wp_some ?_)
    unfold X12_isWord_j23
    refine wp_bind (wp_loop (fun k (z : Int × Int) => z.2 = (k : Int) ∧ ((z.1 = 1 ∧ ∀ i, i < k → B (b + i) = (strB a).getD i 0) ∨ (z.1 = 0 ∧ waB B L b (strB a) = false))) (strB a).length ?_ ⟨rfl, Or.inl ⟨rfl, fun i hi => absurd hi (by omega)⟩⟩ (by omega))
    rintro k ⟨z1, z2⟩ hk ⟨g1, g2⟩
    obtain rfl : z2 = (k : Int) := g1
    have g3 : (z1 = 1 ∧ ∀ i, i < k → B (b + i) = (strB a).getD i 0) ∨ (z1 = 0 ∧ waB B L b (strB a) = false) := g2
    clear g2
    dsimp only
    unfold X12_isWord_l26 X12_isWord_j62
    rcases g3 with ⟨rfl, g2⟩ | ⟨rfl, g2⟩
    · refine wp_ifF (by decide) ?_
      by_cases d : k = (strB a).length
      · have : waB B L b (strB a) = true := decide_eq_true ⟨c1, c2, fun i hi => g2 i (by omega)⟩
        rw [this]
        refine wp_ifT (by rw [d]; exact Int.le_refl _) (wp_some (Or.inr ⟨_, rfl, ?_⟩))
        unfold X12_isWord_e26
        exact wp_some (by rw [wZ_1]; rfl)
      · have u := w3 k
        have hu := hT.2 (b + k) (by omega)
        have hb := sb_rg hu
        have hi := sb_in (lo := (strB a).getD k 0) (hi := (strB a).getD k 0) hu (by omega)
        refine wp_ifF (by rw [w32i (by omega), w32i (by omega)]; omega) (wp_rdI (b + k) (by rw [r3]; omega) (by omega) (by decide) (wp_rdn (by omega) (by omega) (wp_bind ?_)))
        rw [r1.2 (b + k) (by omega)]
        by_cases q : sb (B (b + k)) = (strB a).getD k 0
        · refine wp_ifT (by rw [q]) (wp_some (wp_lt (wp_some (Or.inl ⟨_, rfl, by omega, by simp only []; omega, Or.inl ⟨rfl, fun i hi' => ?_⟩⟩))))
          by_cases q2 : i = k
          · rw [q2]
            have := hi.mp (by omega)
            omega
          · exact g2 i (by omega)
        · refine wp_ifF (by rw [w32i (by omega), w32i (by omega)]; exact q) (wp_some (wp_lt (wp_some (Or.inl ⟨_, rfl, by omega, by simp only []; omega, Or.inr ⟨rfl, decide_eq_false (fun q2 => ?_)⟩⟩))))
          have := q2.2.2 k (by omega)
          have := hi.mpr (by omega)
          omega
    · rw [g2]
      refine wp_ifT rfl (wp_some (Or.inr ⟨_, rfl, ?_⟩))
      unfold X12_isWord_e26
      exact wp_some (by rw [wZ_0]; rfl)
  · have : waB B L b (strB a) = false := decide_eq_false (fun q2 => c (by unfold wlen; rw [if_pos q2.1]; exact q2.2.1))
    rw [this]
    refine wp_ifF (by rw [w32i (by omega), w32i (by omega)]; omega) (wp_some ?_)
    unfold X12_isWord_j23
    refine wp_bind (wp_loop (fun _ (z : Int × Int) => z = (0, 0)) 0 ?_ rfl (by omega))
    rintro k z hk rfl
    dsimp only
    unfold X12_isWord_l26
    refine wp_ifT rfl (wp_some (Or.inr ⟨_, rfl, ?_⟩))
    unfold X12_isWord_e26
    exact wp_some (by rw [wZ_0]; rfl)
theorem FR.isWord {ρ : SG} {B : Nat → Int} {L n a : Nat} {x : Int} (h : FR ρ B L x) (hn : 500 < n) : X12_isWord n a ρ = some (0, ρ) := by
  refine of_wp ?_
  unfold X12_isWord
  refine wp_bind (wp_of h.hf (wp_bind (wp_ifF (by decide) (wp_some ?_))))
  unfold X12_isWord_j23
  refine wp_bind (wp_loop (fun _ (z : Int × Int) => z = (0, 0)) 0 ?_ rfl (by omega))
  rintro k z hk rfl
  dsimp only
  unfold X12_isWord_l26
  refine wp_ifT rfl (wp_some (Or.inr ⟨_, rfl, ?_⟩))
  unfold X12_isWord_e26
  exact wp_some (by rw [wZ_0])
theorem wa_nx {B : Nat → Int} {L b : Nat} {w : List Int} (h : waB B L b w = true) (hb : b ≤ L) : te B L b = b + w.length ∧ kd B L b = 1 ∧ nx B L b = blk B L (b + w.length) ∧ b + w.length ≤ L := by
  obtain ⟨h1, h2, -⟩ := of_decide_eq_true h
  obtain ⟨t1, t2, -⟩ := te_b (B := B) hb
  have e : te B L b = b + w.length := by omega
  exact ⟨e, h1, by unfold nx; rw [e], by omega⟩
theorem TR.takesWord {ρ : SG} {B : Nat → Int} {L b n a : Nat} (h : TR ρ B L b) (hT : Txt B L) (ha : a < 70) (hn : 500 < n) : ∃ ρ', X12_takesWord n a ρ = some (b2i (waB B L b (strB a)), ρ') ∧ FrK ρ ρ' ∧ (if waB B L b (strB a) = true then TR ρ' B L (nx B L b) else TB ρ' B L b) := by
  obtain ⟨ρ1, e1, e2, e3⟩ := h.isWord hT ha hn
  unfold X12_takesWord
  cases q : waB B L b (strB a)
  · rw [q] at e1
    exact ⟨ρ1, of_wp (wp_bnd2 (wp_of e1 (wp_ifT rfl (wp_some (by rw [b2i_w]))))), e2, by rw [if_neg (by decide)]; exact e3⟩
  · rw [q] at e1
    obtain ⟨n1, n2, n3, n4⟩ := wa_nx q e3.2.2.2.2.1
    have f : FrK ρ1 (up ρ1 57 4 (ρ1 57 4 + ((strB a).length : Int))) := fun c j q => up_ne (by omega)
    refine ⟨up ρ1 57 4 (ρ1 57 4 + ((strB a).length : Int)), of_wp (wp_bnd2 (wp_of e1 (wp_ifF (by dsimp only; decide) (wp_lt (wp_some (by rw [b2i_w])))))), e2.tr f, ?_⟩
    rw [if_pos rfl]
    exact ⟨f.rb e3.1, by rw [up_ne (by omega)]; exact e3.2.1, b + (strB a).length, by rw [up_eq rfl rfl, e3.2.2.1]; omega, n4, n3.symm⟩
theorem FR.takesWord {ρ : SG} {B : Nat → Int} {L n a : Nat} {x : Int} (h : FR ρ B L x) (hn : 500 < n) : X12_takesWord n a ρ = some (0, ρ) := by
  unfold X12_takesWord
  exact of_wp (wp_bnd2 (wp_of (h.isWord hn) (wp_ifT rfl (wp_some (by rw [wZ_0])))))
theorem TR.asksWord {ρ : SG} {B : Nat → Int} {L b n a : Nat} (h : TR ρ B L b) (hT : Txt B L) (ha : a < 70) (hn : 500 < n) : ∃ ρ', X12_asksWord n a ρ = some ρ' ∧ FrK ρ ρ' ∧ (if waB B L b (strB a) = true then TR ρ' B L (nx B L b) else FR ρ' B L (b : Int)) := by
  obtain ⟨ρ1, e1, e2, e3⟩ := h.takesWord hT ha hn
  unfold X12_asksWord
  cases q : waB B L b (strB a)
  · rw [q] at e1 e3
    obtain ⟨ρ2, u1, u2, u3⟩ := TB.fails (n := n) (by rw [if_neg (by decide)] at e3; exact e3) hT
    exact ⟨ρ2, of_wp (wp_bind (wp_of h.hf (wp_ifT rfl (wp_bnd2 (wp_of e1 (wp_ifT rfl (wp_bind (wp_of u1 (wp_some rfl))))))))), e2.tr u2, by rw [if_neg (by decide)]; exact u3⟩
  · rw [q] at e1 e3
    exact ⟨ρ1, of_wp (wp_bind (wp_of h.hf (wp_ifT rfl (wp_bnd2 (wp_of e1 (wp_ifF (by dsimp only; decide) (wp_some rfl))))))), e2, e3⟩
theorem FR.asksWord {ρ : SG} {B : Nat → Int} {L n a : Nat} {x : Int} (h : FR ρ B L x) : X12_asksWord n a ρ = some ρ := by
  unfold X12_asksWord
  exact of_wp (wp_bind (wp_of h.hf (wp_ifF (by decide) (wp_some rfl))))
theorem ia_dg {B : Nat → Int} {L p : Nat} : iaB B L p 48 57 = true ↔ (p < L ∧ dgB (B p) = true) := by
  unfold iaB
  rw [decide_eq_true_iff, dgB_t]
theorem TR.isNumber {ρ : SG} {B : Nat → Int} {L b n : Nat} (h : TR ρ B L b) (hT : Txt B L) (hn : 500 < n) : ∃ ρ', X12_isNumber n ρ = some (b2i (decide (kd B L b = 2)), ρ') ∧ FrK ρ ρ' ∧ TB ρ' B L b := by
  obtain ⟨ρ1, e1, e2, e3⟩ := h.blanks hT hn
  refine ⟨ρ1, of_wp ?_, e2, e3⟩
  have e : iaB B L b 48 57 = decide (kd B L b = 2) := by
    by_cases c : kd B L b = 2
    · rw [decide_eq_true c]
      rcases kd_c (B := B) e3.2.2.2.2.1 with ⟨q, -⟩ | ⟨q, -⟩ | ⟨-, q1, q2, -⟩ | ⟨q, -⟩
      · rw [q] at c; exact absurd c (by decide)
      · rw [q] at c; exact absurd c (by decide)
      · exact ia_dg.mpr ⟨q1, q2⟩
      · rw [q] at c; exact absurd c (by decide)
    · rw [decide_eq_false c]
      cases q : iaB B L b 48 57
      · rfl
      · obtain ⟨q1, q2⟩ := ia_dg.mp q
        exact absurd (kd_2 q1 q2).1 c
  unfold X12_isNumber
  refine wp_bind (wp_of e1 (wp_bind (wp_of e3.tr.hf (wp_ifT rfl (wp_bind (wp_of (isAt_ok e3.1 hT e3.2.2.1 e3.2.2.2.2.1 (by decide)) ?_))))))
  rw [e]
  cases decide (kd B L b = 2)
  · exact wp_ifT rfl (wp_some rfl)
  · exact wp_ifF (by decide) (wp_some rfl)
theorem TR.number {ρ : SG} {B : Nat → Int} {L b n dg : Nat} {lo hi : Int} (h : TR ρ B L b) (hT : Txt B L) (hd : 1 ≤ dg ∧ dg ≤ 4) (hr : (0 ≤ lo ∧ lo ≤ 9999) ∧ 0 ≤ hi ∧ hi ≤ 9999) (hn : 500 < n) : ∃ v ρ', X12_number n (dg : Int) lo hi ρ = some (v, ρ') ∧ FrK ρ ρ' ∧ (0 ≤ v ∧ v ≤ 9999) ∧ (if nuB B L b dg lo hi = true then v = nmv B b (te B L b - b) ∧ TR ρ' B L (nx B L b) else FR ρ' B L (b : Int)) := by
  obtain ⟨ρ1, e1, e2, e3⟩ := h.blanks hT hn
  have hL := hT.1
  have e3' := e3
  obtain ⟨r1, r2, r3, r4, r5, r6⟩ := e3'
  obtain ⟨t1, t2, t3⟩ := te_b (B := B) r5
  have key : wp (X12_number n (dg : Int) lo hi ρ) (fun z => FrK ρ z.2 ∧ (0 ≤ z.1 ∧ z.1 ≤ 9999) ∧ (if nuB B L b dg lo hi = true then z.1 = nmv B b (te B L b - b) ∧ TR z.2 B L (nx B L b) else FR z.2 B L (b : Int))) := by
    unfold X12_number
    refine wp_bind (wp_of h.hf (wp_ifT rfl (wp_bind (wp_of e1 (wp_bind ?_)))))
    refine wp_loop (fun k (z : Int × SG) => z.1 = nmv B b (min dg k) ∧ z.2 57 4 = ((b + k : Nat) : Int) ∧ (∀ i, b ≤ i → i < b + k → dgB (B i) = true) ∧ ∀ c j, ¬ (c = 57 ∧ j = 4) → z.2 c j = ρ1 c j) (L - b) ?_ ⟨by rw [show min dg 0 = 0 by omega]; rfl, r3, fun i i1 i2 => absurd i2 (by omega), fun _ _ _ => rfl⟩ (by omega)
    rintro k ⟨z, ρ2⟩ hk ⟨g1, g2, g3, g4⟩
    obtain rfl : z = nmv B b (min dg k) := g1
    have g2 : ρ2 57 4 = ((b + k : Nat) : Int) := g2
    have g4 : ∀ c j, ¬ (c = 57 ∧ j = 4) → ρ2 c j = ρ1 c j := g4
    have f2 : FrK ρ1 ρ2 := fun c j q => g4 c j (by omega)
    have hb2 : RB ρ2 B L := f2.rb r1
    have g5 : ρ2 57 5 = (b : Int) := (g4 57 5 (by omega)).trans r4
    have g7 : ρ2 57 7 = -1 := (g4 57 7 (by omega)).trans r2
    have v4 : ∀ d, d ≤ 4 → d ≤ k → 0 ≤ nmv B b d ∧ nmv B b d ≤ 9999 := fun d h1 h2 => nmv_b4 (fun i hi => dgB_t.mp (g3 (b + i) (by omega) (by omega))) h1
    have vk := v4 (min dg k) (by omega) (by omega)
    have fin : (b + k < L → dgB (B (b + k)) = false) → wp (X12_number_e16 n (dg : Int) lo hi (nmv B b (min dg k)) ρ2) (fun z => FrK ρ z.2 ∧ (0 ≤ z.1 ∧ z.1 ≤ 9999) ∧ (if nuB B L b dg lo hi = true then z.1 = nmv B b (te B L b - b) ∧ TR z.2 B L (nx B L b) else FR z.2 B L (b : Int))) := by
      intro hend
      have hsk : skp dgB B L b = b + k := skp_u (by omega) (by omega) g3 hend
      have bad : nuB B L b dg lo hi = false → wp ((X12_fails n ρ2).bind fun σ12 => some (nmv B b (min dg k), σ12)) (fun z => FrK ρ z.2 ∧ (0 ≤ z.1 ∧ z.1 ≤ 9999) ∧ (if nuB B L b dg lo hi = true then z.1 = nmv B b (te B L b - b) ∧ TR z.2 B L (nx B L b) else FR z.2 B L (b : Int))) := by
        intro q
        have ff : FrK ρ2 (up ρ2 57 7 (ρ2 57 5)) := fun c j q => up_ne (by omega)
        have hf : X12_fails n ρ2 = some (up ρ2 57 7 (ρ2 57 5)) := by
          unfold X12_fails
          exact if_pos (by rw [g7]; decide)
        refine wp_bind (wp_of hf (wp_some ⟨e2.tr (f2.tr ff), vk, ?_⟩))
        rw [q, if_neg (by decide)]
        refine ⟨ff.rb hb2, by dsimp only; rw [up_eq rfl rfl, g5], by omega, by omega, b + k, ?_, by omega⟩
        dsimp only
        rw [up_ne (by omega)]
        exact g2
      unfold X12_number_e16
      rw [g2, g5, show ((b + k : Nat) : Int) - (b : Int) = (k : Int) by omega]
      refine wp_lt ?_
      by_cases c0 : k = 0
      · subst c0
        rw [Nat.add_zero] at hend
        refine wp_ifT rfl (bad (decide_eq_false (fun q => ?_)))
        rcases kd_c (B := B) r5 with ⟨q1, -⟩ | ⟨q1, -⟩ | ⟨-, q1, q2, -⟩ | ⟨q1, -⟩
        · rw [q1] at q; exact absurd q.1 (by decide)
        · rw [q1] at q; exact absurd q.1 (by decide)
        · rw [hend q1] at q2; cases q2
        · rw [q1] at q; exact absurd q.1 (by decide)
      · have hb0 : dgB (B b) = true := g3 b (Nat.le_refl _) (by omega)
        obtain ⟨k1, k2⟩ := kd_2 (L := L) (show b < L by omega) hb0
        have hte : te B L b - b = k := by omega
        refine wp_ifF (by rw [w32i (by omega)]; omega) ?_
        by_cases c1 : dg < k
        · exact wp_ifT (by rw [w32i (by omega), w32i (by omega)]; omega) (bad (decide_eq_false (fun q => by have := q.2.1; omega)))
        · have hm : min dg k = k := by omega
          rw [hm] at vk
          refine wp_ifF (by rw [w32i (by omega), w32i (by omega)]; omega) ?_
          by_cases c2 : lo ≤ nmv B b k ∧ nmv B b k ≤ hi
          · have q : nuB B L b dg lo hi = true := decide_eq_true ⟨k1, by omega, by rw [hte]; exact c2.1, by rw [hte]; exact c2.2⟩
            rw [q, hm]
            refine wp_bind (wp_in1 (by rw [w32i (by omega), w32i (by omega), w32i (by omega)]; exact c2) (wp_ifF (by decide) (wp_some ⟨e2.tr f2, vk, ?_⟩)))
            rw [if_pos rfl, hte]
            exact ⟨rfl, hb2, g7, b + k, g2, by omega, by unfold nx; rw [k2, hsk]⟩
          · refine wp_bind (wp_in0 (by rw [hm, w32i (by omega), w32i (by omega), w32i (by omega)]; exact c2) (wp_ifT rfl (bad (decide_eq_false (fun q => ?_)))))
            rw [hte] at q
            exact c2 q.2.2
    dsimp only
    unfold X12_number_l16 X12_number_j60
    refine wp_bind (wp_of (isAt_ok hb2 hT g2 (by omega) (by decide)) ?_)
    cases q : iaB B L (b + k) 48 57
    · refine wp_ifT rfl (wp_some (Or.inr ⟨_, rfl, fin (fun q1 => ?_)⟩))
      cases q2 : dgB (B (b + k))
      · rfl
      · rw [ia_dg.mpr ⟨q1, q2⟩] at q
        cases q
    · obtain ⟨q1, q2⟩ := ia_dg.mp q
      have q3 := dgB_t.mp q2
      have g3' : ∀ i, b ≤ i → i < b + (k + 1) → dgB (B i) = true := fun i i1 i2 => by
        by_cases q : i = b + k
        · rw [q]; exact q2
        · exact g3 i i1 (by omega)
      refine wp_ifF (by decide) (wp_bind ?_)
      rw [g2, g5]
      by_cases c : dg ≤ k
      · refine wp_ifT (by rw [w32i (by omega), w32i (by omega)]; omega) (wp_some (wp_lt (wp_some (Or.inl ⟨_, rfl, by omega, ?_, ?_, g3', fun c j q => ?_⟩))))
        · dsimp only
          rw [show min dg (k + 1) = min dg k by omega]
        · dsimp only
          rw [up_eq rfl rfl]
          omega
        · dsimp only
          rw [up_ne (by omega)]
          exact g4 c j q
      · refine wp_ifF (by rw [w32i (by omega), w32i (by omega)]; omega) (wp_rdn (by omega) (by omega) (wp_lt (wp_some (wp_lt (wp_some (Or.inl ⟨_, rfl, by omega, ?_, ?_, g3', fun c j q => ?_⟩))))))
        · dsimp only
          rw [show min dg (k + 1) = k + 1 by omega, show min dg k = k by omega, nmv_s, hb2.2 (b + k) q1]
          unfold sb
          rw [if_pos (by omega)]
          omega
        · dsimp only
          rw [up_eq rfl rfl]
          omega
        · dsimp only
          rw [up_ne (by omega)]
          exact g4 c j q
  obtain ⟨⟨v, ρ'⟩, e, h1, h2, h3⟩ := key
  exact ⟨v, ρ', e, h1, h2, h3⟩
theorem FR.number {ρ : SG} {B : Nat → Int} {L n : Nat} {x a lo hi : Int} (h : FR ρ B L x) : X12_number n a lo hi ρ = some (0, ρ) := by
  unfold X12_number
  exact of_wp (wp_bind (wp_of h.hf (wp_ifF (by decide) (wp_some rfl))))
