/-! ===== texts: what is common to the sea's and the judge's ===== -/
def sk (f : Nat → Bool) : Nat → Nat → Nat
  | 0, p => p
  | n + 1, p => if f p = true then sk f n (p + 1) else p
theorem sk_ok {f : Nat → Bool} : ∀ {n p : Nat}, p ≤ sk f n p ∧ sk f n p ≤ p + n ∧ (∀ i, p ≤ i → i < sk f n p → f i = true) ∧ (sk f n p < p + n → f (sk f n p) = false)
  | 0, p => ⟨Nat.le_refl _, Nat.le_refl _, fun i h1 h2 => absurd h2 (by show ¬ i < p; omega), fun h => absurd h (by show ¬ p < p + 0; omega)⟩
  | n + 1, p => by
    by_cases c : f p = true
    · have e : sk f (n + 1) p = sk f n (p + 1) := if_pos c
      obtain ⟨h1, h2, h3, h4⟩ := sk_ok (f := f) (n := n) (p := p + 1)
      rw [e]
      refine ⟨by omega, by omega, fun i i1 i2 => ?_, fun h => h4 (by omega)⟩
      by_cases q : i = p
      · rw [q]; exact c
      · exact h3 i (by omega) i2
    · have e : sk f (n + 1) p = p := if_neg c
      rw [e]
      exact ⟨Nat.le_refl _, by omega, fun i i1 i2 => absurd i2 (by omega), fun _ => by simpa using c⟩
/-- from p on past all bytes that g takes -/
def skp (g : Int → Bool) (B : Nat → Int) (L p : Nat) : Nat := sk (fun i => g (B i)) (L - p) p
theorem skp_ok {g : Int → Bool} {B : Nat → Int} {L p : Nat} (h : p ≤ L) : p ≤ skp g B L p ∧ skp g B L p ≤ L ∧ (∀ i, p ≤ i → i < skp g B L p → g (B i) = true) ∧ (skp g B L p < L → g (B (skp g B L p)) = false) := by
  obtain ⟨h1, h2, h3, h4⟩ := sk_ok (f := fun i => g (B i)) (n := L - p) (p := p)
  unfold skp
  exact ⟨h1, by omega, h3, fun q => h4 (by omega)⟩
theorem skp_u {g : Int → Bool} {B : Nat → Int} {L p r : Nat} (h1 : p ≤ r) (h2 : r ≤ L) (h3 : ∀ i, p ≤ i → i < r → g (B i) = true) (h4 : r < L → g (B r) = false) : skp g B L p = r := by
  obtain ⟨a1, a2, a3, a4⟩ := skp_ok (g := g) (B := B) (L := L) (p := p) (by omega)
  rcases Nat.lt_trichotomy (skp g B L p) r with q | q | q
  · have := h3 _ a1 q
    rw [a4 (by omega)] at this
    cases this
  · exact q
  · have := a3 r h1 q
    rw [h4 (by omega)] at this
    cases this
theorem skp_m {g : Int → Bool} {B : Nat → Int} {L p r : Nat} (h1 : p ≤ r) (h2 : r ≤ skp g B L p) (h : p ≤ L) : skp g B L r = skp g B L p := by
  obtain ⟨a1, a2, a3, a4⟩ := skp_ok (g := g) (B := B) h
  exact skp_u h2 a2 (fun i i1 i2 => a3 i (by omega) i2) a4
def bkB (x : Int) : Bool := decide (x = 9 ∨ x = 10 ∨ x = 32)
def ltB (x : Int) : Bool := decide (97 ≤ x ∧ x ≤ 122)
def dgB (x : Int) : Bool := decide (48 ≤ x ∧ x ≤ 57)
theorem bkB_t {x : Int} : bkB x = true ↔ (x = 9 ∨ x = 10 ∨ x = 32) := decide_eq_true_iff
theorem ltB_t {x : Int} : ltB x = true ↔ (97 ≤ x ∧ x ≤ 122) := decide_eq_true_iff
theorem dgB_t {x : Int} : dgB x = true ↔ (48 ≤ x ∧ x ≤ 57) := decide_eq_true_iff
theorem bkB_f {x : Int} : bkB x = false ↔ ¬ (x = 9 ∨ x = 10 ∨ x = 32) := decide_eq_false_iff_not
theorem ltB_f {x : Int} : ltB x = false ↔ ¬ (97 ≤ x ∧ x ≤ 122) := decide_eq_false_iff_not
theorem dgB_f {x : Int} : dgB x = false ↔ ¬ (48 ≤ x ∧ x ≤ 57) := decide_eq_false_iff_not
/-- past the blanks; the token there: its kind, its end, its number -/
def blk (B : Nat → Int) (L p : Nat) : Nat := skp bkB B L p
def kd (B : Nat → Int) (L b : Nat) : Int := if L ≤ b then 0 else if ltB (B b) = true then 1 else if dgB (B b) = true then 2 else 3
def te (B : Nat → Int) (L b : Nat) : Nat := if L ≤ b then b else if ltB (B b) = true then skp ltB B L b else if dgB (B b) = true then skp dgB B L b else b + 1
def nmv (B : Nat → Int) (b : Nat) : Nat → Int
  | 0 => 0
  | k + 1 => nmv B b k * 10 + B (b + k) - 48
theorem nmv_s {B : Nat → Int} {b k : Nat} : nmv B b (k + 1) = nmv B b k * 10 + B (b + k) - 48 := rfl
theorem kd_0 {B : Nat → Int} {L b : Nat} (h : L ≤ b) : kd B L b = 0 ∧ te B L b = b := ⟨if_pos h, if_pos h⟩
theorem kd_1 {B : Nat → Int} {L b : Nat} (h : b < L) (h1 : ltB (B b) = true) : kd B L b = 1 ∧ te B L b = skp ltB B L b := by
  exact ⟨by unfold kd; rw [if_neg (show ¬ L ≤ b by omega), if_pos h1], by unfold te; rw [if_neg (show ¬ L ≤ b by omega), if_pos h1]⟩
theorem kd_2 {B : Nat → Int} {L b : Nat} (h : b < L) (h2 : dgB (B b) = true) : kd B L b = 2 ∧ te B L b = skp dgB B L b := by
  have h1 : ¬ ltB (B b) = true := by
    rw [ltB_t]
    have := dgB_t.mp h2
    omega
  exact ⟨by unfold kd; rw [if_neg (show ¬ L ≤ b by omega), if_neg h1, if_pos h2], by unfold te; rw [if_neg (show ¬ L ≤ b by omega), if_neg h1, if_pos h2]⟩
theorem kd_3 {B : Nat → Int} {L b : Nat} (h : b < L) (h1 : ltB (B b) = false) (h2 : dgB (B b) = false) : kd B L b = 3 ∧ te B L b = b + 1 := by
  have h1' : ¬ ltB (B b) = true := by rw [h1]; decide
  have h2' : ¬ dgB (B b) = true := by rw [h2]; decide
  exact ⟨by unfold kd; rw [if_neg (show ¬ L ≤ b by omega), if_neg h1', if_neg h2'], by unfold te; rw [if_neg (show ¬ L ≤ b by omega), if_neg h1', if_neg h2']⟩
theorem skp_lt {g : Int → Bool} {B : Nat → Int} {L p : Nat} (h : p < L) (hg : g (B p) = true) : p < skp g B L p := by
  obtain ⟨a1, a2, a3, a4⟩ := skp_ok (g := g) (B := B) (show p ≤ L by omega)
  by_cases q : p < skp g B L p
  · exact q
  · have e : skp g B L p = p := by omega
    rw [e] at a4
    rw [a4 h] at hg
    cases hg
theorem kd_c {B : Nat → Int} {L b : Nat} (h : b ≤ L) : (kd B L b = 0 ∧ b = L ∧ te B L b = b) ∨ (kd B L b = 1 ∧ b < L ∧ ltB (B b) = true ∧ te B L b = skp ltB B L b ∧ b < te B L b ∧ te B L b ≤ L) ∨ (kd B L b = 2 ∧ b < L ∧ dgB (B b) = true ∧ te B L b = skp dgB B L b ∧ b < te B L b ∧ te B L b ≤ L) ∨ (kd B L b = 3 ∧ b < L ∧ ltB (B b) = false ∧ dgB (B b) = false ∧ te B L b = b + 1) := by
  by_cases c0 : L ≤ b
  · exact Or.inl ⟨(kd_0 c0).1, by omega, (kd_0 c0).2⟩
  · cases h1 : ltB (B b)
    · cases h2 : dgB (B b)
      · exact Or.inr (Or.inr (Or.inr ⟨(kd_3 (by omega) h1 h2).1, by omega, rfl, rfl, (kd_3 (by omega) h1 h2).2⟩))
      · obtain ⟨e1, e2⟩ := kd_2 (L := L) (by omega) h2
        exact Or.inr (Or.inr (Or.inl ⟨e1, by omega, rfl, e2, by rw [e2]; exact skp_lt (by omega) h2, by rw [e2]; exact (skp_ok (by omega)).2.1⟩))
    · obtain ⟨e1, e2⟩ := kd_1 (L := L) (by omega) h1
      exact Or.inr (Or.inl ⟨e1, by omega, rfl, e2, by rw [e2]; exact skp_lt (by omega) h1, by rw [e2]; exact (skp_ok (by omega)).2.1⟩)
theorem te_b {B : Nat → Int} {L b : Nat} (h : b ≤ L) : b ≤ te B L b ∧ te B L b ≤ L ∧ (b < L → b < te B L b) := by
  have := kd_c (B := B) h
  omega
/-- the next token's place -/
def nx (B : Nat → Int) (L b : Nat) : Nat := blk B L (te B L b)
theorem nx_b {B : Nat → Int} {L b : Nat} (h : b ≤ L) : te B L b ≤ nx B L b ∧ nx B L b ≤ L ∧ (b < L → b < nx B L b) := by
  obtain ⟨h1, h2, h3⟩ := te_b (B := B) h
  obtain ⟨a1, a2, -⟩ := skp_ok (g := bkB) (B := B) h2
  unfold nx blk
  exact ⟨a1, a2, fun q => by have := h3 q; omega⟩
theorem blk_b {B : Nat → Int} {L p : Nat} (h : p ≤ L) : p ≤ blk B L p ∧ blk B L p ≤ L := ⟨(skp_ok h).1, (skp_ok h).2.1⟩
theorem blk_blk {B : Nat → Int} {L p : Nat} (h : p ≤ L) : blk B L (blk B L p) = blk B L p := skp_m (blk_b h).1 (Nat.le_refl _) h
/-! the class's token -/
def Txt (B : Nat → Int) (L : Nat) : Prop := L ≤ 400 ∧ ∀ j, j < L → 0 ≤ B j ∧ B j ≤ 255
def TC (σ : SG) (B : Nat → Int) (L b : Nat) : Prop := σ 15 1 = (L : Int) ∧ (∀ j, j < L → σ 16 j = B j) ∧ b ≤ L ∧ σ 15 3 = (b : Int) ∧ σ 15 2 = kd B L b ∧ σ 15 4 = (te B L b : Int) ∧ (kd B L b = 2 → σ 15 5 = nmv B b (min 4 (te B L b - b))) ∧ blk B L b = b
def FrT (σ σ' : SG) : Prop := ∀ c j, ¬ (c = 15 ∧ 2 ≤ j ∧ j ≤ 5) → σ' c j = σ c j
theorem FrT.rf {σ : SG} : FrT σ σ := fun _ _ _ => rfl
theorem FrT.tr {σ τ υ : SG} (h : FrT σ τ) (h' : FrT τ υ) : FrT σ υ := fun c j q => (h' c j q).trans (h c j q)
theorem TC.cg {σ σ' : SG} {B : Nat → Int} {L b : Nat} (h : TC σ B L b) (e : ∀ j, σ' 15 j = σ 15 j) (e2 : ∀ j, σ' 16 j = σ 16 j) : TC σ' B L b := by
  unfold TC at *
  rw [show σ' 15 = σ 15 from funext e, show σ' 16 = σ 16 from funext e2]
  exact h
theorem isBlank_ok {n : Nat} {x : Int} {σ : SG} (h : 0 ≤ x ∧ x ≤ 255) : X10_isBlank n x σ = some (if bkB x = true then 1 else 0) := by
  unfold X10_isBlank
  rw [w32i (by omega)]
  unfold bkB
  by_cases c1 : x = 9
  · rw [if_pos c1, if_pos (decide_eq_true (Or.inl c1))]
  · by_cases c2 : x = 10
    · rw [if_neg c1, if_pos c2, if_pos (decide_eq_true (Or.inr (Or.inl c2)))]
    · by_cases c3 : x = 32
      · rw [if_neg c1, if_neg c2, if_pos c3, if_pos (decide_eq_true (Or.inr (Or.inr c3)))]
      · rw [if_neg c1, if_neg c2, if_neg c3, if_neg (by simp [c1, c2, c3])]
theorem isLetter_ok {n : Nat} {x : Int} {σ : SG} (h : 0 ≤ x ∧ x ≤ 255) : X10_isLetter n x σ = some (if ltB x = true then 1 else 0) := by
  unfold X10_isLetter
  rw [w32i (by omega)]
  by_cases c : ltB x = true
  · have := ltB_t.mp c
    rw [if_neg (by omega), if_neg (by omega), if_pos c]
  · have : ¬ (97 ≤ x ∧ x ≤ 122) := fun q => c (ltB_t.mpr q)
    rw [if_neg c]
    by_cases c2 : x < 97
    · rw [if_pos c2]
    · rw [if_neg c2, if_pos (by omega)]
theorem isDigit_ok {n : Nat} {x : Int} {σ : SG} (h : 0 ≤ x ∧ x ≤ 255) : X10_isDigit n x σ = some (if dgB x = true then 1 else 0) := by
  unfold X10_isDigit
  rw [w32i (by omega)]
  by_cases c : dgB x = true
  · have := dgB_t.mp c
    rw [if_neg (by omega), if_neg (by omega), if_pos c]
  · have : ¬ (48 ≤ x ∧ x ≤ 57) := fun q => c (dgB_t.mpr q)
    rw [if_neg c]
    by_cases c2 : x < 48
    · rw [if_pos c2]
    · rw [if_neg c2, if_pos (by omega)]
theorem nmv_b {B : Nat → Int} {b : Nat} : ∀ {k : Nat}, (∀ i, i < k → 48 ≤ B (b + i) ∧ B (b + i) ≤ 57) → k ≤ 4 → 0 ≤ nmv B b k ∧ nmv B b k < 10 ^ k
  | 0, _, _ => ⟨Int.le_refl _, by show (0 : Int) < 10 ^ 0; decide⟩
  | k + 1, h, hk => by
    obtain ⟨h1, h2⟩ := nmv_b (B := B) (b := b) (k := k) (fun i hi => h i (by omega)) (by omega)
    obtain ⟨h3, h4⟩ := h k (by omega)
    rw [nmv_s, Int.pow_succ]
    generalize (10 : Int) ^ k = t at *
    omega
theorem nmv_b4 {B : Nat → Int} {b k : Nat} (h : ∀ i, i < k → 48 ≤ B (b + i) ∧ B (b + i) ≤ 57) (hk : k ≤ 4) : 0 ≤ nmv B b k ∧ nmv B b k ≤ 9999 := by
  obtain ⟨h1, h2⟩ := nmv_b h hk
  refine ⟨h1, ?_⟩
  have : k = 0 ∨ k = 1 ∨ k = 2 ∨ k = 3 ∨ k = 4 := by omega
  rcases this with rfl | rfl | rfl | rfl | rfl
  · exact Int.le_trans (Int.le_of_lt h2) (by decide)
  · exact Int.le_trans (Int.le_of_lt h2) (by decide)
  · exact Int.le_trans (Int.le_of_lt h2) (by decide)
  · exact Int.le_trans (Int.le_of_lt h2) (by decide)
  · exact Int.le_of_lt_add_one h2
/-- advance, from the end e of the token before -/
theorem adv_ok {σ : SG} {B : Nat → Int} {L e n : Nat} (hT : Txt B L) (h1 : σ 15 1 = (L : Int)) (h2 : ∀ j, j < L → σ 16 j = B j) (h3 : σ 15 4 = (e : Int)) (he : e ≤ L) (hn : 500 < n) : ∃ σ', X10_advance n σ = some σ' ∧ TC σ' B L (blk B L e) ∧ FrT σ σ' := by
  obtain ⟨hL, hB⟩ := hT
  obtain ⟨b, hb⟩ : ∃ b, b = blk B L e := ⟨_, rfl⟩
  obtain ⟨b1, b2⟩ := blk_b (B := B) he
  have bb : blk B L b = b := by rw [hb]; exact blk_blk he
  rw [← hb] at b1 b2 ⊢
  have key : wp (X10_advance n σ) (fun σ' => TC σ' B L b ∧ FrT σ σ') := by
    unfold X10_advance
    rw [h3]
    refine wp_lt (wp_bind (wp_loop (fun k (z : Int) => z = ((e + k : Nat) : Int) ∧ ∀ i, e ≤ i → i < e + k → bkB (B i) = true) (L - e) ?_ ⟨rfl, fun i i1 i2 => absurd i2 (by omega)⟩ (by omega)))
    rintro k z hk ⟨e1, e2⟩
    subst e1
    -- behind the blanks
    have fin : e + k = b → wp (X10_advance_e5 n σ ((e + k : Nat) : Int)) (fun σ' => TC σ' B L b ∧ FrT σ σ') := by
      intro hkb
      rw [hkb]
      have end_ok : ∀ (σ1 : SG) (y : Int), FrT σ σ1 → σ1 15 3 = (b : Int) → σ1 15 2 = kd B L b → y = (te B L b : Int) → (kd B L b = 2 → σ1 15 5 = nmv B b (min 4 (te B L b - b))) → wp (X10_advance_j189 n y σ1) (fun σ' => TC σ' B L b ∧ FrT σ σ') := by
        intro σ1 y f1 g1 g2 g3 g4
        unfold X10_advance_j189
        refine wp_lt (wp_some ⟨⟨?_, fun j hj => ?_, b2, ?_, ?_, ?_, fun q => ?_, bb⟩, fun c j q => ?_⟩)
        · rw [up_ne (by omega), f1 15 1 (by omega)]; exact h1
        · rw [up_ne (by omega), f1 16 j (by omega)]; exact h2 j hj
        · rw [up_ne (by omega)]; exact g1
        · rw [up_ne (by omega)]; exact g2
        · rw [up_eq rfl rfl]; exact g3
        · rw [up_ne (by omega)]; exact g4 q
        · rw [up_ne (by omega)]; exact f1 c j q
      unfold X10_advance_e5
      refine wp_lt (wp_bind ?_)
      have q1 : up σ 15 3 (b : Int) 15 1 = (L : Int) := by rw [up_ne (by omega)]; exact h1
      by_cases c0 : b < L
      · obtain ⟨u1, u2⟩ := hB b c0
        have q2 : up σ 15 3 (b : Int) 16 b = B b := by rw [up_ne (by omega)]; exact h2 b c0
        refine wp_ifT (by rw [q1, w32i (by omega), w32i (by omega)]; omega) (wp_rdn (by omega) (by omega) (wp_bind ?_))
        rw [q2]
        refine wp_of (isLetter_ok ⟨u1, u2⟩) ?_
        cases hl : ltB (B b)
        · refine wp_ifT (by decide) (wp_rdn (by omega) (by omega) (wp_bind ?_))
          rw [q2]
          refine wp_of (isDigit_ok ⟨u1, u2⟩) ?_
          cases hd : dgB (B b)
          · obtain ⟨k1, k2⟩ := kd_3 c0 hl hd
            refine wp_ifT (by decide) (wp_lt (wp_lt (wp_some (end_ok _ _ (fun c j q => by dsimp only; rw [up_ne (by omega), up_ne (by omega)]) (by dsimp only; rw [up_ne (by omega), up_eq rfl rfl]) (by dsimp only; rw [up_eq rfl rfl, k1]) (by rw [k2]; omega) (fun q => by rw [k1] at q; exact absurd q (by decide))))))
          · obtain ⟨k1, k2⟩ := kd_2 c0 hd
            obtain ⟨s1, s2, s3, s4⟩ := skp_ok (g := dgB) (B := B) (show b ≤ L by omega)
            refine wp_ifF (by decide) (wp_lt (wp_lt (wp_bind (wp_loop (fun k (z : Int × SG) => z.1 = ((b + k : Nat) : Int) ∧ (∀ i, b ≤ i → i < b + k → dgB (B i) = true) ∧ FrT σ z.2 ∧ z.2 15 3 = (b : Int) ∧ z.2 15 2 = 2 ∧ z.2 15 5 = nmv B b (min 4 k)) (L - b) ?_ ⟨rfl, fun i i1 i2 => absurd i2 (by omega), fun c j q => by dsimp only; rw [up_ne (by omega), up_ne (by omega), up_ne (by omega)], by dsimp only; rw [up_ne (by omega), up_ne (by omega), up_eq rfl rfl], by dsimp only; rw [up_ne (by omega), up_eq rfl rfl], by dsimp only; rw [up_eq rfl rfl]; rfl⟩ (by omega)))))
            rintro k ⟨z, σ2⟩ hk ⟨g1, g2, g3, g4, g5, g6⟩
            obtain rfl : z = ((b + k : Nat) : Int) := g1
            have g3 : FrT σ σ2 := g3
            have g4 : σ2 15 3 = (b : Int) := g4
            have g5 : σ2 15 2 = 2 := g5
            have g6 : σ2 15 5 = nmv B b (min 4 k) := g6
            have f1 : σ2 15 1 = (L : Int) := (g3 15 1 (by omega)).trans h1
            have done : b + k = skp dgB B L b → wp (X10_advance_e117 n ((b + k : Nat) : Int) σ2) (fun z => wp (X10_advance_j189 n z.1 z.2) (fun σ' => TC σ' B L b ∧ FrT σ σ')) := by
              intro hk2
              unfold X10_advance_e117
              exact wp_some (end_ok _ _ g3 g4 (by rw [k1]; exact g5) (by rw [k2, ← hk2]) (fun _ => by rw [k2, ← hk2, show b + k - b = k by omega]; exact g6))
            dsimp only
            unfold X10_advance_l117 X10_advance_j172
            by_cases c1 : b + k = L
            · refine wp_ifT (by rw [f1, c1]; exact Int.le_refl _) (wp_some (Or.inr ⟨_, rfl, done (skp_u (by omega) (by omega) g2 (fun q => absurd q (by omega))).symm⟩))
            · obtain ⟨v1, v2⟩ := hB (b + k) (by omega)
              have f2 : σ2 16 (b + k) = B (b + k) := (g3 16 _ (by omega)).trans (h2 _ (by omega))
              refine wp_ifF (by rw [f1, w32i (by omega), w32i (by omega)]; omega) (wp_rdn (by omega) (by omega) (wp_bind ?_))
              rw [f2]
              refine wp_of (isDigit_ok ⟨v1, v2⟩) ?_
              cases hd2 : dgB (B (b + k))
              · exact wp_ifT (by decide) (wp_some (Or.inr ⟨_, rfl, done (skp_u (by omega) (by omega) g2 (fun _ => hd2)).symm⟩))
              · refine wp_ifF (by decide) (wp_bind ?_)
                have g2' : ∀ i, b ≤ i → i < b + (k + 1) → dgB (B i) = true := fun i i1 i2 => by
                  by_cases q : i = b + k
                  · rw [q]; exact hd2
                  · exact g2 i i1 (by omega)
                rw [g4]
                by_cases c2 : 4 ≤ k
                · refine wp_ifT (by rw [w32i (by omega)]; omega) (wp_some (wp_lt (wp_lt (wp_some (Or.inl ⟨_, rfl, by omega, by simp only []; omega, g2', fun c j q => ?_, ?_, ?_, ?_⟩)))))
                  · dsimp only; rw [up_ne (by omega)]; exact g3 c j q
                  · dsimp only; rw [up_ne (by omega)]; exact g4
                  · dsimp only; rw [up_ne (by omega)]; exact g5
                  · dsimp only; rw [up_eq rfl rfl, g6, show min 4 (k + 1) = min 4 k by omega]
                · refine wp_ifF (by rw [w32i (by omega)]; omega) (wp_rdn (by omega) (by omega) (wp_some (wp_lt (wp_lt (wp_some (Or.inl ⟨_, rfl, by omega, by simp only []; omega, g2', fun c j q => ?_, ?_, ?_, ?_⟩))))))
                  · dsimp only; rw [up_ne (by omega)]; exact g3 c j q
                  · dsimp only; rw [up_ne (by omega)]; exact g4
                  · dsimp only; rw [up_ne (by omega)]; exact g5
                  · dsimp only; rw [up_eq rfl rfl, g6, f2, show min 4 (k + 1) = k + 1 by omega, show min 4 k = k by omega, nmv_s]
        · obtain ⟨k1, k2⟩ := kd_1 c0 hl
          obtain ⟨s1, s2, s3, s4⟩ := skp_ok (g := ltB) (B := B) (show b ≤ L by omega)
          refine wp_ifF (by decide) (wp_lt (wp_bind (wp_loop (fun k (z : Int) => z = ((b + k : Nat) : Int) ∧ (∀ i, b ≤ i → i < b + k → ltB (B i) = true)) (L - b) ?_ ⟨rfl, fun i i1 i2 => absurd i2 (by omega)⟩ (by omega))))
          rintro k z hk ⟨g1, g2⟩
          subst g1
          have f1 : up (up σ 15 3 (b : Int)) 15 2 1 15 1 = (L : Int) := by rw [up_ne (by omega)]; exact q1
          have done : b + k = skp ltB B L b → wp (X10_advance_e69 n (up (up σ 15 3 (b : Int)) 15 2 1) ((b + k : Nat) : Int)) (fun z => wp (X10_advance_j189 n z.1 z.2) (fun σ' => TC σ' B L b ∧ FrT σ σ')) := by
            intro hk2
            unfold X10_advance_e69
            exact wp_some (end_ok _ _ (fun c j q => by dsimp only; rw [up_ne (by omega), up_ne (by omega)]) (by dsimp only; rw [up_ne (by omega), up_eq rfl rfl]) (by dsimp only; rw [k1, up_eq rfl rfl]) (by rw [k2, ← hk2]) (fun q => by rw [k1] at q; exact absurd q (by decide)))
          unfold X10_advance_l69
          by_cases c1 : b + k = L
          · refine wp_ifT (by rw [f1, c1]; exact Int.le_refl _) (wp_some (Or.inr ⟨_, rfl, done (skp_u (by omega) (by omega) g2 (fun q => absurd q (by omega))).symm⟩))
          · obtain ⟨v1, v2⟩ := hB (b + k) (by omega)
            have f2 : up (up σ 15 3 (b : Int)) 15 2 1 16 (b + k) = B (b + k) := by rw [up_ne (by omega), up_ne (by omega)]; exact h2 _ (by omega)
            refine wp_ifF (by rw [f1, w32i (by omega), w32i (by omega)]; omega) (wp_rdn (by omega) (by omega) (wp_bind ?_))
            rw [f2]
            refine wp_of (isLetter_ok ⟨v1, v2⟩) ?_
            cases hd2 : ltB (B (b + k))
            · exact wp_ifT (by decide) (wp_some (Or.inr ⟨_, rfl, done (skp_u (by omega) (by omega) g2 (fun _ => hd2)).symm⟩))
            · refine wp_ifF (by decide) (wp_lt (wp_some (Or.inl ⟨_, rfl, by omega, by omega, fun i i1 i2 => ?_⟩)))
              by_cases q : i = b + k
              · rw [q]; exact hd2
              · exact g2 i i1 (by omega)
      · obtain ⟨k1, k2⟩ := kd_0 (B := B) (L := L) (b := b) (by omega)
        refine wp_ifF (by rw [q1, w32i (by omega), w32i (by omega)]; omega) (wp_lt (wp_some (end_ok _ _ (fun c j q => by dsimp only; rw [up_ne (by omega), up_ne (by omega)]) (by dsimp only; rw [up_ne (by omega), up_eq rfl rfl]) (by dsimp only; rw [up_eq rfl rfl, k1]) (by rw [k2]) (fun q => by rw [k1] at q; exact absurd q (by decide)))))
    unfold X10_advance_l5
    by_cases c1 : e + k = L
    · refine wp_ifT (by rw [h1, c1]; exact Int.le_refl _) (wp_some (Or.inr ⟨_, rfl, fin ?_⟩))
      rw [hb]
      exact (skp_u (by omega) (by omega) e2 (fun q => absurd q (by omega))).symm
    · obtain ⟨v1, v2⟩ := hB (e + k) (by omega)
      refine wp_ifF (by rw [h1, w32i (by omega), w32i (by omega)]; omega) (wp_rdn (by omega) (by omega) (wp_bind ?_))
      rw [h2 (e + k) (by omega)]
      refine wp_of (isBlank_ok ⟨v1, v2⟩) ?_
      cases hd2 : bkB (B (e + k))
      · refine wp_ifT (by decide) (wp_some (Or.inr ⟨_, rfl, fin ?_⟩))
        rw [hb]
        exact (skp_u (by omega) (by omega) e2 (fun _ => hd2)).symm
      · refine wp_ifF (by decide) (wp_lt (wp_some (Or.inl ⟨_, rfl, by omega, by omega, fun i i1 i2 => ?_⟩)))
        by_cases q : i = e + k
        · rw [q]; exact hd2
        · exact e2 i i1 (by omega)
  obtain ⟨σ', e, h⟩ := key
  exact ⟨σ', e, h⟩
theorem TC.adv {σ : SG} {B : Nat → Int} {L b n : Nat} (h : TC σ B L b) (hT : Txt B L) (hn : 500 < n) : ∃ σ', X10_advance n σ = some σ' ∧ TC σ' B L (nx B L b) ∧ FrT σ σ' := adv_ok hT h.1 h.2.1 h.2.2.2.2.2.1 (te_b h.2.2.1).2.1 hn
