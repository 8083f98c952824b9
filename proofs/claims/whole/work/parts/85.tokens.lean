/-! ===== texts: the class's tokens ===== -/
def b2i (x : Bool) : Int := if x = true then 1 else 0
theorem b2i_t : b2i true = 1 := rfl
theorem b2i_f : b2i false = 0 := rfl
theorem b2i_w (x : Bool) : wZ (b2i x) = b2i x := by cases x <;> decide
def SW (w : List Int) : Prop := 0 < w.length ∧ w.length < 100 ∧ ∀ k, 0 ≤ w.getD k 0 ∧ w.getD k 0 < 128
theorem str_pos : ∀ j, j < strN → 0 < (strB j).length := by decide +kernel
theorem sw {a : Nat} (h : a < 70) : SW (strB a) := ⟨str_pos a h, strB_ok2 a h, fun k => by
  obtain ⟨n, h1, h2⟩ := ch_at (j := a) (i := k) h
  rw [h2]
  omega⟩
/-- the word w stands at b; the sign c; a number of at most dg digits from lo to hi -/
def waB (B : Nat → Int) (L b : Nat) (w : List Int) : Bool := decide (kd B L b = 1 ∧ te B L b - b = w.length ∧ ∀ k, k < w.length → B (b + k) = w.getD k 0)
def sgB (B : Nat → Int) (L b : Nat) (c : Int) : Bool := decide (b < L ∧ B b = c)
def nuB (B : Nat → Int) (L b dg : Nat) (lo hi : Int) : Bool := decide (kd B L b = 2 ∧ te B L b - b ≤ dg ∧ lo ≤ nmv B b (te B L b - b) ∧ nmv B b (te B L b - b) ≤ hi)
def isg (c : Int) : Prop := (0 ≤ c ∧ c < 128) ∧ ¬ (97 ≤ c ∧ c ≤ 122) ∧ ¬ (48 ≤ c ∧ c ≤ 57) ∧ ¬ (c = 9 ∨ c = 10 ∨ c = 32)
theorem dig_b {B : Nat → Int} {L b : Nat} (h : b ≤ L) (hk : kd B L b = 2) : ∀ i, i < te B L b - b → 48 ≤ B (b + i) ∧ B (b + i) ≤ 57 := fun i hi => by
  obtain ⟨e1, e2⟩ := te_b (B := B) h
  rcases kd_c (B := B) h with ⟨q, -⟩ | ⟨q, -⟩ | ⟨-, q1, q2, q3, q4, q5⟩ | ⟨q, -⟩
  · rw [q] at hk; exact absurd hk (by decide)
  · rw [q] at hk; exact absurd hk (by decide)
  · exact dgB_t.mp ((skp_ok (g := dgB) (B := B) h).2.2.1 (b + i) (by omega) (by omega))
  · rw [q] at hk; exact absurd hk (by decide)
theorem TC.isWord {σ : SG} {B : Nat → Int} {L b n a : Nat} (h : TC σ B L b) (hT : Txt B L) (ha : a < 70) (hn : 500 < n) : X10_isWord n a σ = some (b2i (waB B L b (strB a))) := by
  obtain ⟨h1, h2, h3, h4, h5, h6, h7, h8⟩ := h
  obtain ⟨hL, hB⟩ := hT
  obtain ⟨w1, w2, w3⟩ := sw ha
  obtain ⟨t1, t2, t3⟩ := te_b (B := B) h3
  have hk := kd_c (B := B) h3
  refine of_wp ?_
  unfold X10_isWord
  rw [h5, h6, h4]
  by_cases c1 : kd B L b = 1
  · by_cases c2 : te B L b - b = (strB a).length
    · refine wp_ifT (by rw [c1]; rfl) (wp_ifT (by rw [w32i (by omega), w32i (by omega)]; omega) (wp_bind (wp_loop (fun k (z : Int) => z = (k : Int) ∧ ∀ i, i < k → B (b + i) = (strB a).getD i 0) (strB a).length ?_ ⟨rfl, fun i hi => absurd hi (by omega)⟩ (by omega))))
      rintro k z hk' ⟨e1, e2⟩
      subst e1
      unfold X10_isWord_l28
      by_cases d : k = (strB a).length
      · refine wp_ifT (by rw [d]; exact Int.le_refl _) (wp_some (Or.inr ⟨_, rfl, wp_some ?_⟩))
        have : waB B L b (strB a) = true := decide_eq_true ⟨c1, c2, fun i hi => e2 i (by omega)⟩
        rw [this]
        rfl
      · have u := w3 k
        have v := hB (b + k) (by omega)
        refine wp_ifF (by rw [w32i (by omega), w32i (by omega)]; omega) (wp_ifF (by rw [h1, h4, w32i (by omega), w32i (by omega)]; omega) (wp_rdI (b + k) (by rw [h4]; omega) (by omega) (by decide) (wp_rdn (by omega) (by omega) ?_)))
        rw [h2 (b + k) (by omega)]
        by_cases q : B (b + k) = (strB a).getD k 0
        · refine wp_ifT (by rw [q]) (wp_lt (wp_some (Or.inl ⟨_, rfl, by omega, by omega, fun i hi => ?_⟩)))
          by_cases q2 : i = k
          · rw [q2]; exact q
          · exact e2 i (by omega)
        · refine wp_ifF (by rw [w32i (by omega), w32i (by omega)]; exact q) (wp_some (Or.inr ⟨_, rfl, wp_some ?_⟩))
          have : waB B L b (strB a) = false := decide_eq_false (fun q2 => q (q2.2.2 k (by omega)))
          rw [this]
          rfl
    · refine wp_ifT (by rw [c1]; rfl) (wp_ifF (by rw [w32i (by omega), w32i (by omega)]; omega) (wp_some ?_))
      have : waB B L b (strB a) = false := decide_eq_false (fun q2 => c2 q2.2.1)
      rw [this]
      rfl
  · refine wp_ifF (by rw [w32i (by omega)]; exact c1) (wp_some ?_)
    have : waB B L b (strB a) = false := decide_eq_false (fun q2 => c1 q2.1)
    rw [this]
    rfl
theorem TC.isSign {σ : SG} {B : Nat → Int} {L b n : Nat} {c : Int} (h : TC σ B L b) (hT : Txt B L) (hc : isg c) : X10_isSign n c σ = some (b2i (sgB B L b c)) := by
  obtain ⟨h1, h2, h3, h4, h5, h6, h7, h8⟩ := h
  obtain ⟨hL, hB⟩ := hT
  obtain ⟨g1, g2, g3, g4⟩ := hc
  refine of_wp ?_
  unfold X10_isSign
  rw [h5, h1, h4]
  rcases kd_c (B := B) h3 with ⟨q, q1, -⟩ | ⟨q, q1, q2, -⟩ | ⟨q, q1, q2, -⟩ | ⟨q, q1, q2, q3, -⟩
  · have : sgB B L b c = false := decide_eq_false (fun q2 => by omega)
    rw [this]
    exact wp_ifF (by rw [q]; decide) (wp_some rfl)
  · have := ltB_t.mp q2
    have : sgB B L b c = false := decide_eq_false (fun q2 => by omega)
    rw [this]
    exact wp_ifF (by rw [q]; decide) (wp_some rfl)
  · have := dgB_t.mp q2
    have : sgB B L b c = false := decide_eq_false (fun q2 => by omega)
    rw [this]
    exact wp_ifF (by rw [q]; decide) (wp_some rfl)
  · have v := hB b q1
    refine wp_ifT (by rw [q]; rfl) (wp_ifF (by rw [w32i (by omega), w32i (by omega)]; omega) (wp_rdn (by omega) (by omega) ?_))
    rw [h2 b q1]
    by_cases d : B b = c
    · have : sgB B L b c = true := decide_eq_true ⟨q1, d⟩
      rw [this]
      exact wp_ifT (by rw [d]) (wp_some rfl)
    · have : sgB B L b c = false := decide_eq_false (fun q2 => d q2.2)
      rw [this]
      exact wp_ifF (by rw [w32i (by omega), w32i (by omega)]; exact d) (wp_some rfl)
theorem TC.passSign {σ : SG} {B : Nat → Int} {L b n : Nat} {c : Int} (h : TC σ B L b) (hT : Txt B L) (hc : isg c) (hn : 500 < n) : ∃ σ', X10_passSign n c σ = some (b2i (sgB B L b c), σ') ∧ FrT σ σ' ∧ TC σ' B L (if sgB B L b c = true then nx B L b else b) := by
  have hs := h.isSign (n := n) hT hc
  unfold X10_passSign
  cases q : sgB B L b c
  · rw [q] at hs
    exact ⟨σ, of_wp (wp_bind (wp_of hs (wp_ifT rfl (wp_some (by rw [b2i_w]))))), FrT.rf, by rw [if_neg (by decide)]; exact h⟩
  · rw [q] at hs
    obtain ⟨σ', e1, e2, e3⟩ := h.adv (n := n) hT hn
    exact ⟨σ', of_wp (wp_bind (wp_of hs (wp_ifF (by decide) (wp_bind (wp_of e1 (wp_some (by rw [b2i_w]))))))), e3, by rw [if_pos rfl]; exact e2⟩
theorem TC.passWord {σ : SG} {B : Nat → Int} {L b n a : Nat} (h : TC σ B L b) (hT : Txt B L) (ha : a < 70) (hn : 500 < n) : ∃ σ', X10_passWord n a σ = some (b2i (waB B L b (strB a)), σ') ∧ FrT σ σ' ∧ TC σ' B L (if waB B L b (strB a) = true then nx B L b else b) := by
  have hs := h.isWord (n := n) hT ha hn
  unfold X10_passWord
  cases q : waB B L b (strB a)
  · rw [q] at hs
    exact ⟨σ, of_wp (wp_bind (wp_of hs (wp_ifT rfl (wp_some (by rw [b2i_w]))))), FrT.rf, by rw [if_neg (by decide)]; exact h⟩
  · rw [q] at hs
    obtain ⟨σ', e1, e2, e3⟩ := h.adv (n := n) hT hn
    exact ⟨σ', of_wp (wp_bind (wp_of hs (wp_ifF (by decide) (wp_bind (wp_of e1 (wp_some (by rw [b2i_w]))))))), e3, by rw [if_pos rfl]; exact e2⟩
theorem TC.passNumber {σ : SG} {B : Nat → Int} {L b n dg : Nat} {lo hi : Int} (h : TC σ B L b) (hT : Txt B L) (hd : dg ≤ 4) (hr : (0 ≤ lo ∧ lo ≤ 9999) ∧ 0 ≤ hi ∧ hi ≤ 9999) (hn : 500 < n) : ∃ σ', X10_passNumber n lo hi (dg : Int) σ = some (if nuB B L b dg lo hi = true then nmv B b (te B L b - b) else -1, σ') ∧ FrT σ σ' ∧ TC σ' B L (if nuB B L b dg lo hi = true then nx B L b else b) := by
  have h' := h
  obtain ⟨h1, h2, h3, h4, h5, h6, h7, h8⟩ := h'
  have hL := hT.1
  obtain ⟨t1, t2, t3⟩ := te_b (B := B) h3
  have no : nuB B L b dg lo hi = false → wp (X10_passNumber n lo hi (dg : Int) σ) (fun z => z = (-1, σ)) → ∃ σ', X10_passNumber n lo hi (dg : Int) σ = some (if nuB B L b dg lo hi = true then nmv B b (te B L b - b) else -1, σ') ∧ FrT σ σ' ∧ TC σ' B L (if nuB B L b dg lo hi = true then nx B L b else b) := fun q hw => ⟨σ, by rw [q]; exact of_wp hw, FrT.rf, by rw [q]; exact h⟩
  have hk := kd_c (B := B) h3
  by_cases c1 : kd B L b = 2
  · have hdg := dig_b h3 c1
    have v4 := nmv_b4 (B := B) (b := b) (k := min 4 (te B L b - b)) (fun i hi => hdg i (by omega)) (by omega)
    have h75 := h7 c1
    by_cases c2 : te B L b - b ≤ dg
    · rw [show min 4 (te B L b - b) = te B L b - b by omega] at v4 h75
      by_cases c3 : lo ≤ nmv B b (te B L b - b) ∧ nmv B b (te B L b - b) ≤ hi
      · have q : nuB B L b dg lo hi = true := decide_eq_true ⟨c1, c2, c3.1, c3.2⟩
        obtain ⟨σ', e1, e2, e3⟩ := h.adv (n := n) hT hn
        refine ⟨σ', of_wp ?_, e3, by rw [if_pos q]; exact e2⟩
        unfold X10_passNumber
        rw [h5, h6, h4, h75, if_pos q]
        exact wp_ifT (by rw [c1]; rfl) (wp_ifF (by rw [w32i (by omega), w32i (by omega)]; omega) (wp_ifF (by rw [w32i (by omega), w32i (by omega)]; omega) (wp_ifT (by rw [w32i (by omega), w32i (by omega)]; omega) (wp_lt (wp_bind (wp_of e1 (wp_some rfl)))))))
      · have q : nuB B L b dg lo hi = false := decide_eq_false (fun q => c3 ⟨q.2.2.1, q.2.2.2⟩)
        refine no q ?_
        unfold X10_passNumber
        rw [h5, h6, h4, h75]
        refine wp_ifT (by rw [c1]; rfl) (wp_ifF (by rw [w32i (by omega), w32i (by omega)]; omega) ?_)
        by_cases d : nmv B b (te B L b - b) < lo
        · exact wp_ifT (by rw [w32i (by omega), w32i (by omega)]; exact d) (wp_some rfl)
        · exact wp_ifF (by rw [w32i (by omega), w32i (by omega)]; exact d) (wp_ifF (by rw [w32i (by omega), w32i (by omega)]; omega) (wp_some rfl))
    · have q : nuB B L b dg lo hi = false := decide_eq_false (fun q => c2 q.2.1)
      refine no q ?_
      unfold X10_passNumber
      rw [h5, h6, h4]
      exact wp_ifT (by rw [c1]; rfl) (wp_ifT (by rw [w32i (by omega), w32i (by omega)]; omega) (wp_some rfl))
  · have q : nuB B L b dg lo hi = false := decide_eq_false (fun q => c1 q.1)
    refine no q ?_
    unfold X10_passNumber
    rw [h5]
    exact wp_ifF (by rw [w32i (by omega)]; exact c1) (wp_some rfl)
