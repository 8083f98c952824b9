/-! ===== the small functions ===== -/
theorem mx32_m {x y : Int} (h : (-2147483648 ≤ x ∧ x < 2147483648) ∧ -2147483648 ≤ y ∧ y < 2147483648) : mx32 x y = max x y := by
  unfold mx32
  rw [w32i h.1, w32i h.2]
  split <;> omega
theorem mn32_m {x y : Int} (h : (-2147483648 ≤ x ∧ x < 2147483648) ∧ -2147483648 ≤ y ∧ y < 2147483648) : mn32 x y = min x y := by
  unfold mn32
  rw [w32i h.1, w32i h.2]
  split <;> omega
theorem ab32_m {x : Int} (h : -2147483648 ≤ x ∧ x < 2147483648) : ab32 x = max x (-x) := by
  unfold ab32
  rw [w32i h]
  split <;> omega
theorem wp_in1 {n : Nat} {a b c : Int} {σ : SG} {Q : Int → Prop} (h : w32 b ≤ w32 a ∧ w32 a ≤ w32 c) (k : Q 1) : wp (X12_in n a b c σ) Q := by
  unfold X12_in
  exact wp_ifF (by omega) (wp_ifF (by omega) (wp_some k))
theorem wp_in0 {n : Nat} {a b c : Int} {σ : SG} {Q : Int → Prop} (h : ¬ (w32 b ≤ w32 a ∧ w32 a ≤ w32 c)) (k : Q 0) : wp (X12_in n a b c σ) Q := by
  unfold X12_in
  by_cases q : w32 a < w32 b
  · exact wp_ifT q (wp_some k)
  · exact wp_ifF q (wp_ifT (by omega) (wp_some k))
theorem wp_th0 {n : Nat} {k : Int} {σ : SG} {Q : Int × SG → Prop} (h : Q (0, σ)) : wp (X12_throwsIf n 0 k σ) Q := by
  unfold X12_throwsIf
  exact wp_ifT w32_0 (wp_some (by rw [wZ_0]; exact h))
theorem wp_th1 {n : Nat} {k : Int} {σ : SG} {Q : Int × SG → Prop} (h : Q (1, up σ 57 0 k)) : wp (X12_throwsIf n 1 k σ) Q := by
  unfold X12_throwsIf
  exact wp_ifF (by decide) (wp_lt (wp_some (by rw [wZ_1]; exact h)))
theorem wp_surfers {n : Nat} {σ : SG} {Q : Int → Prop} (h : Q (σ 60 0)) : wp (X12_surfers n σ) Q := by
  unfold X12_surfers
  exact wp_rdI 0 rfl (by decide) (by decide) (wp_some h)
theorem wp_noS0 {n : Nat} {a : Int} {m : Nat} {σ : SG} {Q : Int × SG → Prop} (hm : σ 60 0 = (m : Int)) (h5 : m ≤ 5) (ha : w32 a = a) (h : 0 ≤ a ∧ a < (m : Int)) (k : Q (0, σ)) : wp (X12_noSurfer n a σ) Q := by
  unfold X12_noSurfer
  refine wp_bind (wp_surfers (wp_bind (wp_in1 ?_ ?_)))
  · rw [hm, ha, w32_0, w32i (by omega)]; omega
  · refine wp_bind (wp_ifF (by decide) (wp_some ?_))
    unfold X12_noSurfer_j20
    exact wp_bnd2 (wp_th0 (wp_some (by rw [wZ_0]; exact k)))
theorem wp_noS1 {n : Nat} {a : Int} {m : Nat} {σ : SG} {Q : Int × SG → Prop} (hm : σ 60 0 = (m : Int)) (h5 : m ≤ 5) (ha : w32 a = a) (h : ¬ (0 ≤ a ∧ a < (m : Int))) (k : Q (1, up σ 57 0 1)) : wp (X12_noSurfer n a σ) Q := by
  unfold X12_noSurfer
  refine wp_bind (wp_surfers (wp_bind (wp_in0 ?_ ?_)))
  · rw [hm, ha, w32_0, w32i (by omega)]; omega
  · refine wp_bind (wp_ifT w32_0 (wp_some ?_))
    unfold X12_noSurfer_j20
    exact wp_bnd2 (wp_th1 (wp_some (by rw [wZ_1]; exact k)))
theorem wp_ofWave {n : Nat} {i e : Int} {σ : SG} {Q : Int → Prop} (w j : Nat) (hi : i = (w : Int)) (he : e = (j : Int)) (hw : w < 20) (hj : j < 5) (h : Q (σ 60 (44 + 5 * w + j))) : wp (X12_ofWave n i e σ) Q := by
  subst hi he
  unfold X12_ofWave
  exact wp_rdI (44 + 5 * w + j) (by omega) (by omega) (by decide) (wp_some h)
theorem wp_fact {n S : Nat} {i e : Int} {σ : SG} {Q : Int → Prop} (w j : Nat) (hi : i = (w : Int)) (he : e = (j : Int)) (hw : w < 20) (hj : j < 5) (h : Q (σ (S + 5) (5 * w + j))) : wp (X6_factOf n S i e σ) Q := by
  subst hi he
  unfold X6_factOf
  have e : ((w : Int) * 5 + (j : Int)) = ((5 * w + j : Nat) : Int) := by omega
  refine wp_lt ?_
  rw [e]
  have e2 : w32 ((5 * w + j : Nat) : Int) = ((5 * w + j : Nat) : Int) := w32i (by omega)
  exact wp_ifF (by rw [e2]; omega) (wp_ifT (by rw [e2]; omega) (wp_rdI (5 * w + j) rfl (by omega) (by decide) (wp_some h)))
theorem wp_ofWave0 {n : Nat} {i e : Int} {σ : SG} {Q : Int → Prop} (w : Nat) (hi : i = (w : Int)) (he : e = 0) (hw : w < 20) (h : Q (σ 60 (44 + 5 * w))) : wp (X12_ofWave n i e σ) Q := wp_ofWave w 0 hi he hw (by decide) h
theorem wp_fact0 {n S : Nat} {i e : Int} {σ : SG} {Q : Int → Prop} (w : Nat) (hi : i = (w : Int)) (he : e = 0) (hw : w < 20) (h : Q (σ (S + 5) (5 * w))) : wp (X6_factOf n S i e σ) Q := wp_fact w 0 hi he hw (by decide) h
/-! the class's guards -/
theorem wp_mS0 {n S m : Nat} {a : Int} {σ : SG} {Q : Nat → Prop} (hU : σ 19 0 = (S : Int)) (hS : S = 1 ∨ S = 20) (hm : σ S 5 = (m : Int)) (h5 : m ≤ 5) (ha : w32 a = a) (h : 0 ≤ a ∧ a < (m : Int)) (k : Q 0) : wp (X11_mustBeSurfer n a σ) Q := by
  unfold X11_mustBeSurfer
  exact wp_ifF (by omega) (wp_ckI S hU (isSea_S hS) (wp_ifT (by rw [ha, hm, w32i (by omega)]; omega) (wp_some k)))
theorem wp_mS1 {n S m : Nat} {a : Int} {σ : SG} {Q : Nat → Prop} (hU : σ 19 0 = (S : Int)) (hS : S = 1 ∨ S = 20) (hm : σ S 5 = (m : Int)) (h5 : m ≤ 5) (ha : w32 a = a) (h : ¬ (0 ≤ a ∧ a < (m : Int))) (k : Q 1) : wp (X11_mustBeSurfer n a σ) Q := by
  unfold X11_mustBeSurfer
  by_cases q : w32 a < 0
  · exact wp_ifT q (wp_some k)
  · exact wp_ifF q (wp_ckI S hU (isSea_S hS) (wp_ifF (by rw [ha, hm, w32i (by omega)]; omega) (wp_some k)))
theorem wp_mW0 {n S m : Nat} {a : Int} {σ : SG} {Q : Nat → Prop} (hU : σ 19 0 = (S : Int)) (hS : S = 1 ∨ S = 20) (hm : σ S 6 = (m : Int)) (h5 : m ≤ 20) (ha : w32 a = a) (h : 0 ≤ a ∧ a < (m : Int)) (k : Q 0) : wp (X11_mustBeWave n a σ) Q := by
  unfold X11_mustBeWave
  exact wp_ifF (by omega) (wp_ckI S hU (isSea_S hS) (wp_ifT (by rw [ha, hm, w32i (by omega)]; omega) (wp_some k)))
theorem wp_mW1 {n S m : Nat} {a : Int} {σ : SG} {Q : Nat → Prop} (hU : σ 19 0 = (S : Int)) (hS : S = 1 ∨ S = 20) (hm : σ S 6 = (m : Int)) (h5 : m ≤ 20) (ha : w32 a = a) (h : ¬ (0 ≤ a ∧ a < (m : Int))) (k : Q 1) : wp (X11_mustBeWave n a σ) Q := by
  unfold X11_mustBeWave
  by_cases q : w32 a < 0
  · exact wp_ifT q (wp_some k)
  · exact wp_ifF q (wp_ckI S hU (isSea_S hS) (wp_ifF (by rw [ha, hm, w32i (by omega)]; omega) (wp_some k)))
theorem wp_mO0 {n : Nat} {a m : Int} {σ : SG} {Q : Nat → Prop} (h : 0 ≤ w32 a ∧ w32 a < w32 m) (k : Q 0) : wp (X11_mustBeOneOf n a m σ) Q := by
  unfold X11_mustBeOneOf
  exact wp_ifF (by omega) (wp_ifT (by omega) (wp_some k))
theorem wp_mO1 {n : Nat} {a m : Int} {σ : SG} {Q : Nat → Prop} (h : ¬ (0 ≤ w32 a ∧ w32 a < w32 m)) (k : Q 3) : wp (X11_mustBeOneOf n a m σ) Q := by
  unfold X11_mustBeOneOf
  by_cases q : w32 a < 0
  · exact wp_ifT q (wp_some k)
  · exact wp_ifF q (wp_ifF (by omega) (wp_some k))
theorem wp_mP0 {n : Nat} {a : Int} {σ : SG} {Q : Nat → Prop} (h : 0 ≤ w32 a ∧ w32 a ≤ 40) (k : Q 0) : wp (X11_mustBePlace n a σ) Q := by
  unfold X11_mustBePlace
  exact wp_ifF (by omega) (wp_ifT (by omega) (wp_some k))
theorem wp_mP1 {n : Nat} {a : Int} {σ : SG} {Q : Nat → Prop} (h : ¬ (0 ≤ w32 a ∧ w32 a ≤ 40)) (k : Q 2) : wp (X11_mustBePlace n a σ) Q := by
  unfold X11_mustBePlace
  by_cases q : w32 a < 0
  · exact wp_ifT q (wp_some k)
  · exact wp_ifF q (wp_ifF (by omega) (wp_some k))
theorem wp_mR0 {n : Nat} {a b : Int} {σ : SG} {Q : Nat → Prop} (h : 1 ≤ w32 a ∧ w32 a ≤ 20 ∧ 0 ≤ w32 b ∧ w32 b ≤ 9) (k : Q 0) : wp (X11_mustBeRide n a b σ) Q := by
  unfold X11_mustBeRide
  exact wp_ifF (by omega) (wp_ifF (by omega) (wp_ifF (by omega) (wp_ifT (by omega) (wp_some k))))
theorem wp_mR1 {n : Nat} {a b : Int} {σ : SG} {Q : Nat → Prop} (h : ¬ (1 ≤ w32 a ∧ w32 a ≤ 20 ∧ 0 ≤ w32 b ∧ w32 b ≤ 9)) (k : Q 2) : wp (X11_mustBeRide n a b σ) Q := by
  unfold X11_mustBeRide
  by_cases q1 : w32 a < 1
  · exact wp_ifT q1 (wp_some k)
  by_cases q2 : 20 < w32 a
  · exact wp_ifF q1 (wp_ifT q2 (wp_some k))
  by_cases q3 : w32 b < 0
  · exact wp_ifF q1 (wp_ifF q2 (wp_ifT q3 (wp_some k)))
  · exact wp_ifF q1 (wp_ifF q2 (wp_ifF q3 (wp_ifF (by omega) (wp_some k))))
