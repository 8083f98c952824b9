/-! ===== THE PICTURE: numbered cells at base + k, a whole number in each slot; values are whole numbers with a kind ===== -/
abbrev AV : Type := Nat × Int
abbrev SG : Type := Nat → Nat → Int
abbrev AS : Type := Nat × SG
/-- launch, base, addresses of the old objects, classes, array classes, the script's length and its ints -/
abbrev GA : Type := Launch × Nat × (Nat → Nat) × va_G × (Nat → ClassId) × Nat × (Nat → Int32)
abbrev gl (Γ : GA) : Launch := Γ.1
abbrev gO (Γ : GA) : Nat := Γ.2.1
abbrev gS (Γ : GA) : Nat → Nat := Γ.2.2.1
abbrev gD (Γ : GA) : va_G := Γ.2.2.2.1
abbrev gC (Γ : GA) : Nat → ClassId := Γ.2.2.2.2.1
abbrev gL (Γ : GA) : Nat := Γ.2.2.2.2.2.1
abbrev gX (Γ : GA) : Nat → Int32 := Γ.2.2.2.2.2.2
abbrev vI (x : Int) : AV := (0, x)
abbrev vL (x : Int) : AV := (1, x)
abbrev vR (k : Nat) : AV := (2, (k : Int))
abbrev vN : AV := (2, -1)
abbrev vO (j : Nat) : AV := (3, (j : Int))
def aV (Γ : GA) (v : AV) : Value := match v.1 with
  | 0 => .int (Int32.ofInt v.2)
  | 1 => .long (Int64.ofInt v.2)
  | 2 => if v.2 < 0 then .null else .ref (gO Γ + v.2.toNat)
  | 4 => .ref v.2.toNat
  | _ => .ref (gS Γ v.2.toNat)
theorem aV_I (Γ : GA) (x : Int) : aV Γ (vI x) = .int (Int32.ofInt x) := rfl
theorem aV_L (Γ : GA) (x : Int) : aV Γ (vL x) = .long (Int64.ofInt x) := rfl
theorem aV_R (Γ : GA) (k : Nat) : aV Γ (vR k) = .ref (gO Γ + k) := by
  show (if (k : Int) < 0 then Value.null else .ref (gO Γ + (k : Int).toNat)) = _
  rw [if_neg (by omega)]
  rfl
theorem aV_N (Γ : GA) : aV Γ vN = .null := rfl
abbrev vA (q : Nat) : AV := (4, (q : Int))
theorem aV_A (Γ : GA) (q : Nat) : aV Γ (vA q) = .ref q := rfl
theorem aV_O (Γ : GA) (j : Nat) : aV Γ (vO j) = .ref (gS Γ j) := rfl
/-! numbers -/
def w32 (x : Int) : Int := (x + 2147483648) % 4294967296 - 2147483648
def w64 (x : Int) : Int := (x + 9223372036854775808) % 18446744073709551616 - 9223372036854775808
theorem w32_id {x : Int} (h1 : -2147483648 ≤ x) (h2 : x < 2147483648) : w32 x = x := by unfold w32; omega
theorem w32_lo (x : Int) : -2147483648 ≤ w32 x := by unfold w32; omega
theorem w32_hi (x : Int) : w32 x < 2147483648 := by unfold w32; omega
theorem w32_w32 (x : Int) : w32 (w32 x) = w32 x := w32_id (w32_lo x) (w32_hi x)
theorem w64_id {x : Int} (h1 : -9223372036854775808 ≤ x) (h2 : x < 9223372036854775808) : w64 x = x := by unfold w64; omega
theorem w32_bmod (x : Int) : x.bmod 4294967296 = w32 x := by
  unfold w32
  rw [Int.bmod_def]
  split <;> omega
theorem w64_bmod (x : Int) : x.bmod 18446744073709551616 = w64 x := by
  unfold w64
  rw [Int.bmod_def]
  split <;> omega
theorem toInt_ofI (x : Int) : (Int32.ofInt x).toInt = w32 x := by
  rw [Int32.toInt_ofInt, ← w32_bmod]
theorem toInt_ofL (x : Int) : (Int64.ofInt x).toInt = w64 x := by
  rw [Int64.toInt_ofInt, ← w64_bmod]
theorem ofI_eq {x y : Int} : Int32.ofInt x = Int32.ofInt y ↔ w32 x = w32 y := by
  rw [← Int32.toInt_inj, toInt_ofI, toInt_ofI]
theorem ofL_eq {x y : Int} : Int64.ofInt x = Int64.ofInt y ↔ w64 x = w64 y := by
  rw [← Int64.toInt_inj, toInt_ofL, toInt_ofL]
theorem ofI_w (x : Int) : Int32.ofInt (w32 x) = Int32.ofInt x := ofI_eq.mpr (w32_w32 x)
theorem ofI_lt {x y : Int} : Int32.ofInt x < Int32.ofInt y ↔ w32 x < w32 y := by
  rw [Int32.lt_iff_toInt_lt, toInt_ofI, toInt_ofI]
theorem ofI_le {x y : Int} : Int32.ofInt x ≤ Int32.ofInt y ↔ w32 x ≤ w32 y := by
  rw [Int32.le_iff_toInt_le, toInt_ofI, toInt_ofI]
theorem ofL_lt {x y : Int} : Int64.ofInt x < Int64.ofInt y ↔ w64 x < w64 y := by
  rw [Int64.lt_iff_toInt_lt, toInt_ofL, toInt_ofL]
theorem ofI_0 : Int32.ofInt 0 = 0 := by first | rfl | decide
theorem ofL_0 : Int64.ofInt 0 = 0 := by first | rfl | decide
theorem w32_0 : w32 0 = 0 := by decide
theorem w64_0 : w64 0 = 0 := by decide
theorem ofI_eq0 {x : Int} : Int32.ofInt x = 0 ↔ w32 x = 0 := by rw [← ofI_0, ofI_eq, w32_0]
theorem ofI_lt0 {x : Int} : Int32.ofInt x < 0 ↔ w32 x < 0 := by rw [← ofI_0, ofI_lt, w32_0]
theorem ofI_le0 {x : Int} : Int32.ofInt x ≤ 0 ↔ w32 x ≤ 0 := by rw [← ofI_0, ofI_le, w32_0]
theorem ofI_gt0 {x : Int} : 0 < Int32.ofInt x ↔ 0 < w32 x := by rw [← ofI_0, ofI_lt, w32_0]
theorem ofI_ge0 {x : Int} : 0 ≤ Int32.ofInt x ↔ 0 ≤ w32 x := by rw [← ofI_0, ofI_le, w32_0]
theorem ofL_eq0 {x : Int} : Int64.ofInt x = 0 ↔ w64 x = 0 := by rw [← ofL_0, ofL_eq, w64_0]
theorem ofI_add (x y : Int) : Int32.ofInt x + Int32.ofInt y = Int32.ofInt (x + y) := by
  rw [← Int32.toInt_inj, Int32.toInt_add, toInt_ofI, toInt_ofI, toInt_ofI, show (2 : Nat) ^ 32 = 4294967296 from rfl, w32_bmod]
  unfold w32; omega
theorem ofI_sub (x y : Int) : Int32.ofInt x - Int32.ofInt y = Int32.ofInt (x - y) := by
  rw [← Int32.toInt_inj, Int32.toInt_sub, toInt_ofI, toInt_ofI, toInt_ofI, show (2 : Nat) ^ 32 = 4294967296 from rfl, w32_bmod]
  unfold w32; omega
theorem ofI_neg (x : Int) : -Int32.ofInt x = Int32.ofInt (-x) := by
  rw [← Int32.toInt_inj, Int32.toInt_neg, toInt_ofI, toInt_ofI, show (2 : Nat) ^ 32 = 4294967296 from rfl, w32_bmod]
  unfold w32; omega
theorem ofI_mul (x y : Int) : Int32.ofInt x * Int32.ofInt y = Int32.ofInt (x * y) := by
  first
    | exact (Int32.ofInt_mul x y).symm
    | (rw [← Int32.toInt_inj, Int32.toInt_mul, toInt_ofI, toInt_ofI, toInt_ofI, ← w32_bmod x, ← w32_bmod y, ← w32_bmod (x * y)]
       simp [Int.bmod_mul_bmod, Int.mul_bmod_bmod])
theorem ofL_add (x y : Int) : Int64.ofInt x + Int64.ofInt y = Int64.ofInt (x + y) := by
  rw [← Int64.toInt_inj, Int64.toInt_add, toInt_ofL, toInt_ofL, toInt_ofL, show (2 : Nat) ^ 64 = 18446744073709551616 from rfl, w64_bmod]
  unfold w64; omega
theorem ofL_sub (x y : Int) : Int64.ofInt x - Int64.ofInt y = Int64.ofInt (x - y) := by
  rw [← Int64.toInt_inj, Int64.toInt_sub, toInt_ofL, toInt_ofL, toInt_ofL, show (2 : Nat) ^ 64 = 18446744073709551616 from rfl, w64_bmod]
  unfold w64; omega
theorem ofL_mul (x y : Int) : Int64.ofInt x * Int64.ofInt y = Int64.ofInt (x * y) := by
  first
    | exact (Int64.ofInt_mul x y).symm
    | (rw [← Int64.toInt_inj, Int64.toInt_mul, toInt_ofL, toInt_ofL, toInt_ofL, ← w64_bmod x, ← w64_bmod y, ← w64_bmod (x * y)]
       simp [Int.bmod_mul_bmod, Int.mul_bmod_bmod])
/-- division, cut towards 0, of ints and of longs -/
def dv32 (x y : Int) : Int := (w32 x).tdiv (w32 y)
def rm32 (x y : Int) : Int := x - dv32 x y * y
def dv64 (x y : Int) : Int := (w64 x).tdiv (w64 y)
theorem ofI_div (x y : Int) : Int32.ofInt x / Int32.ofInt y = Int32.ofInt (dv32 x y) := by
  rw [← Int32.toInt_inj, Int32.toInt_div, toInt_ofI, toInt_ofI, toInt_ofI, show (2 : Nat) ^ 32 = 4294967296 from rfl, w32_bmod]
  rfl
theorem ofL_div (x y : Int) : Int64.ofInt x / Int64.ofInt y = Int64.ofInt (dv64 x y) := by
  rw [← Int64.toInt_inj, Int64.toInt_div, toInt_ofL, toInt_ofL, toInt_ofL, show (2 : Nat) ^ 64 = 18446744073709551616 from rfl, w64_bmod]
  rfl
theorem ofI_l (x : Int) : (Int32.ofInt x).toInt64 = Int64.ofInt (w32 x) := by
  rw [← Int64.toInt_inj, Int32.toInt_toInt64, toInt_ofI, toInt_ofL]
  have h1 := w32_lo x
  have h2 := w32_hi x
  exact (w64_id (by omega) (by omega)).symm
theorem ofL_i (x : Int) : (Int64.ofInt x).toInt32 = Int32.ofInt x := by
  rw [← Int32.toInt_inj, Int64.toInt_toInt32, toInt_ofL, toInt_ofI, show (2 : Nat) ^ 32 = 4294967296 from rfl, w32_bmod]
  unfold w32 w64; omega
/-- bits and shifts, by the machine's own numbers -/
def bAnd (x y : Int) : Int := (Int32.ofInt x &&& Int32.ofInt y).toInt
def bOr (x y : Int) : Int := (Int32.ofInt x ||| Int32.ofInt y).toInt
def bShl (x y : Int) : Int := (Int32.ofInt x <<< (Int32.ofInt y &&& 31)).toInt
def bShr (x y : Int) : Int := (Int32.ofInt x >>> (Int32.ofInt y &&& 31)).toInt
def bUshr (x y : Int) : Int := (((Int32.ofInt x).toUInt32 >>> ((Int32.ofInt y).toUInt32 &&& Int32.toUInt32 31)).toInt32).toInt
def w8 (x : Int) : Int := ((Int32.ofInt x).toInt8.toInt32).toInt
def wZ (x : Int) : Int := (vp_nar .boolean (Int32.ofInt x)).toInt
theorem ofI_toInt (v : Int32) : Int32.ofInt v.toInt = v := by
  rw [← Int32.toInt_inj, toInt_ofI]
  exact w32_id (Int32.le_toInt _) (Int32.toInt_lt _)
def cmpL (x y : Int) : Int := if w64 y < w64 x then 1 else if w64 x = w64 y then 0 else -1
theorem lg_cmp_of (x y : Int) : lg_cmp (Int64.ofInt x) (Int64.ofInt y) = Int32.ofInt (cmpL x y) := by
  unfold lg_cmp cmpL
  by_cases h1 : w64 y < w64 x
  · rw [if_pos h1, if_pos (show Int64.ofInt x > Int64.ofInt y from ofL_lt.mpr h1)]
    rfl
  · rw [if_neg h1, if_neg (show ¬ Int64.ofInt x > Int64.ofInt y from fun q => h1 (ofL_lt.mp q))]
    by_cases h2 : w64 x = w64 y
    · rw [if_pos h2, if_pos (ofL_eq.mpr h2)]
      rfl
    · rw [if_neg h2, if_neg (fun q => h2 (ofL_eq.mp q))]
      rfl
def mx32 (x y : Int) : Int := if w32 x < w32 y then y else x
def mn32 (x y : Int) : Int := if w32 y < w32 x then y else x
def ab32 (x : Int) : Int := if 0 ≤ w32 x then x else -x
def mx64 (x y : Int) : Int := if w64 y < w64 x then x else y
def mn64 (x y : Int) : Int := if w64 x < w64 y then x else y
/-! what the printed functions are made of -/
/-- a name for a value -/
def lt {α β : Type} (x : α) (f : α → Option β) : Option β := f x
/-- an index within a row of n -/
def rdA {β : Type} (n : Int) (i : Int) (f : Nat → Option β) : Option β := if 0 ≤ w32 i ∧ w32 i < n then f (w32 i).toNat else none
/-- a cell of a kind -/
def ckR {β : Type} (p : Nat → Bool) (x : Int) (f : Nat → Option β) : Option β := if 0 ≤ x ∧ p x.toNat = true then f x.toNat else none
/-- a slot's new number -/
def up (σ : SG) (k j : Nat) (v : Int) : SG := fun a b => if a = k ∧ b = j then v else σ a b
theorem up_same (σ : SG) (k j : Nat) (v : Int) : up σ k j v k j = v := if_pos ⟨rfl, rfl⟩
theorem up_else (σ : SG) {k j a b : Nat} (v : Int) (h : ¬ (a = k ∧ b = j)) : up σ k j v a b = σ a b := if_neg h
theorem ob_some {α β : Type} {x : Option α} {f : α → Option β} {r : β} (h : x.bind f = some r) : ∃ y, x = some y ∧ f y = some r := by
  cases x with
  | none => cases h
  | some y => exact ⟨y, rfl, h⟩
theorem lt_iff {α β : Type} (x : α) (f : α → Option β) : lt x f = f x := rfl
theorem rdA_in {β : Type} {n i : Int} {f : Nat → Option β} (h : 0 ≤ w32 i ∧ w32 i < n) : rdA n i f = f (w32 i).toNat := if_pos h
theorem rdA_some {β : Type} {n i : Int} {f : Nat → Option β} {r : β} (h : rdA n i f = some r) : (0 ≤ w32 i ∧ w32 i < n) ∧ f (w32 i).toNat = some r := by
  unfold rdA at h
  by_cases q : 0 ≤ w32 i ∧ w32 i < n
  · rw [if_pos q] at h; exact ⟨q, h⟩
  · rw [if_neg q] at h; cases h
theorem ckR_some {β : Type} {p : Nat → Bool} {x : Int} {f : Nat → Option β} {r : β} (h : ckR p x f = some r) : ∃ k : Nat, x = (k : Int) ∧ p k = true ∧ f k = some r := by
  unfold ckR at h
  by_cases q : 0 ≤ x ∧ p x.toNat = true
  · rw [if_pos q] at h; exact ⟨x.toNat, by omega, q.2, h⟩
  · rw [if_neg q] at h; cases h
theorem clamp_ofI {i : Int} (h : 0 ≤ w32 i) : (Int32.ofInt i).toNatClampNeg = (w32 i).toNat := by
  rw [Int32.toNatClampNeg, toInt_ofI]
theorem in_ofI {i : Int} {n : Nat} (h : 0 ≤ w32 i ∧ w32 i < (n : Int)) : vp_in (Int32.ofInt i) n := by
  rw [vp_in_iff, toInt_ofI]; exact h
