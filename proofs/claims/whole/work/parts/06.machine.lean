/-! ===== THE MACHINE HELD AGAINST THE PICTURE ===== -/
/-- the words that every method bears -/
def WT : List Cond := lw_tbl.filter goodWord
theorem wt_t {w : Cond} (i : Nat) (h : tables_1[i]? = some w) (g : goodWord w = true) : w ∈ WT := List.mem_filter.mpr ⟨List.mem_append_right _ (List.mem_of_getElem? h), g⟩
theorem wt_in {w : Cond} (h : w ∈ lw_tbl) (g : goodWord w = true) : w ∈ WT := List.mem_filter.mpr ⟨h, g⟩
theorem wt_s {w : Cond} (i : Nat) (h : (k2_sels lw_privs)[i]? = some w) (g : goodWord w = true) : w ∈ WT := List.mem_filter.mpr ⟨List.mem_append_left _ (List.mem_of_getElem? h), g⟩
theorem wt_good {w : Cond} (h : w ∈ WT) : (w.onTables && w.keeps) = true ∨ ∃ ty, w = .arrayClass ty := good_of_word (List.mem_filter.mp h).2
theorem wt_all {ws : List Cond} (h : ∀ w ∈ ws, w ∈ lw_tbl) (g : ws.all goodWord = true) : ∀ w ∈ ws, w ∈ WT := fun w hw => List.mem_filter.mpr ⟨h w hw, List.all_eq_true.mp g w hw⟩
/-- the words that stay by themselves, though they aren't passed on -/
def nW (w : Cond) : Bool := w.onTables && (w.keepsFace || w.keepsH)
def WN : List Cond := tables_1.filter nW
theorem nW_warm {w : Cond} (g : nW w = true) {s U : State} (hW : s.WarmedH U.vm) (h : w.before #[] s = true) : w.before #[] U = true := by
  simp only [nW, Bool.and_eq_true, Bool.or_eq_true] at g
  have h1 : w.before #[] (s.setVm U.vm) = true := by
    rcases g.2 with g2 | g2
    · exact Cond.before_shiftedFace (State.Shifted.of_warmed hW) _ g2 h
    · exact Cond.holds_shiftedH (State.Shifted.of_warmed hW) (fun m x hx => by rw [hW.hostNow]; exact hx) _ _ g2 h
  exact va_tabs g.1 (rfl : (s.setVm U.vm).vm = U.vm) h1
/-- a method: its name, bytes, locals, answer, its table of handlers -/
abbrev MT : Type := MethodName × ByteArray × Nat × Option FieldType × List (Nat × Nat × Nat × Nat)
def aCode (M : MT) : Cond := match M.2.2.2.2 with
  | [] => .code M.1 M.2.1 M.2.2.1 M.2.2.2.1
  | hh => .codeWith M.1 M.2.1 M.2.2.1 M.2.2.2.1 hh
def aWs (M : MT) : List Cond := aCode M :: WT
/-- the cells that may be written -/
def aA (Γ : GA) : Nat → Prop := fun q => gO Γ ≤ q
abbrev gT (Γ : GA) : List (ClassId × FieldType) := [(gC Γ 0, .int), (gC Γ 1, .long), (gC Γ 2, .byte), (gC Γ 3, .boolean), (gC Γ 4, .object RX9)]
def aF (Γ : GA) (n : Nat) (σ : SG) (c k j : Nat) : Value := match (if n = 85 then fx c k j else none) with
  | some t => .ref (gO Γ + t)
  | none => aV Γ (fk c j, σ k j)
def aE (Γ : GA) (n : Nat) (σ : SG) (k : Nat) : va_E := match (ly k).1 with
  | 20 => .inl (gC Γ 0, ((ly k).2, .inl fun i => Int32.ofInt (σ k i)))
  | 21 => .inl (gC Γ 1, ((ly k).2, .inr (.inl fun i => Int64.ofInt (σ k i))))
  | 22 => .inl (gC Γ 2, ((ly k).2, .inl fun i => Int32.ofInt (σ k i)))
  | 23 => .inl (gC Γ 3, ((ly k).2, .inl fun i => Int32.ofInt (σ k i)))
  | 24 => .inl (gC Γ 4, ((ly k).2, .inr (.inr (.inr (.inr fun i => if σ k i < 0 then none else some (gO Γ + (σ k i).toNat))))))
  | c => .inr (c, (List.range (ly k).2).map (aF Γ n σ c k))
def aW (Γ : GA) (S : AS) : va_W := (List.range S.1).map fun k => (gO Γ + k, aE Γ S.1 S.2 k)
theorem aW_at (Γ : GA) (S : AS) {k : Nat} (hk : k < S.1) : (aW Γ S)[k]? = some (gO Γ + k, aE Γ S.1 S.2 k) := by
  simp [aW, hk]
theorem aW_D (Γ : GA) (S : AS) : va_D (aA Γ) (aW Γ S) := by
  have key : ∀ (k : Nat) (q : Nat × va_E), (aW Γ S)[k]? = some q → q.1 = gO Γ + k := by
    intro k q h
    have hk : k < S.1 := by
      have := (List.getElem?_eq_some_iff.mp h).1
      simpa [aW] using this
    rw [aW_at Γ S hk] at h
    cases h
    rfl
  refine ⟨fun i j p q hi hj e => ?_, fun k q h => ?_⟩
  · have h1 := key i p hi
    have h2 := key j q hj
    omega
  · have h1 := key k q h
    show gO Γ ≤ q.1
    omega
/-- a slot's new number, in the machine's words -/
theorem aW_up (Γ : GA) {n k j : Nat} {σ : SG} {v : Int} {e : va_E} (hk : k < n) (he : aE Γ n (up σ k j v) k = e) : (aW Γ (n, σ)).set k (gO Γ + k, e) = aW Γ (n, up σ k j v) := by
  apply List.ext_getElem?
  intro i
  by_cases hi : i < n
  · rw [aW_at Γ (n, up σ k j v) hi]
    by_cases hik : i = k
    · subst hik
      rw [List.getElem?_set_self (by simpa [aW] using hi), ← he]
    · rw [List.getElem?_set_ne (fun q => hik q.symm), aW_at Γ (n, σ) hi]
      have e1 : aE Γ n (up σ k j v) i = aE Γ n σ i := by
        have e2 : up σ k j v i = σ i := funext fun b => up_else σ v (fun q => hik q.1)
        have e3 : ∀ c, aF Γ n (up σ k j v) c i = aF Γ n σ c i := fun c => funext fun b => by simp only [aF, e2]
        simp only [aE, e2, e3]
      show some (gO Γ + i, aE Γ n σ i) = some (gO Γ + i, aE Γ n (up σ k j v) i)
      rw [e1]
  · have h1 : ((aW Γ (n, σ)).set k (gO Γ + k, e)).length ≤ i := by simp [aW]; omega
    have h2 : (aW Γ (n, up σ k j v)).length ≤ i := by simp [aW]; omega
    rw [List.getElem?_eq_none h1, List.getElem?_eq_none h2]
/-- what stands below the base and in the tables -/
def okS (Γ : GA) (U : State) : Prop :=
  (va_X (gS Γ 100) (gL Γ) (gX Γ) U U.heap ∧ gS Γ 100 < gO Γ) ∧
  (∀ (j : Nat) (q : String × Nat × String), strT[j]? = some q → vk_R q.1 q.2.1 q.2.2 (gS Γ j) U) ∧
  (∀ j : Nat, j < strN → va_O "java/lang/String" (gS Γ j) (aA Γ) U U.heap ∧ va_OF "java/lang/String" "coder" "B" (.int 0) (gS Γ j) (aA Γ) U U.heap ∧ va_OF "java/lang/String" "value" "[B" (.ref (gS Γ (200 + j))) (gS Γ j) (aA Γ) U U.heap ∧ va_T .byte (gS Γ (200 + j)) (strB j).length (fun i => .int (Int32.ofInt ((strB j).getD i 0))) (aA Γ) U U.heap) ∧
  (vx_Zq Bundle.tN "UNASSIGNED_STACK" Bundle.steD (aA Γ) U U.heap ∧ vx_Zq Bundle.tN "SUPPRESSED_SENTINEL" Bundle.listD (aA Γ) U U.heap ∧ va_Z "java/lang/String" "COMPACT_STRINGS" "Z" (.int 1) (aA Γ) U U.heap ∧ va_Zq "jdk/internal/util/Preconditions" "SIOOBE_FORMATTER" "Ljava/util/function/BiFunction;" (aA Γ) U U.heap) ∧
  (∀ w ∈ WN, w.before #[] U = true) ∧
  ((∀ q ∈ ncT, va_Nc q.1 q.2 U) ∧ va_AO RX9 U)
theorem okS.go {Γ : GA} {s U : State} (h : okS Γ s) (hW : s.WarmedH U.vm) (hq : ∀ q : Nat, q < s.heap.size → ¬ aA Γ q → U.heap[q]? = s.heap[q]?) : okS Γ U := by
  obtain ⟨⟨h1, h0⟩, h2, h3, ⟨h4, h5, h6, h7⟩, h8, h9⟩ := h
  have hvm := hW.alike
  have hX : va_X (gS Γ 100) (gL Γ) (gX Γ) U U.heap := by
    have hb : gS Γ 100 < s.heap.size := by obtain ⟨scr, q1, -⟩ := h1; exact (Array.getElem?_eq_some_iff.mp q1).1
    exact va_X.moved hvm (h1.kept (hq _ hb (fun q => by have : gO Γ ≤ gS Γ 100 := q; omega)))
  refine ⟨⟨hX, h0⟩, fun j q hj => (h2 j q hj).warm hW, fun j hj => ?_, ⟨vx_Zq.moved hvm (h4.kept hq), vx_Zq.moved hvm (h5.kept hq), va_Z.moved hvm (h6.kept hq), va_Zq.moved hvm (h7.kept hq)⟩, fun w hw => nW_warm (List.mem_filter.mp hw).2 hW (h8 w hw), fun q hq' => va_Nc.moved hvm (h9.1 q hq'), va_AO.moved hvm h9.2⟩
  obtain ⟨g1, g2, g3, g4⟩ := h3 j hj
  exact ⟨va_O.moved hvm (g1.kept hq), va_OF.moved hvm (g2.kept hq), va_OF.moved hvm (g3.kept hq), va_T.moved hvm (g4.kept hq)⟩
/-- the picture at a method's start -/
def aB (Γ : GA) (S : AS) (U : State) : Prop := va_P (gD Γ) vwCl (aW Γ S) U.heap ∧ gO Γ + S.1 ≤ U.heap.size ∧ va_K (gD Γ) vwCl (gT Γ) U ∧ okS Γ U ∧ (S.1 < 85 → U.heap.size = gO Γ + S.1)
def aP (Γ : GA) (S : AS) (H : Heap) : Prop := va_P (gD Γ) vwCl (aW Γ S) H ∧ gO Γ + S.1 ≤ H.size
theorem aB_blind (Γ : GA) (S : AS) (av : List Value) : FrameBlind (va_Pc av (aB Γ S)) := by
  intro a U g mk h
  obtain ⟨h1, h2, h3, h4, h5, h6⟩ := h
  have e1 : (U.calling g mk a).heap = U.heap := rfl
  have e2 : (U.calling g mk a).vm = U.vm := rfl
  exact ⟨h1, by rw [e1]; exact h2, by rw [e1]; exact h3, va_K.moved (u := U) (U := U.calling g mk a) (Vm.Alike.refl U.vm) h4,
    h5.go (U := U.calling g mk a) (by rw [e2]; exact State.WarmedH.refl U) (fun q _ _ => by rw [e1]), by rw [e1]; exact h6⟩
/-- an answer as the machine gives it -/
def rV (ret : Option FieldType) (v : Int) : Option Value := match ret with
  | none => none
  | some .long => some (.long (Int64.ofInt v))
  | some _ => some (.int (Int32.ofInt v))
/-- .. and as it stands on the caller's stack -/
def rS (ret : Option FieldType) (v : Int) : List AV := match ret with
  | none => []
  | some .long => [vL v]
  | some _ => [vI v]
theorem rV_S (Γ : GA) (ret : Option FieldType) (v : Int) : (rV ret v).toList = (rS ret v).map (aV Γ) := by
  match ret with
  | none => rfl
  | some .long => rfl
  | some .int => rfl
  | some .boolean => rfl
  | some .byte => rfl
  | some .char => rfl
  | some .short => rfl
  | some .float => rfl
  | some .double => rfl
  | some (.object _) => rfl
  | some (.array _) => rfl
def exN (k : Nat) : String := match k with
  | 1 => "java/lang/IndexOutOfBoundsException"
  | 2 => "java/lang/IllegalArgumentException"
  | 3 => "java/util/NoSuchElementException"
  | _ => "java/lang/IllegalStateException"
def aQc (Γ : GA) (ret : Option FieldType) (o0 : Nat × Int) (S0 : AS) : Array Value → State → Outcome → State → Prop := fun _ st oc t => (oc = .returned (rV ret o0.2) ∧ o0.1 = 0 ∧ aP Γ S0 t.heap) ∧ va_F (aA Γ) st t
def aXc (Γ : GA) (o0 : Nat × Int) (S0 : AS) : String → State → State → Prop := fun E st t => (0 < o0.1 ∧ exN o0.1 = E ∧ aP Γ S0 t.heap) ∧ va_F (aA Γ) st t
def aR (d mc ms : Nat) : Room := { frames := d, cells := mc, slots := ms, locals := 64 * d }
/-- a method's contract: from these arguments and this picture to this outcome and this picture -/
def AM (Γ : GA) (M : MT) (d mc ms : Nat) (as : List AV) (S : AS) (o0 : Nat × Int) (S0 : AS) : Prop :=
  vx_Met (gl Γ) M.1 (aWs M) (aR d mc ms) (va_Pc (as.map (aV Γ)) (aB Γ S)) (aQc Γ M.2.2.2.1 o0 S0) (aXc Γ o0 S0) mc ms (aA Γ)
/-- the locals, by their places -/
def aLl (Γ : GA) (ls : List (Option AV)) : List (Nat × Value) := (List.range ls.length).filterMap fun i => (ls.getD i none).map fun v => (i, aV Γ v)
theorem aLl_mem {Γ : GA} {ls : List (Option AV)} {q : Nat × Value} : q ∈ aLl Γ ls ↔ ∃ v, ls[q.1]? = some (some v) ∧ q.2 = aV Γ v := by
  obtain ⟨i, w⟩ := q
  simp only [aLl, List.mem_filterMap, List.mem_range]
  constructor
  · rintro ⟨j, hj, hv⟩
    cases hg : ls.getD j none with
    | none => rw [hg] at hv; cases hv
    | some v =>
      rw [hg] at hv
      cases hv
      refine ⟨v, ?_, rfl⟩
      rw [List.getD_eq_getElem?_getD, List.getElem?_eq_getElem hj] at hg
      rw [List.getElem?_eq_getElem hj]
      exact congrArg some hg
  · rintro ⟨v, hv, hw⟩
    have hi : i < ls.length := (List.getElem?_eq_some_iff.mp hv).1
    refine ⟨i, hi, ?_⟩
    rw [List.getD_eq_getElem?_getD, hv]
    show some (i, aV Γ v) = some (i, w)
    rw [hw]
def aL (Γ : GA) (n : Nat) (ls : List (Option AV)) (lr : Array Slot) : Prop := lv_has lr n (aLl Γ ls)
theorem aL_at {Γ : GA} {n : Nat} {ls : List (Option AV)} {lr : Array Slot} (h : aL Γ n ls lr) {i : Nat} {v : AV} (hi : ls[i]? = some (some v)) : lr[i]? = some (.val (aV Γ v)) :=
  h.2.2 (i, aV Γ v) (aLl_mem.mpr ⟨v, hi, rfl⟩)
theorem aL_sub {Γ : GA} {n : Nat} {ls ls' : List (Option AV)} {lr : Array Slot} (h : aL Γ n ls lr) (hs : ∀ (i : Nat) (v : AV), ls'[i]? = some (some v) → ls[i]? = some (some v)) : aL Γ n ls' lr := by
  refine ⟨h.1, h.2.1, fun q hq => ?_⟩
  obtain ⟨v, h1, h2⟩ := aLl_mem.mp hq
  exact h.2.2 q (aLl_mem.mpr ⟨v, hs _ _ h1, h2⟩)
/-- weaker locals, by places -/
def lle : List (Option AV) → List (Option AV) → Prop
  | [], _ => True
  | none :: a, _ :: b => lle a b
  | none :: a, [] => lle a []
  | some _ :: _, [] => False
  | some v :: a, w :: b => w = some v ∧ lle a b
theorem lle_at : ∀ (a b : List (Option AV)), lle a b → ∀ (i : Nat) (v : AV), a[i]? = some (some v) → b[i]? = some (some v)
  | [], b, _, i, v, h => by simp at h
  | none :: a, [], h, i, v, hi => by
    cases i with
    | zero => simp at hi
    | succ i => have := lle_at a [] h i v (by simpa using hi); simp at this
  | none :: a, w :: b, h, i, v, hi => by
    cases i with
    | zero => simp at hi
    | succ i => simpa using lle_at a b h i v (by simpa using hi)
  | some x :: a, [], h, i, v, hi => h.elim
  | some x :: a, w :: b, h, i, v, hi => by
    cases i with
    | zero =>
      rw [List.getElem?_cons_zero] at hi ⊢
      rw [h.1]; exact hi
    | succ i => simpa using lle_at a b h.2 i v (by simpa using hi)
/-- a category 1 value's store -/
def lok (ls : List (Option AV)) (i : Nat) : Bool := match i with
  | 0 => true
  | j + 1 => match ls[j]? with
    | some (some (1, _)) => false
    | _ => true
theorem aV_cat {Γ : GA} {v : AV} (h : (aV Γ v).category = 2) : v.1 = 1 := by
  obtain ⟨k, x⟩ := v
  match k with
  | 0 => cases h
  | 1 => rfl
  | 2 =>
    have h1 : (if x < 0 then Value.null else .ref (gO Γ + x.toNat)).category = 2 := h
    by_cases hx : x < 0
    · rw [if_pos hx] at h1; cases h1
    · rw [if_neg hx] at h1; cases h1
  | 3 => cases h
  | 4 => cases h
  | n + 5 => cases h
theorem aLl_set {Γ : GA} {ls : List (Option AV)} {i : Nat} {v : AV} (hi : i < ls.length) (hc : (aV Γ v).category = 1) (hk : lok ls i = true) : ∀ q ∈ aLl Γ (ls.set i (some v)), q ∈ (i, aV Γ v) :: (aLl Γ ls).filter (fun q => !(q.1 == i) && !(q.1 + 1 == i && q.2.category == 2)) := by
  intro q hq
  obtain ⟨w, h1, h2⟩ := aLl_mem.mp hq
  by_cases hqi : q.1 = i
  · rw [hqi, List.getElem?_set_self hi] at h1
    cases h1
    have : q = (i, aV Γ v) := Prod.ext hqi h2
    rw [this]
    exact List.mem_cons_self
  · rw [List.getElem?_set_ne (Ne.symm hqi)] at h1
    refine List.mem_cons_of_mem _ (List.mem_filter.mpr ⟨aLl_mem.mpr ⟨w, h1, h2⟩, ?_⟩)
    have e1 : (q.1 == i) = false := by simpa using hqi
    have e2 : (q.1 + 1 == i && q.2.category == 2) = false := by
      by_cases hz : q.1 + 1 = i
      · have hn : ¬ q.2.category = 2 := by
          intro hc2
          rw [h2] at hc2
          have h3 := aV_cat hc2
          obtain ⟨w1, w2⟩ := w
          have h3 : w1 = 1 := h3
          subst h3
          rw [← hz] at hk
          simp [lok, h1] at hk
        simp [hn]
      · simp [hz]
    simp [e1, e2]
theorem aLl_setL {Γ : GA} {ls : List (Option AV)} {i : Nat} {v : AV} (hi : i < ls.length) (hk : lok ls i = true) : ∀ q ∈ aLl Γ ((ls.set i (some v)).set (i + 1) none), q ∈ (i, aV Γ v) :: (aLl Γ ls).filter (fun q => !(q.1 == i) && (!(q.1 == i + 1) && !(q.1 + 1 == i && q.2.category == 2))) := by
  intro q hq
  obtain ⟨w, h1, h2⟩ := aLl_mem.mp hq
  by_cases hq1 : q.1 = i + 1
  · rw [hq1] at h1
    by_cases hl : i + 1 < (ls.set i (some v)).length
    · rw [List.getElem?_set_self hl] at h1; cases h1
    · rw [List.getElem?_eq_none (by simp at hl ⊢; omega)] at h1; cases h1
  · rw [List.getElem?_set_ne (Ne.symm hq1)] at h1
    by_cases hqi : q.1 = i
    · rw [hqi, List.getElem?_set_self hi] at h1
      cases h1
      have : q = (i, aV Γ v) := Prod.ext hqi h2
      rw [this]
      exact List.mem_cons_self
    · rw [List.getElem?_set_ne (Ne.symm hqi)] at h1
      refine List.mem_cons_of_mem _ (List.mem_filter.mpr ⟨aLl_mem.mpr ⟨w, h1, h2⟩, ?_⟩)
      have e1 : (q.1 == i) = false := by simpa using hqi
      have e3 : (q.1 == i + 1) = false := by simpa using hq1
      have e2 : (q.1 + 1 == i && q.2.category == 2) = false := by
        by_cases hz : q.1 + 1 = i
        · have hn : ¬ q.2.category = 2 := by
            intro hc2
            rw [h2] at hc2
            have h3 := aV_cat hc2
            obtain ⟨w1, w2⟩ := w
            have h3 : w1 = 1 := h3
            subst h3
            rw [← hz] at hk
            simp [lok, h1] at hk
          simp [hn]
        · simp [hz]
      simp [e1, e2, e3]
/-- what holds all through a method's body -/
def aCx (Γ : GA) (M : MT) (d : Nat) (p : Program) (R : Room) (s : State) (m : MethodId) (args : Array Value) (meth : Method) (c : Code) : Prop :=
  (p.tables.exec = Jvm.exec ∧ c.code = M.2.1 ∧ c.maxLocals = M.2.2.1 ∧ meth.sig.returnType = M.2.2.2.1 ∧ s.vm.findClass M.1.cls = some m.cls ∧ meth.locks = false ∧ c.exceptionTable.toList = tableOf M.2.2.2.2 ∧ (M.1.name = "<init>" → meth.name = "<init>")) ∧
  ((∀ w ∈ WT, w.before args s = true) ∧ va_K (gD Γ) vwCl (gT Γ) s ∧ okS Γ s ∧ gO Γ ≤ s.heap.size ∧ (gl Γ).stackTraces = false) ∧ d ≤ R.frames ∧ 64 * d ≤ R.locals
/-- from here the method comes to this outcome and this picture -/
def AW (Γ : GA) (M : MT) (d : Nat) (o0 : Nat × Int) (S0 : AS) (uc us : Nat) (pc : Nat) (ls : List (Option AV)) (st : List AV) (S : AS) : Prop :=
  ∀ (p : Program) (e : Env) (R : Room) (s : State) (m : MethodId) (args : Array Value) (below : List Frame) (meth : Method) (c : Code) (mc ms : Nat), aCx Γ M d p R s m args meth c →
    ∀ (H : Heap) (locs : List Loc) (cells slots : Nat) (lr : Array Slot), aP Γ S H → va_S (aA Γ) s.heap H locs → (cells + uc ≤ mc ∧ slots + us ≤ ms ∧ mc ≤ R.cells ∧ ms ≤ R.slots ∧ (S.1 < 85 → s.heap.size + cells = gO Γ + S.1)) → aL Γ M.2.2.1 ls lr →
      W p (gl Γ) e R s m args below meth c H locs cells slots (vx_MQ below (aQc Γ M.2.2.2.1 o0 S0) (aXc Γ o0 S0) args s mc ms (aA Γ)) (F0 m pc lr (st.map (aV Γ)))
/-- .. where k is thrown -/
def AX (Γ : GA) (M : MT) (d : Nat) (o0 : Nat × Int) (S0 : AS) (uc us : Nat) (pc : Nat) (ls : List (Option AV)) (k : Nat) (S : AS) : Prop :=
  ∀ (p : Program) (e : Env) (R : Room) (s : State) (m : MethodId) (args : Array Value) (below : List Frame) (meth : Method) (c : Code) (mc ms : Nat), aCx Γ M d p R s m args meth c →
    ∀ (H : Heap) (locs : List Loc) (cells slots : Nat) (lr : Array Slot) (q : Addr) (ce : Cell) (rest : List Value), aP Γ S H → va_S (aA Γ) s.heap H locs → (cells + uc ≤ mc ∧ slots + us ≤ ms ∧ mc ≤ R.cells ∧ ms ≤ R.slots ∧ (S.1 < 85 → s.heap.size + cells = gO Γ + S.1)) → aL Γ M.2.2.1 ls lr →
      H[q]? = some ce → ce.vm = .none → s.vm.findClass (exN k) = some ce.cls →
      vx_W p (gl Γ) e R s m args below meth c H locs cells slots (vx_MQ below (aQc Γ M.2.2.2.1 o0 S0) (aXc Γ o0 S0) args s mc ms (aA Γ)) (F0 m pc lr rest) q
