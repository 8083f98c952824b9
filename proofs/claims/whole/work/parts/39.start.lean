/-! ===== the entry of the law, its steps, its loop (printed by wip/whole/gen/start.py; the definitions up to lw_At are the skeleton's starting text, with the empty table of handlers besides) ===== -/
def R_law : String := "WaveRightLaw"
def lw_P (b : Addr) (xs : List Int32) (args : Array Value) (s : State) : Prop := args = #[.ref b] ∧ s.IntsAt b xs ∧ xs.length ≤ 3072 ∧ (Jvm.Cond.and given_1 narrow_1).before args s = true
def lw_Q (_ : Array Value) (s : State) (o : Outcome) (t : State) : Prop := o = .returned (some (.int 1)) ∧ Framed s o t [] 601024 7293034
def lw_Z (below : List Frame) (a : Array Value) (s : State) : State → Prop := fun t => ∃ o, t.status = .running ∧ Ended t below o ∧ lw_Q a s o t
/-- the law's own end, with 1 on the stack, nothing written that was there before, its room as the claim has it -/
theorem lw_ret {p : Program} {l : Launch} {e : Env} {s : State} {m : MethodId} {below : List Frame} {meth : Method} {c : Code} {b : Nat} (hx : p.tables.exec = Jvm.exec) (hb : c.code = code) (hr : meth.sig.returnType = ret) (hlocks : meth.locks = false) {pc : Nat} {H : Heap} {ls : Array Slot} (hdg : decode code pc = .ok (.ireturn, 1)) : W p l e room_1 s m #[Value.ref b] below meth c H [] 601024 7293034 (lw_Z below #[Value.ref b] s) (F0 m pc ls [.int 1]) := by
  intro T hT X
  obtain ⟨fs, hret, hrun, hended, hW, hframe⟩ := X.leave (v := some (.int 1)) (hlocks := hlocks) (fun h => by rw [hr] at h; cases h)
  have hmeth' : T.vm.method? m = some meth := X.method'
  refine ⟨T.setFrames fs, ?_, .returned (some (.int 1)), hrun, hended, rfl, ⟨_, rfl⟩, hW, hframe⟩
  jvm_step X.here [X.here.top, hx, hb, hdg, hmeth', hr, ret, narrow_b1]
  (try refine ⟨rfl, ?_⟩); (try refine ⟨rfl, ?_⟩)
  first | (intro acts; rw [hret _ acts rfl rfl rfl]) | rw [hret _ _ rfl rfl rfl]
  exact Steps.refl _
/-- what holds at the law's entry: the machine, the code, the tables' words (any of lw_tbl by 'hts w (by decide +kernel)'), the script of L ints xs at the cell b, what the Statement gives of the start (any of its parts by flat_of_before) -/
def lw_At (p : Program) (s : State) (m : MethodId) (meth : Method) (c : Code) (b L : Nat) (xs : Nat → Int32) : Prop :=
  p.tables.exec = Jvm.exec ∧ c.code = code ∧ meth.sig.returnType = ret ∧ c.maxLocals = 8 ∧ s.vm.findClass R_law = some m.cls ∧ (∀ w ∈ lw_tbl, w.before #[Value.ref b] s = true) ∧ va_X b L xs s s.heap ∧ b < s.heap.size ∧ meth.locks = false ∧ c.exceptionTable.toList = [] ∧ (Jvm.Cond.and given_1 narrow_1).before #[Value.ref b] s = true
/-! what the Statement gives of the start -/
def ntT : Cond → Bool
  | .eq (.string _ _) (.string _ _) => false
  | _ => true
def stT (j : Nat) : Term := Term.string (strT.getD j ("", 0, "")).1 (strT.getD j ("", 0, "")).2.1
def stV (j : Nat) : Term := Term.field (stT j) "java/lang/String" "value" "[B"
def stW (j : Nat) : List Cond := [Cond.exactly (stT j) "java/lang/String", Cond.eq (.field (stT j) "java/lang/String" "coder" "B") (.int 0), Cond.arrayOf (stV j) .byte, Cond.eq (.length (stV j)) (.int (Int32.ofNat (strB j).length))] ++ (List.range (strB j).length).map fun k => Cond.eq (.elem (stV j) (.int (Int32.ofNat k))) (.int (Int32.ofInt ((strB j).getD k 0)))
set_option maxRecDepth 100000 in
theorem st_all : ((flatC narrow_1).drop 73).filter ntT = (List.range 70).flatMap stW := by decide +kernel
theorem st_in {j : Nat} (hj : j < 70) {w : Cond} (h : w ∈ stW j) : w ∈ flatC narrow_1 := by
  have h1 : w ∈ (List.range 70).flatMap stW := List.mem_flatMap.mpr ⟨j, List.mem_range.mpr hj, h⟩
  rw [← st_all] at h1
  exact List.mem_of_mem_drop (List.mem_filter.mp h1).1
set_option maxRecDepth 100000 in
theorem nc_all : ∀ q ∈ ncT, Cond.not (.castable q.1 q.2) ∈ flatC narrow_1 := by decide +kernel
set_option maxRecDepth 100000 in
theorem st_ref : ∀ j, j < 70 → Cond.stringRef (strT.getD j ("", 0, "")).1 (strT.getD j ("", 0, "")).2.1 (strT.getD j ("", 0, "")).2.2 ∈ tables_1 := by decide +kernel
theorem st_str {s : State} {args : Array Value} {A : Nat → Prop} (hn : ∀ w ∈ flatC narrow_1, w.before args s = true) (hA : ∀ a : Nat, a < s.heap.size → ¬ A a) : ∃ ad : Nat → Nat × Nat, ∀ j, j < 70 →
    (stT j).eval args s none [] s = some (.ref (ad j).1) ∧ va_O "java/lang/String" (ad j).1 A s s.heap ∧ va_OF "java/lang/String" "coder" "B" (.int 0) (ad j).1 A s s.heap ∧ va_OF "java/lang/String" "value" "[B" (.ref (ad j).2) (ad j).1 A s s.heap ∧ va_T .byte (ad j).2 (strB j).length (fun i => .int (Int32.ofInt ((strB j).getD i 0))) A s s.heap := by
  have h0 : ∀ j : Nat, ∃ q : Nat × Nat, j < 70 → (stT j).eval args s none [] s = some (.ref q.1) ∧ va_O "java/lang/String" q.1 A s s.heap ∧ va_OF "java/lang/String" "coder" "B" (.int 0) q.1 A s s.heap ∧ va_OF "java/lang/String" "value" "[B" (.ref q.2) q.1 A s s.heap ∧ va_T .byte q.2 (strB j).length (fun i => .int (Int32.ofInt ((strB j).getD i 0))) A s s.heap := by
    intro j
    by_cases hj : j < 70
    · have hw : ∀ w ∈ stW j, w.before args s = true := fun w h => hn w (st_in hj h)
      have hel : ∀ k : Nat, k < (strB j).length → (Cond.eq (.elem (stV j) (.int (Int32.ofNat k))) (.int (Int32.ofInt ((strB j).getD k 0)))).before args s = true := fun k hk => hw _ (List.mem_append_right _ (List.mem_map.mpr ⟨k, List.mem_range.mpr hk, rfl⟩))
      have h2 := strB_ok2 j hj
      obtain ⟨a, c, cA, kA, q1, q2, q3, q4, q5, q6, -⟩ := Cond.exactly_spec (args := args) (first := s) (o := none) (s := s) (idx := []) (t := stT j) (cls := "java/lang/String") (hw _ (List.mem_append_left _ (List.mem_of_getElem? (i := 0) rfl)))
      obtain ⟨t, ht, hT⟩ := va_Tof (tm := stV j) (f := fun i => .int (Int32.ofInt ((strB j).getD i 0))) (A := A) (N := (strB j).length) (by omega) (hw _ (List.mem_append_left _ (List.mem_of_getElem? (i := 2) rfl))) (va_eqt (hw _ (List.mem_append_left _ (List.mem_of_getElem? (i := 3) rfl)))) (fun k hk => va_eqt (hel k hk)) hA
      exact ⟨(a, t), fun _ => ⟨q1, ⟨cA, q3, q5, by rw [q6]; exact q2, hA a (Array.getElem?_eq_some_iff.mp q3).1⟩, vk_OFof q1 (va_eqt (hw _ (List.mem_append_left _ (List.mem_of_getElem? (i := 1) rfl)))) hA, vk_OFof q1 ht hA, hT⟩⟩
    · exact ⟨(0, 0), fun h => absurd h hj⟩
  obtain ⟨ad, had⟩ := Classical.axiomOfChoice h0
  exact ⟨ad, had⟩
theorem strT_at {j : Nat} {q : String × Nat × String} (h : strT[j]? = some q) : j < 70 ∧ strT.getD j ("", 0, "") = q := by
  have h1 : strT.length = 70 := by decide
  have h2 := (List.getElem?_eq_some_iff.mp h).1
  exact ⟨by omega, by rw [List.getD_eq_getElem?_getD, h]; rfl⟩
theorem ar_of {s : State} {args : Array Value} {ty : FieldType} (h : (Cond.arrayClass ty).before args s = true) (hn : ∀ C, ty ≠ .object C) : ∃ cA, ArrOfT s cA ty ∧ va_RA s cA ty := by
  obtain ⟨c, k, comp, h1, h2, h3⟩ := Cond.arrayClass_spec h
  refine ⟨c, fun n z => ⟨(fun k h => by cases h), k, h2, comp, h3⟩, ?_⟩
  cases ty with
  | object C => exact absurd rfl (hn C)
  | _ => exact h1
set_option maxHeartbeats 4000000 in
set_option maxRecDepth 100000 in
theorem ent_ok {p : Program} {s : State} {m : MethodId} {meth : Method} {c : Code} (l : Launch) {b L : Nat} {xs : Nat → Int32} (C0 : lw_At p s m meth c b L xs) : ∃ Γ : GA, gl Γ = l ∧ gO Γ = s.heap.size ∧ gS Γ 100 = b ∧ gL Γ = L ∧ gX Γ = xs ∧ va_K (gD Γ) vwCl (gT Γ) s ∧ okS Γ s := by
  obtain ⟨hx, hb, hr, hml, hown, hts, hX, hbl, hlocks, htab, hgv⟩ := id C0
  have hflat := flat_of_before _ hgv
  have hn : ∀ w ∈ flatC narrow_1, w.before #[Value.ref b] s = true := fun w h => hflat w (List.mem_append_right _ h)
  have htw : ∀ w ∈ WT, w.before #[Value.ref b] s = true := fun w h => hts w (List.mem_filter.mp h).1
  have hA : ∀ a : Nat, a < s.heap.size → ¬ (fun q : Nat => s.heap.size ≤ q) a := fun a h q => by have : s.heap.size ≤ a := q; omega
  obtain ⟨ad, had⟩ := st_str (A := fun q : Nat => s.heap.size ≤ q) hn hA
  have hKc : ∀ k : Nat, ∃ z : ClassId × (Nat → Nat), ∀ q : vw_C, vwCl[k]? = some q → u_Kn s q.1 q.2.1 q.2.2 z.1 z.2 := by
    have key : ∀ q ∈ vwCl, ∃ z : ClassId × (Nat → Nat), u_Kn s q.1 q.2.1 q.2.2 z.1 z.2 := by
      refine List.forall_mem_cons.mpr ⟨?_, List.forall_mem_cons.mpr ⟨?_, List.forall_mem_cons.mpr ⟨?_, List.forall_mem_cons.mpr ⟨?_, List.forall_mem_cons.mpr ⟨?_, List.forall_mem_cons.mpr ⟨?_, List.forall_mem_cons.mpr ⟨?_, List.forall_mem_cons.mpr ⟨?_, List.forall_mem_cons.mpr ⟨?_, List.forall_mem_cons.mpr ⟨?_, List.forall_mem_cons.mpr ⟨?_, List.forall_mem_cons.mpr ⟨?_, List.forall_mem_cons.mpr ⟨?_, fun _ h => nomatch h⟩⟩⟩⟩⟩⟩⟩⟩⟩⟩⟩⟩⟩
      · obtain ⟨a, b, h⟩ := u_known (C := RX0) (T := TX0) (N := 10) (n := 10) htw inX0 (htw _ wA_WaveRight_Advice)
        exact ⟨(a, b), h⟩
      · obtain ⟨a, b, h⟩ := u_known (C := RX1) (T := TX1) (N := 16) (n := 16) htw inX1 (htw _ wA_WaveRight_Heat)
        exact ⟨(a, b), h⟩
      · obtain ⟨a, b, h⟩ := u_known (C := RX2) (T := TX2) (N := 12) (n := 12) htw inX2 (htw _ wA_WaveRight_Judge)
        exact ⟨(a, b), h⟩
      · obtain ⟨a, b, h⟩ := u_known (C := RX3) (T := TX3) (N := 2) (n := 2) htw inX3 (htw _ wA_WaveRight_JudgeReader)
        exact ⟨(a, b), h⟩
      · obtain ⟨a, b, h⟩ := u_known (C := RX4) (T := TX4) (N := 5) (n := 5) htw inX4 (htw _ wA_WaveRight_Looking)
        exact ⟨(a, b), h⟩
      · obtain ⟨a, b, h⟩ := u_known (C := RX5) (T := TX5) (N := 3) (n := 3) htw inX5 (htw _ wA_WaveRight_Row)
        exact ⟨(a, b), h⟩
      · obtain ⟨a, b, h⟩ := u_known (C := RX6) (T := TX6) (N := 9) (n := 9) htw inX6 (htw _ wA_WaveRight_Sea)
        exact ⟨(a, b), h⟩
      · obtain ⟨a, b, h⟩ := u_known (C := RX7) (T := TX7) (N := 4) (n := 4) htw inX7 (htw _ wA_WaveRight_SeaReader)
        exact ⟨(a, b), h⟩
      · obtain ⟨a, b, h⟩ := u_known (C := RX8) (T := TX8) (N := 1) (n := 1) htw inX8 (htw _ wA_WaveRight_Standing)
        exact ⟨(a, b), h⟩
      · obtain ⟨a, b, h⟩ := u_known (C := RX9) (T := TX9) (N := 15) (n := 15) htw inX9 (htw _ wA_WaveRight_Swimmer)
        exact ⟨(a, b), h⟩
      · obtain ⟨a, b, h⟩ := u_known (C := RX10) (T := TX10) (N := 6) (n := 6) htw inX10 (htw _ wA_WaveRight_Text)
        exact ⟨(a, b), h⟩
      · obtain ⟨a, b, h⟩ := u_known (C := RX11) (T := TX11) (N := 10) (n := 10) htw inX11 (htw _ wA_WaveRight)
        exact ⟨(a, b), h⟩
      · obtain ⟨a, b, h⟩ := u_known (C := RX12) (T := TX12) (N := 54) (n := 54) htw inX12 (htw _ wA_WaveRightModel)
        exact ⟨(a, b), h⟩
    intro k
    cases hk : vwCl[k]? with
    | none => exact ⟨(0, fun _ => 0), fun q h => by cases h⟩
    | some q =>
      obtain ⟨z, hz⟩ := key q (List.mem_of_getElem? hk)
      exact ⟨z, fun q' h => by cases h; exact hz⟩
  obtain ⟨dz, hdz⟩ := Classical.axiomOfChoice hKc
  obtain ⟨c0, a0, r0⟩ := ar_of (htw _ wY_int) (fun C q => by cases q)
  obtain ⟨c1, a1, r1⟩ := ar_of (htw _ wY_long) (fun C q => by cases q)
  obtain ⟨c2, a2, r2⟩ := ar_of (htw _ wY_byte) (fun C q => by cases q)
  obtain ⟨c3, a3, r3⟩ := ar_of (htw _ wY_boolean) (fun C q => by cases q)
  have hov : (Cond.arrayOver (.object RX9)).before #[Value.ref b] s = true := (hts _ (List.mem_append_right _ (List.mem_of_getElem? (i := 212) (by decide +kernel))))
  obtain ⟨comp, c4, k4, f1, -, f2, f3, f4⟩ := Cond.arrayOver_spec hov
  refine ⟨(l, s.heap.size, (fun j => if j = 100 then b else if j < 100 then (ad j).1 else (ad (j - 200)).2), (fun k => (dz k).1, fun k => (dz k).2), (fun k => match k with | 0 => c0 | 1 => c1 | 2 => c2 | 3 => c3 | _ => c4), L, xs), rfl, rfl, rfl, rfl, rfl, ⟨fun k q hq => hdz k q hq, ?_⟩, ⟨hX, hbl⟩, fun j q hj => ?_, fun j hj => ?_, ⟨?_, ?_, ?_, ?_⟩, fun w hw => ?_, fun q hq => ?_, va_AO.of hov⟩
  · refine fun k q hq => ?_
    match k, hq with
    | 0, hq => cases hq; exact ⟨a0, r0⟩
    | 1, hq => cases hq; exact ⟨a1, r1⟩
    | 2, hq => cases hq; exact ⟨a2, r2⟩
    | 3, hq => cases hq; exact ⟨a3, r3⟩
    | 4, hq => cases hq; exact ⟨fun n z => ⟨(fun k h => by cases h), k4, f2, comp, f3⟩, k4, comp, f2, f3, f1, f4⟩
    | k + 5, hq => simp [gT] at hq
  · obtain ⟨h70, e⟩ := strT_at hj
    have h2 := hts _ (List.mem_append_right _ (st_ref j h70))
    have h3 := (had j h70).1
    unfold stT at h3
    rw [e] at h2 h3
    show vk_R q.1 q.2.1 q.2.2 (if j = 100 then b else if j < 100 then (ad j).1 else (ad (j - 200)).2) s
    rw [if_neg (by omega), if_pos (by omega)]
    exact vk_R.of h2 h3
  · have h70 : j < 70 := hj
    obtain ⟨g0, g1, g2, g3, g4⟩ := had j h70
    show va_O _ (if j = 100 then b else if j < 100 then (ad j).1 else (ad (j - 200)).2) _ _ _ ∧ va_OF _ _ _ _ (if j = 100 then b else if j < 100 then (ad j).1 else (ad (j - 200)).2) _ _ _ ∧ va_OF _ _ _ (.ref (if 200 + j = 100 then b else if 200 + j < 100 then (ad (200 + j)).1 else (ad (200 + j - 200)).2)) (if j = 100 then b else if j < 100 then (ad j).1 else (ad (j - 200)).2) _ _ _ ∧ va_T _ (if 200 + j = 100 then b else if 200 + j < 100 then (ad (200 + j)).1 else (ad (200 + j - 200)).2) _ _ _ _ _
    rw [if_neg (show ¬ j = 100 by omega), if_pos (show j < 100 by omega), if_neg (show ¬ 200 + j = 100 by omega), if_neg (show ¬ 200 + j < 100 by omega), show 200 + j - 200 = j by omega]
    exact ⟨g1, g2, g3, g4⟩
  · exact vx_Zqof (hts _ (List.mem_append_right _ (List.mem_of_getElem? (i := 850) (by decide +kernel)))) (htw _ wN_java_lang_Throwable) (hn _ (List.mem_of_getElem? (i := 7) (by decide +kernel))) hA
  · exact vx_Zqof (hts _ (List.mem_append_right _ (List.mem_of_getElem? (i := 852) (by decide +kernel)))) (htw _ wN_java_lang_Throwable) (hn _ (List.mem_of_getElem? (i := 8) (by decide +kernel))) hA
  · exact va_Zof (hts _ (List.mem_append_right _ (List.mem_of_getElem? (i := 707) (by decide +kernel)))) (htw _ wN_java_lang_String) (va_eqt (hn _ (List.mem_of_getElem? (i := 2) (by decide +kernel)))) hA
  · exact va_Zqof (hts _ (List.mem_append_right _ (List.mem_of_getElem? (i := 723) (by decide +kernel)))) (htw _ wN_jdk_internal_util_Preconditions) (hn _ (List.mem_of_getElem? (i := 3) (by decide +kernel))) hA
  · have h1 := List.mem_filter.mp hw
    have h2 := h1.2
    simp only [nW, Bool.and_eq_true] at h2
    exact va_tabs h2.1 rfl (hts w (List.mem_append_right _ h1.1))
  · exact va_Nc.of (hn _ (nc_all q hq))
def ST_0 (a1 a2 a3 a4 a5 : Int) (σ τ : SG) : Prop := ∃ (n1 n2 : Nat), ∃ (r1 r2 : Int), ∃ (σ1 : SG), (X11_feed n1 a1 a2 a3 a4 a5 σ = some (r1, σ1)) ∧ (X12_feed n2 a1 a2 a3 a4 a5 σ1 = some (r2, τ)) ∧ (w32 r1 = w32 r2)
theorem LS_0 {Γ : GA} (hΓ : (gl Γ).stackTraces = false) {S0 : AS} {uc us : Nat} {i : Int} {σ τ : SG} (hi : inS Γ i) (h : ST_0 (scr Γ i 1) (scr Γ i 2) (scr Γ i 3) (scr Γ i 4) (scr Γ i 5) σ τ) (hop : w32 (bAnd (scr0 Γ i) 31) = 0) (kk : LW Γ S0 uc us 23 (lS (i + 6)) [] τ) : LW Γ S0 (uc + 8) (us + 48) 23 (lS i) [] σ := by
  obtain ⟨n1, n2, r1, r2, σ1, h1, h2, e2⟩ := h
  exact LH_in hi (LH_0 hop (LC_0 hΓ hi h1 h2 e2 (LH_next kk)))
def ST_1 (a1 a2 a3 a4 a5 : Int) (σ τ : SG) : Prop := ∃ (n1 n2 : Nat), ∃ (r1 r2 : Int), ∃ (σ1 : SG), (X11_end n1 a1 σ = some (r1, σ1)) ∧ (X12_end n2 a1 σ1 = some (r2, τ)) ∧ (w32 r1 = w32 r2)
theorem LS_1 {Γ : GA} (hΓ : (gl Γ).stackTraces = false) {S0 : AS} {uc us : Nat} {i : Int} {σ τ : SG} (hi : inS Γ i) (h : ST_1 (scr Γ i 1) (scr Γ i 2) (scr Γ i 3) (scr Γ i 4) (scr Γ i 5) σ τ) (hop : w32 (bAnd (scr0 Γ i) 31) = 1) (kk : LW Γ S0 uc us 23 (lS (i + 6)) [] τ) : LW Γ S0 (uc + 8) (us + 48) 23 (lS i) [] σ := by
  obtain ⟨n1, n2, r1, r2, σ1, h1, h2, e2⟩ := h
  exact LH_in hi (LH_1 hop (LC_1 hΓ hi h1 h2 e2 (LH_next kk)))
def ST_2 (a1 a2 a3 a4 a5 : Int) (σ τ : SG) : Prop := ∃ (n1 n3 n4 : Nat), ∃ (o : Nat × Int), ∃ (r1 r2 : Int), ∃ (σ1 : SG), (X11_sea n1 σ = some (o, σ1)) ∧ (o.1 = 0 ∨ o.1 = 2) ∧ (X12_sea n3 (lxI o σ1) = some (r1, τ)) ∧ (X12_thrown n4 τ = some r2) ∧ (w32 r2 = w32 (cdL [2] o.1)) ∧ (w32 (cdL [2] o.1) = 0 → w32 (cmpL (τ 84 0) (w32 r1)) = 0)
theorem LS_2 {Γ : GA} (hΓ : (gl Γ).stackTraces = false) {S0 : AS} {uc us : Nat} {i : Int} {σ τ : SG} (hi : inS Γ i) (h : ST_2 (scr Γ i 1) (scr Γ i 2) (scr Γ i 3) (scr Γ i 4) (scr Γ i 5) σ τ) (hop : w32 (bAnd (scr0 Γ i) 31) = 2) (kk : LW Γ S0 uc us 23 (lS (i + 6)) [] τ) : LW Γ S0 (uc + 8) (us + 48) 23 (lS i) [] σ := by
  obtain ⟨n1, n3, n4, o, r1, r2, σ1, h1, hk, h3, h4, e4, e9⟩ := h
  exact LH_in hi (LH_2 hop (LC_2 hΓ hi h1 hk h3 h4 e4 e9 (LH_next kk)))
def ST_3 (a1 a2 a3 a4 a5 : Int) (σ τ : SG) : Prop := ∃ (n1 n3 n4 : Nat), ∃ (o : Nat × Int), ∃ (r1 r2 : Int), ∃ (σ1 : SG), (X11_judge n1 σ = some (o, σ1)) ∧ (o.1 = 0 ∨ o.1 = 2) ∧ (X12_judge n3 (lxI o σ1) = some (r1, τ)) ∧ (X12_thrown n4 τ = some r2) ∧ (w32 r2 = w32 (cdL [2] o.1)) ∧ (w32 (cdL [2] o.1) = 0 → w32 (cmpL (τ 84 0) (w32 r1)) = 0)
theorem LS_3 {Γ : GA} (hΓ : (gl Γ).stackTraces = false) {S0 : AS} {uc us : Nat} {i : Int} {σ τ : SG} (hi : inS Γ i) (h : ST_3 (scr Γ i 1) (scr Γ i 2) (scr Γ i 3) (scr Γ i 4) (scr Γ i 5) σ τ) (hop : w32 (bAnd (scr0 Γ i) 31) = 3) (kk : LW Γ S0 uc us 23 (lS (i + 6)) [] τ) : LW Γ S0 (uc + 8) (us + 48) 23 (lS i) [] σ := by
  obtain ⟨n1, n3, n4, o, r1, r2, σ1, h1, hk, h3, h4, e4, e9⟩ := h
  exact LH_in hi (LH_3 hop (LC_3 hΓ hi h1 hk h3 h4 e4 e9 (LH_next kk)))
def ST_4 (a1 a2 a3 a4 a5 : Int) (σ τ : SG) : Prop := ∃ (n1 n2 : Nat), ∃ (r1 r2 : Int), (X11_fault n1 σ = some r1) ∧ (X12_fault n2 σ = some (r2, τ)) ∧ (w32 r1 = w32 r2)
theorem LS_4 {Γ : GA} (hΓ : (gl Γ).stackTraces = false) {S0 : AS} {uc us : Nat} {i : Int} {σ τ : SG} (hi : inS Γ i) (h : ST_4 (scr Γ i 1) (scr Γ i 2) (scr Γ i 3) (scr Γ i 4) (scr Γ i 5) σ τ) (hop : w32 (bAnd (scr0 Γ i) 31) = 4) (kk : LW Γ S0 uc us 23 (lS (i + 6)) [] τ) : LW Γ S0 (uc + 8) (us + 48) 23 (lS i) [] σ := by
  obtain ⟨n1, n2, r1, r2, h1, h2, e2⟩ := h
  exact LH_in hi (LH_4 hop (LC_4 hΓ hi h1 h2 e2 (LH_next kk)))
def ST_5 (a1 a2 a3 a4 a5 : Int) (σ τ : SG) : Prop := ∃ (n1 n3 n4 : Nat), ∃ (o : Nat × Int), ∃ (r1 r2 : Int), ∃ (σ1 : SG), (X11_anew n1 σ = some (o, σ1)) ∧ (o.1 = 0 ∨ o.1 = 4) ∧ (X12_anew n3 (lxI o σ1) = some (r1, τ)) ∧ (X12_thrown n4 τ = some r2) ∧ (w32 r2 = w32 (cdL [4] o.1)) ∧ (w32 (cdL [4] o.1) = 0 → w32 (cmpL (τ 84 0) (w32 r1)) = 0)
theorem LS_5 {Γ : GA} (hΓ : (gl Γ).stackTraces = false) {S0 : AS} {uc us : Nat} {i : Int} {σ τ : SG} (hi : inS Γ i) (h : ST_5 (scr Γ i 1) (scr Γ i 2) (scr Γ i 3) (scr Γ i 4) (scr Γ i 5) σ τ) (hop : w32 (bAnd (scr0 Γ i) 31) = 5) (kk : LW Γ S0 uc us 23 (lS (i + 6)) [] τ) : LW Γ S0 (uc + 8) (us + 48) 23 (lS i) [] σ := by
  obtain ⟨n1, n3, n4, o, r1, r2, σ1, h1, hk, h3, h4, e4, e9⟩ := h
  exact LH_in hi (LH_5 hop (LC_5 hΓ hi h1 hk h3 h4 e4 e9 (LH_next kk)))
def ST_6 (a1 a2 a3 a4 a5 : Int) (σ τ : SG) : Prop := ∃ (n1 n2 : Nat), ∃ (r1 r2 : Int), ∃ (σ1 : SG), (X11_comes n1 σ = some (r1, σ1)) ∧ (X12_comes n2 σ1 = some (r2, τ)) ∧ (w32 r1 = w32 r2)
theorem LS_6 {Γ : GA} (hΓ : (gl Γ).stackTraces = false) {S0 : AS} {uc us : Nat} {i : Int} {σ τ : SG} (hi : inS Γ i) (h : ST_6 (scr Γ i 1) (scr Γ i 2) (scr Γ i 3) (scr Γ i 4) (scr Γ i 5) σ τ) (hop : w32 (bAnd (scr0 Γ i) 31) = 6) (kk : LW Γ S0 uc us 23 (lS (i + 6)) [] τ) : LW Γ S0 (uc + 8) (us + 48) 23 (lS i) [] σ := by
  obtain ⟨n1, n2, r1, r2, σ1, h1, h2, e2⟩ := h
  exact LH_in hi (LH_6 hop (LC_6 hΓ hi h1 h2 e2 (LH_next kk)))
def ST_7 (a1 a2 a3 a4 a5 : Int) (σ τ : SG) : Prop := ∃ (n1 n3 n4 : Nat), ∃ (o : Nat × Int), ∃ (r1 r2 : Int), ∃ (σ1 : SG), (X11_wave n1 a1 a2 σ = some (o, σ1)) ∧ (o.1 = 0 ∨ o.1 = 1 ∨ o.1 = 3) ∧ (X12_wave n3 a1 a2 (lxI o σ1) = some (r1, τ)) ∧ (X12_thrown n4 τ = some r2) ∧ (w32 r2 = w32 (cdL [1, 3] o.1)) ∧ (w32 (cdL [1, 3] o.1) = 0 → w32 (cmpL (τ 84 0) (w32 r1)) = 0)
theorem LS_7 {Γ : GA} (hΓ : (gl Γ).stackTraces = false) {S0 : AS} {uc us : Nat} {i : Int} {σ τ : SG} (hi : inS Γ i) (h : ST_7 (scr Γ i 1) (scr Γ i 2) (scr Γ i 3) (scr Γ i 4) (scr Γ i 5) σ τ) (hop : w32 (bAnd (scr0 Γ i) 31) = 7) (kk : LW Γ S0 uc us 23 (lS (i + 6)) [] τ) : LW Γ S0 (uc + 8) (us + 48) 23 (lS i) [] σ := by
  obtain ⟨n1, n3, n4, o, r1, r2, σ1, h1, hk, h3, h4, e4, e9⟩ := h
  exact LH_in hi (LH_7 hop (LC_7 hΓ hi h1 hk h3 h4 e4 e9 (LH_next kk)))
def ST_8 (a1 a2 a3 a4 a5 : Int) (σ τ : SG) : Prop := ∃ (n1 n3 n4 : Nat), ∃ (o : Nat × Int), ∃ (r1 r2 : Int), ∃ (σ1 : SG), (X11_surfer n1 a1 a2 σ = some (o, σ1)) ∧ (o.1 = 0 ∨ o.1 = 1 ∨ o.1 = 3) ∧ (X12_surfer n3 a1 a2 (lxI o σ1) = some (r1, τ)) ∧ (X12_thrown n4 τ = some r2) ∧ (w32 r2 = w32 (cdL [1, 3] o.1)) ∧ (w32 (cdL [1, 3] o.1) = 0 → w32 (cmpL (τ 84 0) (w32 r1)) = 0)
theorem LS_8 {Γ : GA} (hΓ : (gl Γ).stackTraces = false) {S0 : AS} {uc us : Nat} {i : Int} {σ τ : SG} (hi : inS Γ i) (h : ST_8 (scr Γ i 1) (scr Γ i 2) (scr Γ i 3) (scr Γ i 4) (scr Γ i 5) σ τ) (hop : w32 (bAnd (scr0 Γ i) 31) = 8) (kk : LW Γ S0 uc us 23 (lS (i + 6)) [] τ) : LW Γ S0 (uc + 8) (us + 48) 23 (lS i) [] σ := by
  obtain ⟨n1, n3, n4, o, r1, r2, σ1, h1, hk, h3, h4, e4, e9⟩ := h
  exact LH_in hi (LH_8 hop (LC_8 hΓ hi h1 hk h3 h4 e4 e9 (LH_next kk)))
def ST_9 (a1 a2 a3 a4 a5 : Int) (σ τ : SG) : Prop := ∃ (n1 n3 n4 : Nat), ∃ (o : Nat × Int), ∃ (r1 r2 : Int), ∃ (σ1 : SG), (X11_name n1 a1 a2 σ = some (o, σ1)) ∧ (o.1 = 0 ∨ o.1 = 1) ∧ (X12_name n3 a1 a2 (lxI o σ1) = some (r1, τ)) ∧ (X12_thrown n4 τ = some r2) ∧ (w32 r2 = w32 (cdL [1] o.1)) ∧ (w32 (cdL [1] o.1) = 0 → w32 (cmpL (τ 84 0) (w32 r1)) = 0)
theorem LS_9 {Γ : GA} (hΓ : (gl Γ).stackTraces = false) {S0 : AS} {uc us : Nat} {i : Int} {σ τ : SG} (hi : inS Γ i) (h : ST_9 (scr Γ i 1) (scr Γ i 2) (scr Γ i 3) (scr Γ i 4) (scr Γ i 5) σ τ) (hop : w32 (bAnd (scr0 Γ i) 31) = 9) (kk : LW Γ S0 uc us 23 (lS (i + 6)) [] τ) : LW Γ S0 (uc + 8) (us + 48) 23 (lS i) [] σ := by
  obtain ⟨n1, n3, n4, o, r1, r2, σ1, h1, hk, h3, h4, e4, e9⟩ := h
  exact LH_in hi (LH_9 hop (LC_9 hΓ hi h1 hk h3 h4 e4 e9 (LH_next kk)))
def ST_10 (a1 a2 a3 a4 a5 : Int) (σ τ : SG) : Prop := ∃ (n1 n3 n4 : Nat), ∃ (o : Nat × Int), ∃ (r1 r2 : Int), ∃ (σ1 : SG), (X11_goal n1 a1 a2 σ = some (o, σ1)) ∧ (o.1 = 0 ∨ o.1 = 1 ∨ o.1 = 2 ∨ o.1 = 4) ∧ (X12_goal n3 a1 a2 (lxI o σ1) = some (r1, τ)) ∧ (X12_thrown n4 τ = some r2) ∧ (w32 r2 = w32 (cdL [1, 2, 4] o.1)) ∧ (w32 (cdL [1, 2, 4] o.1) = 0 → w32 (cmpL (τ 84 0) (w32 r1)) = 0)
theorem LS_10 {Γ : GA} (hΓ : (gl Γ).stackTraces = false) {S0 : AS} {uc us : Nat} {i : Int} {σ τ : SG} (hi : inS Γ i) (h : ST_10 (scr Γ i 1) (scr Γ i 2) (scr Γ i 3) (scr Γ i 4) (scr Γ i 5) σ τ) (hop : w32 (bAnd (scr0 Γ i) 31) = 10) (kk : LW Γ S0 uc us 23 (lS (i + 6)) [] τ) : LW Γ S0 (uc + 8) (us + 48) 23 (lS i) [] σ := by
  obtain ⟨n1, n3, n4, o, r1, r2, σ1, h1, hk, h3, h4, e4, e9⟩ := h
  exact LH_in hi (LH_10 hop (LC_10 hΓ hi h1 hk h3 h4 e4 e9 (LH_next kk)))
def ST_11 (a1 a2 a3 a4 a5 : Int) (σ τ : SG) : Prop := ∃ (n1 n2 : Nat), ∃ (r1 r2 : Int), (X11_row n1 a1 σ = some r1) ∧ (X12_row n2 a1 σ = some (r2, τ)) ∧ (w32 r1 = w32 r2)
theorem LS_11 {Γ : GA} (hΓ : (gl Γ).stackTraces = false) {S0 : AS} {uc us : Nat} {i : Int} {σ τ : SG} (hi : inS Γ i) (h : ST_11 (scr Γ i 1) (scr Γ i 2) (scr Γ i 3) (scr Γ i 4) (scr Γ i 5) σ τ) (hop : w32 (bAnd (scr0 Γ i) 31) = 11) (kk : LW Γ S0 uc us 23 (lS (i + 6)) [] τ) : LW Γ S0 (uc + 8) (us + 48) 23 (lS i) [] σ := by
  obtain ⟨n1, n2, r1, r2, h1, h2, e2⟩ := h
  exact LH_in hi (LH_11 hop (LC_11 hΓ hi h1 h2 e2 (LH_next kk)))
def ST_12 (a1 a2 a3 a4 a5 : Int) (σ τ : SG) : Prop := ∃ (n1 n3 n4 : Nat), ∃ (o : Nat × Int), ∃ (r1 r2 : Int), ∃ (σ1 : SG), (X11_take n1 a1 a2 a3 a4 σ = some (o, σ1)) ∧ (o.1 = 0 ∨ o.1 = 1 ∨ o.1 = 2 ∨ o.1 = 4) ∧ (X12_take n3 a1 a2 a3 a4 (lxI o σ1) = some (r1, τ)) ∧ (X12_thrown n4 τ = some r2) ∧ (w32 r2 = w32 (cdL [1, 2, 4] o.1)) ∧ (w32 (cdL [1, 2, 4] o.1) = 0 → w32 (cmpL (τ 84 0) (w32 r1)) = 0)
theorem LS_12 {Γ : GA} (hΓ : (gl Γ).stackTraces = false) {S0 : AS} {uc us : Nat} {i : Int} {σ τ : SG} (hi : inS Γ i) (h : ST_12 (scr Γ i 1) (scr Γ i 2) (scr Γ i 3) (scr Γ i 4) (scr Γ i 5) σ τ) (hop : w32 (bAnd (scr0 Γ i) 31) = 12) (kk : LW Γ S0 uc us 23 (lS (i + 6)) [] τ) : LW Γ S0 (uc + 8) (us + 48) 23 (lS i) [] σ := by
  obtain ⟨n1, n3, n4, o, r1, r2, σ1, h1, hk, h3, h4, e4, e9⟩ := h
  exact LH_in hi (LH_12 hop (LC_12 hΓ hi h1 hk h3 h4 e4 e9 (LH_next kk)))
def ST_13 (a1 a2 a3 a4 a5 : Int) (σ τ : SG) : Prop := ∃ (n1 n3 n4 : Nat), ∃ (o : Nat × Int), ∃ (r1 r2 : Int), ∃ (σ1 : SG), (X11_right n1 a1 a2 σ = some (o, σ1)) ∧ (o.1 = 0 ∨ o.1 = 1 ∨ o.1 = 2 ∨ o.1 = 4) ∧ (X12_right n3 a1 a2 (lxI o σ1) = some (r1, τ)) ∧ (X12_thrown n4 τ = some r2) ∧ (w32 r2 = w32 (cdL [1, 2, 4] o.1)) ∧ (w32 (cdL [1, 2, 4] o.1) = 0 → w32 (cmpL (τ 84 0) (w32 r1)) = 0)
theorem LS_13 {Γ : GA} (hΓ : (gl Γ).stackTraces = false) {S0 : AS} {uc us : Nat} {i : Int} {σ τ : SG} (hi : inS Γ i) (h : ST_13 (scr Γ i 1) (scr Γ i 2) (scr Γ i 3) (scr Γ i 4) (scr Γ i 5) σ τ) (hop : w32 (bAnd (scr0 Γ i) 31) = 13) (kk : LW Γ S0 uc us 23 (lS (i + 6)) [] τ) : LW Γ S0 (uc + 8) (us + 48) 23 (lS i) [] σ := by
  obtain ⟨n1, n3, n4, o, r1, r2, σ1, h1, hk, h3, h4, e4, e9⟩ := h
  exact LH_in hi (LH_13 hop (LC_13 hΓ hi h1 hk h3 h4 e4 e9 (LH_next kk)))
def ST_14 (a1 a2 a3 a4 a5 : Int) (σ τ : SG) : Prop := ∃ (n1 n3 n4 : Nat), ∃ (o : Nat × Int), ∃ (r1 r2 : Int), ∃ (σ1 : SG), (X11_hinders n1 a1 σ = some (o, σ1)) ∧ (o.1 = 0 ∨ o.1 = 1) ∧ (X12_hinders n3 a1 (lxI o σ1) = some (r1, τ)) ∧ (X12_thrown n4 τ = some r2) ∧ (w32 r2 = w32 (cdL [1] o.1)) ∧ (w32 (cdL [1] o.1) = 0 → w32 (cmpL (τ 84 0) (w32 r1)) = 0)
theorem LS_14 {Γ : GA} (hΓ : (gl Γ).stackTraces = false) {S0 : AS} {uc us : Nat} {i : Int} {σ τ : SG} (hi : inS Γ i) (h : ST_14 (scr Γ i 1) (scr Γ i 2) (scr Γ i 3) (scr Γ i 4) (scr Γ i 5) σ τ) (hop : w32 (bAnd (scr0 Γ i) 31) = 14) (kk : LW Γ S0 uc us 23 (lS (i + 6)) [] τ) : LW Γ S0 (uc + 8) (us + 48) 23 (lS i) [] σ := by
  obtain ⟨n1, n3, n4, o, r1, r2, σ1, h1, hk, h3, h4, e4, e9⟩ := h
  exact LH_in hi (LH_14 hop (LC_14 hΓ hi h1 hk h3 h4 e4 e9 (LH_next kk)))
def ST_15 (a1 a2 a3 a4 a5 : Int) (σ τ : SG) : Prop := ∃ (n1 n3 n4 : Nat), ∃ (o : Nat × Int), ∃ (r1 r2 : Int), ∃ (σ1 : SG), (X11_ride n1 a1 a2 a3 σ = some (o, σ1)) ∧ (o.1 = 0 ∨ o.1 = 1 ∨ o.1 = 3) ∧ (X12_ride n3 a1 a2 a3 (lxI o σ1) = some (r1, τ)) ∧ (X12_thrown n4 τ = some r2) ∧ (w32 r2 = w32 (cdL [1, 3] o.1)) ∧ (w32 (cdL [1, 3] o.1) = 0 → w32 (cmpL (τ 84 0) (w32 r1)) = 0)
theorem LS_15 {Γ : GA} (hΓ : (gl Γ).stackTraces = false) {S0 : AS} {uc us : Nat} {i : Int} {σ τ : SG} (hi : inS Γ i) (h : ST_15 (scr Γ i 1) (scr Γ i 2) (scr Γ i 3) (scr Γ i 4) (scr Γ i 5) σ τ) (hop : w32 (bAnd (scr0 Γ i) 31) = 15) (kk : LW Γ S0 uc us 23 (lS (i + 6)) [] τ) : LW Γ S0 (uc + 8) (us + 48) 23 (lS i) [] σ := by
  obtain ⟨n1, n3, n4, o, r1, r2, σ1, h1, hk, h3, h4, e4, e9⟩ := h
  exact LH_in hi (LH_15 hop (LC_15 hΓ hi h1 hk h3 h4 e4 e9 (LH_next kk)))
def ST_16 (a1 a2 a3 a4 a5 : Int) (σ τ : SG) : Prop := ∃ (n1 n3 n4 : Nat), ∃ (o : Nat × Int), ∃ (r1 r2 : Int), ∃ (σ1 : SG), (X11_would n1 a1 a2 a3 a4 a5 σ = some (o, σ1)) ∧ (o.1 = 0 ∨ o.1 = 1 ∨ o.1 = 2) ∧ (X12_would n3 a1 a2 a3 a4 a5 (lxI o σ1) = some (r1, τ)) ∧ (X12_thrown n4 τ = some r2) ∧ (w32 r2 = w32 (cdL [1, 2] o.1)) ∧ (w32 (cdL [1, 2] o.1) = 0 → w32 (cmpL (τ 84 0) (w32 r1)) = 0)
theorem LS_16 {Γ : GA} (hΓ : (gl Γ).stackTraces = false) {S0 : AS} {uc us : Nat} {i : Int} {σ τ : SG} (hi : inS Γ i) (h : ST_16 (scr Γ i 1) (scr Γ i 2) (scr Γ i 3) (scr Γ i 4) (scr Γ i 5) σ τ) (hop : w32 (bAnd (scr0 Γ i) 31) = 16) (kk : LW Γ S0 uc us 23 (lS (i + 6)) [] τ) : LW Γ S0 (uc + 8) (us + 48) 23 (lS i) [] σ := by
  obtain ⟨n1, n3, n4, o, r1, r2, σ1, h1, hk, h3, h4, e4, e9⟩ := h
  exact LH_in hi (LH_16 hop (LC_16 hΓ hi h1 hk h3 h4 e4 e9 (LH_next kk)))
def ST_17 (a1 a2 a3 a4 a5 : Int) (σ τ : SG) : Prop := ∃ (n1 n3 n4 : Nat), ∃ (o : Nat × Int), ∃ (r1 r2 : Int), ∃ (σ1 : SG), (X11_ranked n1 a1 σ = some (o, σ1)) ∧ (o.1 = 0 ∨ o.1 = 3) ∧ (X12_ranked n3 a1 (lxI o σ1) = some (r1, τ)) ∧ (X12_thrown n4 τ = some r2) ∧ (w32 r2 = w32 (cdL [3] o.1)) ∧ (w32 (cdL [3] o.1) = 0 → w32 (cmpL (τ 84 0) (w32 r1)) = 0)
theorem LS_17 {Γ : GA} (hΓ : (gl Γ).stackTraces = false) {S0 : AS} {uc us : Nat} {i : Int} {σ τ : SG} (hi : inS Γ i) (h : ST_17 (scr Γ i 1) (scr Γ i 2) (scr Γ i 3) (scr Γ i 4) (scr Γ i 5) σ τ) (hop : w32 (bAnd (scr0 Γ i) 31) = 17) (kk : LW Γ S0 uc us 23 (lS (i + 6)) [] τ) : LW Γ S0 (uc + 8) (us + 48) 23 (lS i) [] σ := by
  obtain ⟨n1, n3, n4, o, r1, r2, σ1, h1, hk, h3, h4, e4, e9⟩ := h
  exact LH_in hi (LH_17 hop (LC_17 hΓ hi h1 hk h3 h4 e4 e9 (LH_next kk)))
def ST_18 (a1 a2 a3 a4 a5 : Int) (σ τ : SG) : Prop := ∃ (n1 n3 n4 : Nat), ∃ (o : Nat × Int), ∃ (r1 r2 : Int), ∃ (σ1 : SG), (X11_need n1 a1 σ = some (o, σ1)) ∧ (o.1 = 0 ∨ o.1 = 1) ∧ (X12_need n3 a1 (lxI o σ1) = some (r1, τ)) ∧ (X12_thrown n4 τ = some r2) ∧ (w32 r2 = w32 (cdL [1] o.1)) ∧ (w32 (cdL [1] o.1) = 0 → w32 (cmpL (τ 84 0) (w32 r1)) = 0)
theorem LS_18 {Γ : GA} (hΓ : (gl Γ).stackTraces = false) {S0 : AS} {uc us : Nat} {i : Int} {σ τ : SG} (hi : inS Γ i) (h : ST_18 (scr Γ i 1) (scr Γ i 2) (scr Γ i 3) (scr Γ i 4) (scr Γ i 5) σ τ) (hop : w32 (bAnd (scr0 Γ i) 31) = 18) (kk : LW Γ S0 uc us 23 (lS (i + 6)) [] τ) : LW Γ S0 (uc + 8) (us + 48) 23 (lS i) [] σ := by
  obtain ⟨n1, n3, n4, o, r1, r2, σ1, h1, hk, h3, h4, e4, e9⟩ := h
  exact LH_in hi (LH_18 hop (LC_18 hΓ hi h1 hk h3 h4 e4 e9 (LH_next kk)))
def ST_19 (a1 a2 a3 a4 a5 : Int) (σ τ : SG) : Prop := ∃ (n1 n3 n4 : Nat), ∃ (o : Nat × Int), ∃ (r1 r2 : Int), ∃ (σ1 : SG), (X11_best n1 a1 a2 σ = some (o, σ1)) ∧ (o.1 = 0 ∨ o.1 = 1 ∨ o.1 = 3 ∨ o.1 = 4) ∧ (X12_best n3 a1 a2 (lxI o σ1) = some (r1, τ)) ∧ (X12_thrown n4 τ = some r2) ∧ (w32 r2 = w32 (cdL [1, 3, 4] o.1)) ∧ (w32 (cdL [1, 3, 4] o.1) = 0 → w32 (cmpL (τ 84 0) (w32 r1)) = 0)
theorem LS_19 {Γ : GA} (hΓ : (gl Γ).stackTraces = false) {S0 : AS} {uc us : Nat} {i : Int} {σ τ : SG} (hi : inS Γ i) (h : ST_19 (scr Γ i 1) (scr Γ i 2) (scr Γ i 3) (scr Γ i 4) (scr Γ i 5) σ τ) (hop : w32 (bAnd (scr0 Γ i) 31) = 19) (kk : LW Γ S0 uc us 23 (lS (i + 6)) [] τ) : LW Γ S0 (uc + 8) (us + 48) 23 (lS i) [] σ := by
  obtain ⟨n1, n3, n4, o, r1, r2, σ1, h1, hk, h3, h4, e4, e9⟩ := h
  exact LH_in hi (LH_19 hop (LC_19 hΓ hi h1 hk h3 h4 e4 e9 (LH_next kk)))
def ST_20 (a1 a2 a3 a4 a5 : Int) (σ τ : SG) : Prop := ∃ (n1 n3 n4 : Nat), ∃ (o : Nat × Int), ∃ (r1 r2 : Int), ∃ (σ1 : SG), (X11_plan n1 a1 a2 σ = some (o, σ1)) ∧ (o.1 = 0 ∨ o.1 = 1 ∨ o.1 = 3 ∨ o.1 = 4) ∧ (X12_plan n3 a1 a2 (lxI o σ1) = some (r1, τ)) ∧ (X12_thrown n4 τ = some r2) ∧ (w32 r2 = w32 (cdL [1, 3, 4] o.1)) ∧ (w32 (cdL [1, 3, 4] o.1) = 0 → w32 (cmpL (τ 84 0) (w32 r1)) = 0)
theorem LS_20 {Γ : GA} (hΓ : (gl Γ).stackTraces = false) {S0 : AS} {uc us : Nat} {i : Int} {σ τ : SG} (hi : inS Γ i) (h : ST_20 (scr Γ i 1) (scr Γ i 2) (scr Γ i 3) (scr Γ i 4) (scr Γ i 5) σ τ) (hop : w32 (bAnd (scr0 Γ i) 31) = 20) (kk : LW Γ S0 uc us 23 (lS (i + 6)) [] τ) : LW Γ S0 (uc + 8) (us + 48) 23 (lS i) [] σ := by
  obtain ⟨n1, n3, n4, o, r1, r2, σ1, h1, hk, h3, h4, e4, e9⟩ := h
  exact LH_in hi (LH_20 hop (LC_20 hΓ hi h1 hk h3 h4 e4 e9 (LH_next kk)))
def ST_21 (a1 a2 a3 a4 a5 : Int) (σ τ : SG) : Prop := ∃ (n1 n2 : Nat), ∃ (r1 r2 : Int), (X11_seen n1 a1 σ = some r1) ∧ (X12_seen n2 a1 σ = some (r2, τ)) ∧ (w32 r1 = w32 r2)
theorem LS_21 {Γ : GA} (hΓ : (gl Γ).stackTraces = false) {S0 : AS} {uc us : Nat} {i : Int} {σ τ : SG} (hi : inS Γ i) (h : ST_21 (scr Γ i 1) (scr Γ i 2) (scr Γ i 3) (scr Γ i 4) (scr Γ i 5) σ τ) (hop : w32 (bAnd (scr0 Γ i) 31) = 21) (kk : LW Γ S0 uc us 23 (lS (i + 6)) [] τ) : LW Γ S0 (uc + 8) (us + 48) 23 (lS i) [] σ := by
  obtain ⟨n1, n2, r1, r2, h1, h2, e2⟩ := h
  exact LH_in hi (LH_21 hop (LC_21 hΓ hi h1 h2 e2 (LH_next kk)))
def ST_22 (a1 a2 a3 a4 a5 : Int) (σ τ : SG) : Prop := ∃ (n1 n3 n4 : Nat), ∃ (o : Nat × Int), ∃ (r1 r2 : Int), ∃ (σ1 : SG), (X11_worth n1 a1 a2 a3 σ = some (o, σ1)) ∧ (o.1 = 0 ∨ o.1 = 1 ∨ o.1 = 2 ∨ o.1 = 4) ∧ (X12_worth n3 a1 a2 a3 (lxL o σ1) = some (r1, τ)) ∧ (X12_thrown n4 τ = some r2) ∧ (w32 r2 = w32 (cdL [1, 2, 4] o.1)) ∧ (w32 (cdL [1, 2, 4] o.1) = 0 → w32 (cmpL (τ 84 0) r1) = 0)
theorem LS_22 {Γ : GA} (hΓ : (gl Γ).stackTraces = false) {S0 : AS} {uc us : Nat} {i : Int} {σ τ : SG} (hi : inS Γ i) (h : ST_22 (scr Γ i 1) (scr Γ i 2) (scr Γ i 3) (scr Γ i 4) (scr Γ i 5) σ τ) (hop : w32 (bAnd (scr0 Γ i) 31) = 22) (kk : LW Γ S0 uc us 23 (lS (i + 6)) [] τ) : LW Γ S0 (uc + 8) (us + 48) 23 (lS i) [] σ := by
  obtain ⟨n1, n3, n4, o, r1, r2, σ1, h1, hk, h3, h4, e4, e9⟩ := h
  exact LH_in hi (LH_22 hop (LC_22 hΓ hi h1 hk h3 h4 e4 e9 (LH_next kk)))
def ST_23 (a1 a2 a3 a4 a5 : Int) (σ τ : SG) : Prop := ∃ (n1 n3 n4 : Nat), ∃ (o : Nat × Int), ∃ (r1 r2 : Int), ∃ (σ1 : SG), (X11_least n1 a1 a2 a3 σ = some (o, σ1)) ∧ (o.1 = 0 ∨ o.1 = 1 ∨ o.1 = 2 ∨ o.1 = 4) ∧ (X12_least n3 a1 a2 a3 (lxI o σ1) = some (r1, τ)) ∧ (X12_thrown n4 τ = some r2) ∧ (w32 r2 = w32 (cdL [1, 2, 4] o.1)) ∧ (w32 (cdL [1, 2, 4] o.1) = 0 → w32 (cmpL (τ 84 0) (w32 r1)) = 0)
theorem LS_23 {Γ : GA} (hΓ : (gl Γ).stackTraces = false) {S0 : AS} {uc us : Nat} {i : Int} {σ τ : SG} (hi : inS Γ i) (h : ST_23 (scr Γ i 1) (scr Γ i 2) (scr Γ i 3) (scr Γ i 4) (scr Γ i 5) σ τ) (hop : w32 (bAnd (scr0 Γ i) 31) = 23) (kk : LW Γ S0 uc us 23 (lS (i + 6)) [] τ) : LW Γ S0 (uc + 8) (us + 48) 23 (lS i) [] σ := by
  obtain ⟨n1, n3, n4, o, r1, r2, σ1, h1, hk, h3, h4, e4, e9⟩ := h
  exact LH_in hi (LH_23 hop (LC_23 hΓ hi h1 hk h3 h4 e4 e9 (LH_next kk)))
def ST_24 (a1 a2 a3 a4 a5 : Int) (σ τ : SG) : Prop := ∃ (n1 n3 n4 : Nat), ∃ (o : Nat × Int), ∃ (r1 r2 : Int), ∃ (σ1 : SG), (X11_took n1 a1 a2 σ = some (o, σ1)) ∧ (o.1 = 0 ∨ o.1 = 1 ∨ o.1 = 3) ∧ (X12_took n3 a1 a2 (lxI o σ1) = some (r1, τ)) ∧ (X12_thrown n4 τ = some r2) ∧ (w32 r2 = w32 (cdL [1, 3] o.1)) ∧ (w32 (cdL [1, 3] o.1) = 0 → w32 (cmpL (τ 84 0) (w32 r1)) = 0)
theorem LS_24 {Γ : GA} (hΓ : (gl Γ).stackTraces = false) {S0 : AS} {uc us : Nat} {i : Int} {σ τ : SG} (hi : inS Γ i) (h : ST_24 (scr Γ i 1) (scr Γ i 2) (scr Γ i 3) (scr Γ i 4) (scr Γ i 5) σ τ) (hop : w32 (bAnd (scr0 Γ i) 31) = 24) (kk : LW Γ S0 uc us 23 (lS (i + 6)) [] τ) : LW Γ S0 (uc + 8) (us + 48) 23 (lS i) [] σ := by
  obtain ⟨n1, n3, n4, o, r1, r2, σ1, h1, hk, h3, h4, e4, e9⟩ := h
  exact LH_in hi (LH_24 hop (LC_24 hΓ hi h1 hk h3 h4 e4 e9 (LH_next kk)))
def ST_25 (a1 a2 a3 a4 a5 : Int) (σ τ : SG) : Prop := ∃ (n1 n3 n4 : Nat), ∃ (o : Nat × Int), ∃ (r1 r2 : Int), ∃ (σ1 : SG), (X11_swim n1 a1 a2 σ = some (o, σ1)) ∧ (o.1 = 0 ∨ o.1 = 1 ∨ o.1 = 2 ∨ o.1 = 4) ∧ (X12_swim n3 a1 a2 (lxI o σ1) = some (r1, τ)) ∧ (X12_thrown n4 τ = some r2) ∧ (w32 r2 = w32 (cdL [1, 2, 4] o.1)) ∧ (w32 (cdL [1, 2, 4] o.1) = 0 → w32 (cmpL (τ 84 0) (w32 r1)) = 0)
theorem LS_25 {Γ : GA} (hΓ : (gl Γ).stackTraces = false) {S0 : AS} {uc us : Nat} {i : Int} {σ τ : SG} (hi : inS Γ i) (h : ST_25 (scr Γ i 1) (scr Γ i 2) (scr Γ i 3) (scr Γ i 4) (scr Γ i 5) σ τ) (hop : w32 (bAnd (scr0 Γ i) 31) = 25) (kk : LW Γ S0 uc us 23 (lS (i + 6)) [] τ) : LW Γ S0 (uc + 8) (us + 48) 23 (lS i) [] σ := by
  obtain ⟨n1, n3, n4, o, r1, r2, σ1, h1, hk, h3, h4, e4, e9⟩ := h
  exact LH_in hi (LH_25 hop (LC_25 hΓ hi h1 hk h3 h4 e4 e9 (LH_next kk)))
def ST_26 (a1 a2 a3 a4 a5 : Int) (σ τ : SG) : Prop := ∃ (n1 n3 n4 : Nat), ∃ (o : Nat × Int), ∃ (r1 r2 : Int), ∃ (σ1 : SG), (X11_reach n1 a1 a2 a3 σ = some (o, σ1)) ∧ (o.1 = 0 ∨ o.1 = 1 ∨ o.1 = 3 ∨ o.1 = 4) ∧ (X12_reach n3 a1 a2 a3 (lxI o σ1) = some (r1, τ)) ∧ (X12_thrown n4 τ = some r2) ∧ (w32 r2 = w32 (cdL [1, 3, 4] o.1)) ∧ (w32 (cdL [1, 3, 4] o.1) = 0 → w32 (cmpL (τ 84 0) (w32 r1)) = 0)
theorem LS_26 {Γ : GA} (hΓ : (gl Γ).stackTraces = false) {S0 : AS} {uc us : Nat} {i : Int} {σ τ : SG} (hi : inS Γ i) (h : ST_26 (scr Γ i 1) (scr Γ i 2) (scr Γ i 3) (scr Γ i 4) (scr Γ i 5) σ τ) (hop : w32 (bAnd (scr0 Γ i) 31) = 26) (kk : LW Γ S0 uc us 23 (lS (i + 6)) [] τ) : LW Γ S0 (uc + 8) (us + 48) 23 (lS i) [] σ := by
  obtain ⟨n1, n3, n4, o, r1, r2, σ1, h1, hk, h3, h4, e4, e9⟩ := h
  exact LH_in hi (LH_26 hop (LC_26 hΓ hi h1 hk h3 h4 e4 e9 (LH_next kk)))
def ST_27 (a1 a2 a3 a4 a5 : Int) (σ τ : SG) : Prop := ∃ (n1 n2 : Nat), ∃ (r1 r2 : Int), (X11_count n1 a1 σ = some r1) ∧ (X12_count n2 a1 σ = some (r2, τ)) ∧ (w32 r1 = w32 r2)
theorem LS_27 {Γ : GA} (hΓ : (gl Γ).stackTraces = false) {S0 : AS} {uc us : Nat} {i : Int} {σ τ : SG} (hi : inS Γ i) (h : ST_27 (scr Γ i 1) (scr Γ i 2) (scr Γ i 3) (scr Γ i 4) (scr Γ i 5) σ τ) (hop : w32 (bAnd (scr0 Γ i) 31) = 27) (kk : LW Γ S0 uc us 23 (lS (i + 6)) [] τ) : LW Γ S0 (uc + 8) (us + 48) 23 (lS i) [] σ := by
  obtain ⟨n1, n2, r1, r2, h1, h2, e2⟩ := h
  exact LH_in hi (LH_27 hop (LC_27 hΓ hi h1 h2 e2 (LH_next kk)))
def ST (c : Nat) (a1 a2 a3 a4 a5 : Int) (σ τ : SG) : Prop := match c with
  | 0 => ST_0 a1 a2 a3 a4 a5 σ τ
  | 1 => ST_1 a1 a2 a3 a4 a5 σ τ
  | 2 => ST_2 a1 a2 a3 a4 a5 σ τ
  | 3 => ST_3 a1 a2 a3 a4 a5 σ τ
  | 4 => ST_4 a1 a2 a3 a4 a5 σ τ
  | 5 => ST_5 a1 a2 a3 a4 a5 σ τ
  | 6 => ST_6 a1 a2 a3 a4 a5 σ τ
  | 7 => ST_7 a1 a2 a3 a4 a5 σ τ
  | 8 => ST_8 a1 a2 a3 a4 a5 σ τ
  | 9 => ST_9 a1 a2 a3 a4 a5 σ τ
  | 10 => ST_10 a1 a2 a3 a4 a5 σ τ
  | 11 => ST_11 a1 a2 a3 a4 a5 σ τ
  | 12 => ST_12 a1 a2 a3 a4 a5 σ τ
  | 13 => ST_13 a1 a2 a3 a4 a5 σ τ
  | 14 => ST_14 a1 a2 a3 a4 a5 σ τ
  | 15 => ST_15 a1 a2 a3 a4 a5 σ τ
  | 16 => ST_16 a1 a2 a3 a4 a5 σ τ
  | 17 => ST_17 a1 a2 a3 a4 a5 σ τ
  | 18 => ST_18 a1 a2 a3 a4 a5 σ τ
  | 19 => ST_19 a1 a2 a3 a4 a5 σ τ
  | 20 => ST_20 a1 a2 a3 a4 a5 σ τ
  | 21 => ST_21 a1 a2 a3 a4 a5 σ τ
  | 22 => ST_22 a1 a2 a3 a4 a5 σ τ
  | 23 => ST_23 a1 a2 a3 a4 a5 σ τ
  | 24 => ST_24 a1 a2 a3 a4 a5 σ τ
  | 25 => ST_25 a1 a2 a3 a4 a5 σ τ
  | 26 => ST_26 a1 a2 a3 a4 a5 σ τ
  | 27 => ST_27 a1 a2 a3 a4 a5 σ τ
  | _ => False
def rng (a : Int) : Prop := -2147483648 ≤ a ∧ a < 2147483648
/-- the pure side: a relation that holds behind the makings and that every call keeps, with equal answers -/
def Good (Inv : SG → Prop) : Prop := Inv sg0 ∧ ∀ σ, Inv σ → ∀ c : Nat, c < 28 → ∀ a1 a2 a3 a4 a5 : Int, rng a1 → rng a2 → rng a3 → rng a4 → rng a5 → ∃ τ, Inv τ ∧ ST c a1 a2 a3 a4 a5 σ τ
theorem scr_r {Γ : GA} {i j : Int} : rng (scr Γ i j) := ⟨Int32.le_toInt _, Int32.toInt_lt _⟩
theorem AW.uc {Γ : GA} {M : MT} {d : Nat} {o0 : Nat × Int} {S0 S : AS} {uc us uc' us' pc : Nat} {ls : List (Option AV)} {st : List AV} (h1 : uc' ≤ uc) (h2 : us' ≤ us) (k : AW Γ M d o0 S0 uc' us' pc ls st S) : AW Γ M d o0 S0 uc us pc ls st S := by
  intro p e R s m args below meth c9 mc ms C9 H locs cells slots lr hP hS hc hL
  exact k p e R s m args below meth c9 mc ms C9 H locs cells slots lr hP hS ⟨by omega, by omega, hc.2.2⟩ hL
theorem law_loop {Γ : GA} (hΓ : (gl Γ).stackTraces = false) (hL : gL Γ ≤ 3072) {Inv : SG → Prop} (hG : Good Inv) : ∀ (k : Nat) (i : Int) (σ : SG), Inv σ → 0 ≤ i → i + 6 * k < 50000 → (gL Γ : Int) < i + 6 * k + 6 → ∃ S0, LW Γ S0 (8 * k) (48 * k) 23 (lS i) [] σ := by
  intro k
  induction k with
  | zero => exact fun i σ _ h0 h1 h2 => ⟨(85, σ), LH_out h0 (by omega) (by omega) hL⟩
  | succ k ih =>
    intro i σ hI h0 h1 h2
    by_cases hi : i + 6 ≤ (gL Γ : Int)
    · have hin : inS Γ i := ⟨h0, hi, hL⟩
      have key : ∀ c : Nat, c < 28 → ∃ τ, ST c (scr Γ i 1) (scr Γ i 2) (scr Γ i 3) (scr Γ i 4) (scr Γ i 5) σ τ ∧ ∃ S0, LW Γ S0 (8 * k) (48 * k) 23 (lS (i + 6)) [] τ := by
        intro c hc
        obtain ⟨τ, hτ, hs⟩ := hG.2 σ hI c hc _ _ _ _ _ (scr_r (i := i) (j := 1)) (scr_r (i := i) (j := 2)) (scr_r (i := i) (j := 3)) (scr_r (i := i) (j := 4)) (scr_r (i := i) (j := 5))
        exact ⟨τ, hs, ih (i + 6) τ hτ (by omega) (by omega) (by omega)⟩
      have hv : (w32 (bAnd (scr0 Γ i) 31) < 0 ∨ 27 < w32 (bAnd (scr0 Γ i) 31)) ∨ w32 (bAnd (scr0 Γ i) 31) = 0 ∨ w32 (bAnd (scr0 Γ i) 31) = 1 ∨ w32 (bAnd (scr0 Γ i) 31) = 2 ∨ w32 (bAnd (scr0 Γ i) 31) = 3 ∨ w32 (bAnd (scr0 Γ i) 31) = 4 ∨ w32 (bAnd (scr0 Γ i) 31) = 5 ∨ w32 (bAnd (scr0 Γ i) 31) = 6 ∨ w32 (bAnd (scr0 Γ i) 31) = 7 ∨ w32 (bAnd (scr0 Γ i) 31) = 8 ∨ w32 (bAnd (scr0 Γ i) 31) = 9 ∨ w32 (bAnd (scr0 Γ i) 31) = 10 ∨ w32 (bAnd (scr0 Γ i) 31) = 11 ∨ w32 (bAnd (scr0 Γ i) 31) = 12 ∨ w32 (bAnd (scr0 Γ i) 31) = 13 ∨ w32 (bAnd (scr0 Γ i) 31) = 14 ∨ w32 (bAnd (scr0 Γ i) 31) = 15 ∨ w32 (bAnd (scr0 Γ i) 31) = 16 ∨ w32 (bAnd (scr0 Γ i) 31) = 17 ∨ w32 (bAnd (scr0 Γ i) 31) = 18 ∨ w32 (bAnd (scr0 Γ i) 31) = 19 ∨ w32 (bAnd (scr0 Γ i) 31) = 20 ∨ w32 (bAnd (scr0 Γ i) 31) = 21 ∨ w32 (bAnd (scr0 Γ i) 31) = 22 ∨ w32 (bAnd (scr0 Γ i) 31) = 23 ∨ w32 (bAnd (scr0 Γ i) 31) = 24 ∨ w32 (bAnd (scr0 Γ i) 31) = 25 ∨ w32 (bAnd (scr0 Γ i) 31) = 26 ∨ w32 (bAnd (scr0 Γ i) 31) = 27 := by omega
      rcases hv with hv | hv | hv | hv | hv | hv | hv | hv | hv | hv | hv | hv | hv | hv | hv | hv | hv | hv | hv | hv | hv | hv | hv | hv | hv | hv | hv | hv | hv
      · obtain ⟨S0, kk⟩ := ih (i + 6) σ hI (by omega) (by omega) (by omega)
        exact ⟨S0, LH_in hin (LH_def hv (LH_next (AW.uc (by omega) (by omega) kk)))⟩
      · obtain ⟨τ, hs, S0, kk⟩ := key 0 (by decide)
        exact ⟨S0, LS_0 hΓ hin hs hv kk⟩
      · obtain ⟨τ, hs, S0, kk⟩ := key 1 (by decide)
        exact ⟨S0, LS_1 hΓ hin hs hv kk⟩
      · obtain ⟨τ, hs, S0, kk⟩ := key 2 (by decide)
        exact ⟨S0, LS_2 hΓ hin hs hv kk⟩
      · obtain ⟨τ, hs, S0, kk⟩ := key 3 (by decide)
        exact ⟨S0, LS_3 hΓ hin hs hv kk⟩
      · obtain ⟨τ, hs, S0, kk⟩ := key 4 (by decide)
        exact ⟨S0, LS_4 hΓ hin hs hv kk⟩
      · obtain ⟨τ, hs, S0, kk⟩ := key 5 (by decide)
        exact ⟨S0, LS_5 hΓ hin hs hv kk⟩
      · obtain ⟨τ, hs, S0, kk⟩ := key 6 (by decide)
        exact ⟨S0, LS_6 hΓ hin hs hv kk⟩
      · obtain ⟨τ, hs, S0, kk⟩ := key 7 (by decide)
        exact ⟨S0, LS_7 hΓ hin hs hv kk⟩
      · obtain ⟨τ, hs, S0, kk⟩ := key 8 (by decide)
        exact ⟨S0, LS_8 hΓ hin hs hv kk⟩
      · obtain ⟨τ, hs, S0, kk⟩ := key 9 (by decide)
        exact ⟨S0, LS_9 hΓ hin hs hv kk⟩
      · obtain ⟨τ, hs, S0, kk⟩ := key 10 (by decide)
        exact ⟨S0, LS_10 hΓ hin hs hv kk⟩
      · obtain ⟨τ, hs, S0, kk⟩ := key 11 (by decide)
        exact ⟨S0, LS_11 hΓ hin hs hv kk⟩
      · obtain ⟨τ, hs, S0, kk⟩ := key 12 (by decide)
        exact ⟨S0, LS_12 hΓ hin hs hv kk⟩
      · obtain ⟨τ, hs, S0, kk⟩ := key 13 (by decide)
        exact ⟨S0, LS_13 hΓ hin hs hv kk⟩
      · obtain ⟨τ, hs, S0, kk⟩ := key 14 (by decide)
        exact ⟨S0, LS_14 hΓ hin hs hv kk⟩
      · obtain ⟨τ, hs, S0, kk⟩ := key 15 (by decide)
        exact ⟨S0, LS_15 hΓ hin hs hv kk⟩
      · obtain ⟨τ, hs, S0, kk⟩ := key 16 (by decide)
        exact ⟨S0, LS_16 hΓ hin hs hv kk⟩
      · obtain ⟨τ, hs, S0, kk⟩ := key 17 (by decide)
        exact ⟨S0, LS_17 hΓ hin hs hv kk⟩
      · obtain ⟨τ, hs, S0, kk⟩ := key 18 (by decide)
        exact ⟨S0, LS_18 hΓ hin hs hv kk⟩
      · obtain ⟨τ, hs, S0, kk⟩ := key 19 (by decide)
        exact ⟨S0, LS_19 hΓ hin hs hv kk⟩
      · obtain ⟨τ, hs, S0, kk⟩ := key 20 (by decide)
        exact ⟨S0, LS_20 hΓ hin hs hv kk⟩
      · obtain ⟨τ, hs, S0, kk⟩ := key 21 (by decide)
        exact ⟨S0, LS_21 hΓ hin hs hv kk⟩
      · obtain ⟨τ, hs, S0, kk⟩ := key 22 (by decide)
        exact ⟨S0, LS_22 hΓ hin hs hv kk⟩
      · obtain ⟨τ, hs, S0, kk⟩ := key 23 (by decide)
        exact ⟨S0, LS_23 hΓ hin hs hv kk⟩
      · obtain ⟨τ, hs, S0, kk⟩ := key 24 (by decide)
        exact ⟨S0, LS_24 hΓ hin hs hv kk⟩
      · obtain ⟨τ, hs, S0, kk⟩ := key 25 (by decide)
        exact ⟨S0, LS_25 hΓ hin hs hv kk⟩
      · obtain ⟨τ, hs, S0, kk⟩ := key 26 (by decide)
        exact ⟨S0, LS_26 hΓ hin hs hv kk⟩
      · obtain ⟨τ, hs, S0, kk⟩ := key 27 (by decide)
        exact ⟨S0, LS_27 hΓ hin hs hv kk⟩
    · exact ⟨(85, σ), LH_out h0 (by omega) hi hL⟩
def L_law_m : List (Nat × Instr × Nat) := [(0, .new 8, 3), (3, .dup, 1), (4, .invokespecial 87, 3), (7, .astore_n 1, 1), (8, .new 88, 3), (11, .dup, 1), (12, .invokespecial 90, 3), (15, .astore_n 2, 1), (16, .iconst 1, 1), (17, .newarray .long, 2), (19, .astore_n 3, 1), (20, .iconst 0, 1), (21, .istore 4, 2)]
theorem D_law_m : dOK code L_law_m = true := by decide +kernel
set_option maxRecDepth 100000 in
set_option maxHeartbeats 4000000 in
theorem law_make {Γ : GA} (hΓ : (gl Γ).stackTraces = false) {S0 : AS} {uc us : Nat} (kk : LW Γ S0 uc us 23 (lS 0) [] sg0) : AW Γ mL_law 1312 (0, 1) S0 (uc + 85) (us + 7728) 0 [some (vO 100)] [] (0, sg_0) := by
  refine AW.to (ls'' := [some (vO 100), none, none, none, none, none, none, none]) ?_ (lle_s rfl (lle_e (lle_e (lle_e (lle_e (lle_e (lle_e (lle_e lle_z))))))))
  refine AW.new (n := 3) (uc' := uc + 84) (us' := us + 7718) fX11_0 rfl (le45 rfl) wL_L_8 wA_WaveRight wN_WaveRight (dv_11 Γ) (dat D_law_m 0 rfl) rfl (by omega) (by omega) ?_
  change AW _ _ _ _ _ _ _ _ _ [vR 0] (1, sg_1)
  refine AW.dup (n := 4) (dat D_law_m 1 rfl) rfl (cR _) ?_
  refine AW.callI (k := 0) (c := 0) (N := 0) (T := TX0) (n := 7) (as := []) (st := [vR 0]) (uc' := uc + 28) (us' := us + 3840) (A_X11_init_0 hΓ) wM_L_87 wI_X11_init wN_WaveRight wC_X11_init rfl rfl rfl ft_X11_init (le45 rfl) (le45 rfl) (le45 rfl) (dat D_law_m 2 rfl) rfl (fun _ => ⟨by decide, rfl⟩) (by omega) (by omega) (fun _ => ?_) nlt0
  change AW _ _ _ _ _ _ _ _ _ [vR 0] (57, sg_141)
  refine AW.astore_n (n := 8) (ls' := [some (vO 100), some (vR 0), none, none, none, none, none, none]) (dat D_law_m 3 rfl) rfl (le45 rfl) (le45 rfl) rfl rfl ?_
  refine AW.new (n := 11) (uc' := uc + 27) (us' := us + 3786) fX12_0 rfl (le45 rfl) wL_L_88 wA_WaveRightModel wN_WaveRightModel (dv_12 Γ) (dat D_law_m 4 rfl) rfl (by omega) (by omega) ?_
  change AW _ _ _ _ _ _ _ _ _ [vR 57] (58, sg_142)
  refine AW.dup (n := 12) (dat D_law_m 5 rfl) rfl (cR _) ?_
  refine AW.callI (k := 57) (c := 0) (N := 0) (T := TX0) (n := 15) (as := []) (st := [vR 57]) (uc' := uc + 1) (us' := us + 1) (A_X12_init_57 hΓ) wM_L_90 wI_X12_init wN_WaveRightModel wC_X12_init rfl rfl rfl ft_X12_init (le45 rfl) (le45 rfl) (le45 rfl) (dat D_law_m 6 rfl) rfl (fun _ => ⟨by decide, rfl⟩) (by omega) (by omega) (fun _ => ?_) nlt0
  change AW _ _ _ _ _ _ _ _ _ [vR 57] (84, sg_198)
  refine AW.astore_n (n := 16) (ls' := [some (vO 100), some (vR 0), some (vR 57), none, none, none, none, none]) (dat D_law_m 7 rfl) rfl (le45 rfl) (le45 rfl) rfl rfl ?_
  refine AW.iconst (n := 17) (dat D_law_m 8 rfl) rfl ?_
  refine AW.newaL (n := 19) (N := 1) (uc' := uc) (us' := us) sg_fix rfl wY_long rfl (by decide) (le45 rfl) (dat D_law_m 9 rfl) rfl (by omega) (by omega) ?_
  change AW _ _ _ _ _ _ _ _ _ [vR 84] (85, sg0)
  refine AW.astore_n (n := 20) (ls' := [some (vO 100), some (vR 0), some (vR 57), some (vR 84), none, none, none, none]) (dat D_law_m 10 rfl) rfl (le45 rfl) (le45 rfl) rfl rfl ?_
  refine AW.iconst (n := 21) (dat D_law_m 11 rfl) rfl ?_
  exact AW.istore (n := 23) (ls' := lS 0) (dat D_law_m 12 rfl) rfl (le45 rfl) (le45 rfl) rfl rfl kk
/-- from the entry to the end, for a pure side -/
theorem whole_of {Inv : SG → Prop} (hG : Good Inv) {p : Program} {e : Env} {s : State} {m : MethodId} {below : List Frame} {meth : Method} {c : Code} (l : Launch) (hflags : l.flags = flags0) {b L : Nat} {xs : Nat → Int32} (hL : L ≤ 3072) (C0 : lw_At p s m meth c b L xs) : W p l e room_1 s m #[Value.ref b] below meth c s.heap [] 0 0 (lw_Z below #[Value.ref b] s) (entryFrame m ([Value.ref b] : List Value).toArray 8) := by
  obtain ⟨Γ, g1, g2, g3, g4, g5, hK, hok⟩ := ent_ok l C0
  obtain ⟨hx, hb, hr, hml, hown, hts, hX, hbl, hlocks, htab, hgv⟩ := C0
  have hΓ : (gl Γ).stackTraces = false := by rw [g1]; unfold Launch.stackTraces; rw [hflags]; decide +kernel
  obtain ⟨S0, kk⟩ := law_loop hΓ (by rw [g4]; exact hL) hG 512 0 sg0 hG.1 (by omega) (by omega) (by rw [g4]; omega)
  have hW := law_make hΓ (uc := 8 * 512) (us := 48 * 512) kk
  have hl := lv_entry ([.ref b]) (n := 8) (Nat.le_of_ble_eq_true rfl)
  rw [lg_entry_eq]
  subst g1
  have hls : aL Γ 8 [some (vO 100)] (lg_sl ([.ref b]) ++ List.replicate (8 - (lg_sl ([.ref b])).length) Slot.unset).toArray := by
    refine ⟨hl.1, hl.2.1, fun q hq => hl.2.2 q ?_⟩
    obtain ⟨v, h1, h2⟩ := aLl_mem.mp hq
    obtain ⟨q1, q2⟩ := q
    cases q1 with
    | zero =>
      simp only [List.getElem?_cons_zero, Option.some.injEq] at h1
      subst h1
      simp only [aV_O, g3] at h2
      rw [h2]
      exact List.mem_cons_self
    | succ n => simp at h1
  have k2 := hW p e room_1 s m #[Value.ref b] below meth c 601024 7293034 ⟨⟨hx, hb, hml, hr, hown, hlocks, htab, fun q => absurd q (by decide)⟩, ⟨fun w hw => hts w (List.mem_filter.mp hw).1, hK, hok, by rw [g2]; exact Nat.le_refl _, hΓ⟩, by decide, by decide⟩ s.heap [] 0 0 _ ⟨fun k q hk => by simp [aW] at hk, by rw [g2]; exact Nat.le_refl _⟩ va_S.rf ⟨by omega, by omega, by decide, by decide, fun _ => by rw [g2]⟩ hls
  intro T hT X
  obtain ⟨t, st, o, b1, b2, b3⟩ := k2 T hT X
  refine ⟨t, st, o, b1, b2, ?_⟩
  rcases b3 with ⟨⟨⟨h1, -, -⟩, -⟩, Lc, hF, hfree⟩ | ⟨q, h1, E, ce, Lc, ⟨⟨h2, -⟩, -⟩, -⟩
  · refine ⟨h1, hF.1, hF.2.1, State.sameButNew.weaken hF.2.2 (fun y hy hlt => ?_) (Nat.le_refl _) (Nat.le_refl _)⟩
    have h3 : gO Γ ≤ y.base := hfree y hy
    rw [g2] at h3
    exact absurd hlt (Nat.not_lt.mpr h3)
  · exact absurd h2 (Nat.lt_irrefl 0)
