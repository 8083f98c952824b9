/-! ===== the law: its cases and its loop (printed by wip/whole/gen/lawg.py) ===== -/
abbrev mL_law : MT := (x, code, 8, some .boolean, [])
def scr (Γ : GA) (i j : Int) : Int := (gX Γ (w32 (i + j)).toNat).toInt
def scr0 (Γ : GA) (i : Int) : Int := (gX Γ (w32 i).toNat).toInt
abbrev lS (i : Int) : List (Option AV) := [some (vO 100), some (vR 0), some (vR 57), some (vR 84), some (vI i), none, none, none]
abbrev LW (Γ : GA) (S0 : AS) (uc us pc : Nat) (ls : List (Option AV)) (st : List AV) (σ : SG) : Prop := AW Γ mL_law 1312 (0, 1) S0 uc us pc ls st (85, σ)
def inS (Γ : GA) (i : Int) : Prop := 0 ≤ i ∧ i + 6 ≤ (gL Γ : Int) ∧ gL Γ ≤ 3072
theorem sx {Γ : GA} {i j : Int} (h : inS Γ i) (h1 : 0 ≤ j) (h2 : j < 6) : 0 ≤ w32 (i + j) ∧ w32 (i + j) < (gL Γ : Int) := by
  obtain ⟨a, b, c⟩ := h
  rw [w32_id (by omega) (by omega)]
  omega
theorem sx0 {Γ : GA} {i : Int} (h : inS Γ i) : 0 ≤ w32 i ∧ w32 i < (gL Γ : Int) := by
  obtain ⟨a, b, c⟩ := h
  rw [w32_id (by omega) (by omega)]
  omega
set_option maxRecDepth 100000 in
set_option maxHeartbeats 4000000 in
theorem LC_0 {Γ : GA} (hΓ : (gl Γ).stackTraces = false) {S0 : AS} {uc us : Nat} {i : Int} (hi : inS Γ i) {n1 n2 : Nat} {r1 r2 : Int} {σ σ1 σ2 : SG} (h1 : X11_feed n1 (scr Γ i 1) (scr Γ i 2) (scr Γ i 3) (scr Γ i 4) (scr Γ i 5) σ = some (r1, σ1)) (h2 : X12_feed n2 (scr Γ i 1) (scr Γ i 2) (scr Γ i 3) (scr Γ i 4) (scr Γ i 5) σ1 = some (r2, σ2)) (e2 : w32 r1 = w32 r2) (kk : LW Γ S0 uc us 1794 (lS i) [] σ2) : LW Γ S0 (uc + 8) (us + 48) 168 (lS i) [] σ := by
  refine AW.aload_n (n := 169) (dat D_law_c0 0 rfl) rfl rfl ?_
  refine AW.oload_n (n := 170) (dat D_law_c0 1 rfl) rfl rfl ?_
  refine AW.iload (n := 172) (dat D_law_c0 2 rfl) rfl rfl ?_
  refine AW.iconst (n := 173) (dat D_law_c0 3 rfl) rfl ?_
  refine AW.iadd (n := 174) (dat D_law_c0 4 rfl) rfl ?_
  refine AW.sald (M := mL_law) (n := 175) (sx hi (by decide) (by decide)) (dat D_law_c0 5 rfl) rfl ?_
  refine AW.oload_n (n := 176) (dat D_law_c0 6 rfl) rfl rfl ?_
  refine AW.iload (n := 178) (dat D_law_c0 7 rfl) rfl rfl ?_
  refine AW.iconst (n := 179) (dat D_law_c0 8 rfl) rfl ?_
  refine AW.iadd (n := 180) (dat D_law_c0 9 rfl) rfl ?_
  refine AW.sald (M := mL_law) (n := 181) (sx hi (by decide) (by decide)) (dat D_law_c0 10 rfl) rfl ?_
  refine AW.oload_n (n := 182) (dat D_law_c0 11 rfl) rfl rfl ?_
  refine AW.iload (n := 184) (dat D_law_c0 12 rfl) rfl rfl ?_
  refine AW.iconst (n := 185) (dat D_law_c0 13 rfl) rfl ?_
  refine AW.iadd (n := 186) (dat D_law_c0 14 rfl) rfl ?_
  refine AW.sald (M := mL_law) (n := 187) (sx hi (by decide) (by decide)) (dat D_law_c0 15 rfl) rfl ?_
  refine AW.oload_n (n := 188) (dat D_law_c0 16 rfl) rfl rfl ?_
  refine AW.iload (n := 190) (dat D_law_c0 17 rfl) rfl rfl ?_
  refine AW.iconst (n := 191) (dat D_law_c0 18 rfl) rfl ?_
  refine AW.iadd (n := 192) (dat D_law_c0 19 rfl) rfl ?_
  refine AW.sald (M := mL_law) (n := 193) (sx hi (by decide) (by decide)) (dat D_law_c0 20 rfl) rfl ?_
  refine AW.oload_n (n := 194) (dat D_law_c0 21 rfl) rfl rfl ?_
  refine AW.iload (n := 196) (dat D_law_c0 22 rfl) rfl rfl ?_
  refine AW.iconst (n := 197) (dat D_law_c0 23 rfl) rfl ?_
  refine AW.iadd (n := 198) (dat D_law_c0 24 rfl) rfl ?_
  refine AW.sald (M := mL_law) (n := 199) (sx hi (by decide) (by decide)) (dat D_law_c0 25 rfl) rfl ?_
  refine AW.cV (n := 202) (as := [vI (scr Γ i 1), vI (scr Γ i 2), vI (scr Γ i 3), vI (scr Γ i 4), vI (scr Γ i 5)]) (st := []) (st' := [vI r1]) (uc' := uc) (us' := us) (A_X11_feed hΓ h1) cf_X11_feed ly_0 (le45 rfl) vc_11 (le45 rfl) wM_L_91 (le45 rfl) (le45 rfl) (dat D_law_c0 26 rfl) rfl rfl (by omega) (by omega) rfl (fun _ => ?_) nlt0
  refine AW.aload_n (n := 203) (dat D_law_c0 27 rfl) rfl rfl ?_
  refine AW.oload_n (n := 204) (dat D_law_c0 28 rfl) rfl rfl ?_
  refine AW.iload (n := 206) (dat D_law_c0 29 rfl) rfl rfl ?_
  refine AW.iconst (n := 207) (dat D_law_c0 30 rfl) rfl ?_
  refine AW.iadd (n := 208) (dat D_law_c0 31 rfl) rfl ?_
  refine AW.sald (M := mL_law) (n := 209) (sx hi (by decide) (by decide)) (dat D_law_c0 32 rfl) rfl ?_
  refine AW.oload_n (n := 210) (dat D_law_c0 33 rfl) rfl rfl ?_
  refine AW.iload (n := 212) (dat D_law_c0 34 rfl) rfl rfl ?_
  refine AW.iconst (n := 213) (dat D_law_c0 35 rfl) rfl ?_
  refine AW.iadd (n := 214) (dat D_law_c0 36 rfl) rfl ?_
  refine AW.sald (M := mL_law) (n := 215) (sx hi (by decide) (by decide)) (dat D_law_c0 37 rfl) rfl ?_
  refine AW.oload_n (n := 216) (dat D_law_c0 38 rfl) rfl rfl ?_
  refine AW.iload (n := 218) (dat D_law_c0 39 rfl) rfl rfl ?_
  refine AW.iconst (n := 219) (dat D_law_c0 40 rfl) rfl ?_
  refine AW.iadd (n := 220) (dat D_law_c0 41 rfl) rfl ?_
  refine AW.sald (M := mL_law) (n := 221) (sx hi (by decide) (by decide)) (dat D_law_c0 42 rfl) rfl ?_
  refine AW.oload_n (n := 222) (dat D_law_c0 43 rfl) rfl rfl ?_
  refine AW.iload (n := 224) (dat D_law_c0 44 rfl) rfl rfl ?_
  refine AW.iconst (n := 225) (dat D_law_c0 45 rfl) rfl ?_
  refine AW.iadd (n := 226) (dat D_law_c0 46 rfl) rfl ?_
  refine AW.sald (M := mL_law) (n := 227) (sx hi (by decide) (by decide)) (dat D_law_c0 47 rfl) rfl ?_
  refine AW.oload_n (n := 228) (dat D_law_c0 48 rfl) rfl rfl ?_
  refine AW.iload (n := 230) (dat D_law_c0 49 rfl) rfl rfl ?_
  refine AW.iconst (n := 231) (dat D_law_c0 50 rfl) rfl ?_
  refine AW.iadd (n := 232) (dat D_law_c0 51 rfl) rfl ?_
  refine AW.sald (M := mL_law) (n := 233) (sx hi (by decide) (by decide)) (dat D_law_c0 52 rfl) rfl ?_
  refine AW.cV (n := 236) (as := [vI (scr Γ i 1), vI (scr Γ i 2), vI (scr Γ i 3), vI (scr Γ i 4), vI (scr Γ i 5)]) (st := [vI r1]) (st' := [vI r2, vI r1]) (uc' := uc) (us' := us) (A_X12_feed hΓ h2) cf_X12_feed ly_57 (le45 rfl) vc_12 (le45 rfl) wM_L_94 (le45 rfl) (le45 rfl) (dat D_law_c0 53 rfl) rfl rfl (by omega) (by omega) rfl (fun _ => ?_) nlt0
  refine AW.icmp_eq (t := 1794) (n := 239) (dat D_law_c0 54 rfl) rfl rfl rfl rfl (fun _ => ?_) (fun q => absurd e2 q)
  exact kk
set_option maxRecDepth 100000 in
set_option maxHeartbeats 4000000 in
theorem LC_1 {Γ : GA} (hΓ : (gl Γ).stackTraces = false) {S0 : AS} {uc us : Nat} {i : Int} (hi : inS Γ i) {n1 n2 : Nat} {r1 r2 : Int} {σ σ1 σ2 : SG} (h1 : X11_end n1 (scr Γ i 1) σ = some (r1, σ1)) (h2 : X12_end n2 (scr Γ i 1) σ1 = some (r2, σ2)) (e2 : w32 r1 = w32 r2) (kk : LW Γ S0 uc us 1794 (lS i) [] σ2) : LW Γ S0 (uc + 8) (us + 48) 241 (lS i) [] σ := by
  refine AW.aload_n (n := 242) (dat D_law_c1 0 rfl) rfl rfl ?_
  refine AW.oload_n (n := 243) (dat D_law_c1 1 rfl) rfl rfl ?_
  refine AW.iload (n := 245) (dat D_law_c1 2 rfl) rfl rfl ?_
  refine AW.iconst (n := 246) (dat D_law_c1 3 rfl) rfl ?_
  refine AW.iadd (n := 247) (dat D_law_c1 4 rfl) rfl ?_
  refine AW.sald (M := mL_law) (n := 248) (sx hi (by decide) (by decide)) (dat D_law_c1 5 rfl) rfl ?_
  refine AW.cV (n := 251) (as := [vI (scr Γ i 1)]) (st := []) (st' := [vI r1]) (uc' := uc) (us' := us) (A_X11_end hΓ h1) cf_X11_end ly_0 (le45 rfl) vc_11 (le45 rfl) wM_L_95 (le45 rfl) (le45 rfl) (dat D_law_c1 6 rfl) rfl rfl (by omega) (by omega) rfl (fun _ => ?_) nlt0
  refine AW.aload_n (n := 252) (dat D_law_c1 7 rfl) rfl rfl ?_
  refine AW.oload_n (n := 253) (dat D_law_c1 8 rfl) rfl rfl ?_
  refine AW.iload (n := 255) (dat D_law_c1 9 rfl) rfl rfl ?_
  refine AW.iconst (n := 256) (dat D_law_c1 10 rfl) rfl ?_
  refine AW.iadd (n := 257) (dat D_law_c1 11 rfl) rfl ?_
  refine AW.sald (M := mL_law) (n := 258) (sx hi (by decide) (by decide)) (dat D_law_c1 12 rfl) rfl ?_
  refine AW.cV (n := 261) (as := [vI (scr Γ i 1)]) (st := [vI r1]) (st' := [vI r2, vI r1]) (uc' := uc) (us' := us) (A_X12_end hΓ h2) cf_X12_end ly_57 (le45 rfl) vc_12 (le45 rfl) wM_L_99 (le45 rfl) (le45 rfl) (dat D_law_c1 13 rfl) rfl rfl (by omega) (by omega) rfl (fun _ => ?_) nlt0
  refine AW.icmp_eq (t := 1794) (n := 264) (dat D_law_c1 14 rfl) rfl rfl rfl rfl (fun _ => ?_) (fun q => absurd e2 q)
  exact kk
set_option maxRecDepth 100000 in
set_option maxHeartbeats 4000000 in
theorem LC_2 {Γ : GA} (hΓ : (gl Γ).stackTraces = false) {S0 : AS} {uc us : Nat} {i : Int} (hi : inS Γ i) {n1 n3 n4 : Nat} {r1 r2 : Int} {σ σ1 σ2 : SG} {o : Nat × Int} (h1 : X11_sea n1 σ = some (o, σ1)) (hk : o.1 = 0 ∨ o.1 = 2) (h3 : X12_sea n3 (lxI o σ1) = some (r1, σ2)) (h4 : X12_thrown n4 σ2 = some r2) (e4 : w32 r2 = w32 (cdL [2] o.1)) (e9 : w32 (cdL [2] o.1) = 0 → w32 (cmpL (σ2 84 0) (w32 r1)) = 0) (kk : LW Γ S0 uc us 1794 (lS i) [] σ2) : LW Γ S0 (uc + 8) (us + 48) 266 (lS i) [] σ := by
  refine AW.aload_n (n := 267) (dat D_law_c2 0 rfl) rfl rfl ?_
  refine AW.aload_n (n := 268) (dat D_law_c2 1 rfl) rfl rfl ?_
  refine AW.callSX (h0 := (0, 8, 11, 13)) (ht := []) (n := 271) (as := [vR 0, vR 84]) (st := []) (st' := [vI (cdL [2] o.1)]) (uc' := uc) (us' := us) (A_L_sea hΓ h1 hk) rfl wM_L_100 wT_L_sea wN_WaveRightLaw wC_L_sea ft_L_sea (le45 rfl) (le45 rfl) (le45 rfl) (dat D_law_c2 2 rfl) rfl (fun q => absurd (show (85 : Nat) < 85 from q) (by decide)) (by omega) (by omega) rfl (fun _ => ?_) nlt0
  refine AW.istore (n := 273) (ls' := [some (vO 100), some (vR 0), some (vR 57), some (vR 84), some (vI i), some (vI (cdL [2] o.1)), none, none]) (dat D_law_c2 3 rfl) rfl (le45 rfl) (le45 rfl) rfl rfl ?_
  refine AW.aload_n (n := 274) (dat D_law_c2 4 rfl) rfl rfl ?_
  refine AW.cV (n := 277) (as := []) (st := []) (st' := [vI r1]) (uc' := uc) (us' := us) (A_X12_sea hΓ h3) cf_X12_sea ly_57 (le45 rfl) vc_12 (le45 rfl) wM_L_105 (le45 rfl) (le45 rfl) (dat D_law_c2 5 rfl) rfl rfl (by omega) (by omega) rfl (fun _ => ?_) nlt0
  refine AW.istore (n := 279) (ls' := [some (vO 100), some (vR 0), some (vR 57), some (vR 84), some (vI i), some (vI (cdL [2] o.1)), some (vI r1), none]) (dat D_law_c2 6 rfl) rfl (le45 rfl) (le45 rfl) rfl rfl ?_
  refine AW.aload_n (n := 280) (dat D_law_c2 7 rfl) rfl rfl ?_
  refine AW.cV (n := 283) (as := []) (st := []) (st' := [vI r2]) (uc' := uc) (us' := us) (A_X12_thrown hΓ h4) cf_X12_thrown ly_57 (le45 rfl) vc_12 (le45 rfl) wM_L_106 (le45 rfl) (le45 rfl) (dat D_law_c2 8 rfl) rfl rfl (by omega) (by omega) rfl (fun _ => ?_) nlt0
  refine AW.iload (n := 285) (dat D_law_c2 9 rfl) rfl rfl ?_
  refine AW.icmp_eq (t := 290) (n := 288) (dat D_law_c2 10 rfl) rfl rfl rfl rfl (fun _ => ?_) (fun q => absurd e4 q)
  refine AW.iload (n := 292) (dat D_law_c2 13 rfl) rfl rfl ?_
  refine AW.if_ne (t := 307) (n := 295) (dat D_law_c2 14 rfl) rfl rfl (fun hz => ?_) (fun _ => ?_)
  · refine AW.aload_n (n := 296) (dat D_law_c2 15 rfl) rfl rfl ?_
    refine AW.iconst (n := 297) (dat D_law_c2 16 rfl) rfl ?_
    refine AW.lald (N := 1) (n := 298) rfl (le45 rfl) (by decide) (dat D_law_c2 17 rfl) rfl ?_
    refine AW.iload (n := 300) (dat D_law_c2 18 rfl) rfl rfl ?_
    refine AW.i2l (n := 301) (dat D_law_c2 19 rfl) rfl ?_
    refine AW.lcmp (n := 302) (dat D_law_c2 20 rfl) rfl ?_
    refine AW.if_eq (t := 307) (n := 305) (dat D_law_c2 21 rfl) rfl rfl (fun _ => ?_) (fun q => absurd (e9 hz) q)
    refine AW.goto (t := 1794) (dat D_law_c2 24 rfl) rfl ?_
    exact AW.to (ls'' := lS i) kk (lle_s rfl (lle_s rfl (lle_s rfl (lle_s rfl (lle_s rfl (lle_n (lle_n (lle_n lle_z))))))))
  · refine AW.goto (t := 1794) (dat D_law_c2 24 rfl) rfl ?_
    exact AW.to (ls'' := lS i) kk (lle_s rfl (lle_s rfl (lle_s rfl (lle_s rfl (lle_s rfl (lle_n (lle_n (lle_n lle_z))))))))
set_option maxRecDepth 100000 in
set_option maxHeartbeats 4000000 in
theorem LC_3 {Γ : GA} (hΓ : (gl Γ).stackTraces = false) {S0 : AS} {uc us : Nat} {i : Int} (hi : inS Γ i) {n1 n3 n4 : Nat} {r1 r2 : Int} {σ σ1 σ2 : SG} {o : Nat × Int} (h1 : X11_judge n1 σ = some (o, σ1)) (hk : o.1 = 0 ∨ o.1 = 2) (h3 : X12_judge n3 (lxI o σ1) = some (r1, σ2)) (h4 : X12_thrown n4 σ2 = some r2) (e4 : w32 r2 = w32 (cdL [2] o.1)) (e9 : w32 (cdL [2] o.1) = 0 → w32 (cmpL (σ2 84 0) (w32 r1)) = 0) (kk : LW Γ S0 uc us 1794 (lS i) [] σ2) : LW Γ S0 (uc + 8) (us + 48) 310 (lS i) [] σ := by
  refine AW.aload_n (n := 311) (dat D_law_c3 0 rfl) rfl rfl ?_
  refine AW.aload_n (n := 312) (dat D_law_c3 1 rfl) rfl rfl ?_
  refine AW.callSX (h0 := (0, 8, 11, 13)) (ht := []) (n := 315) (as := [vR 0, vR 84]) (st := []) (st' := [vI (cdL [2] o.1)]) (uc' := uc) (us' := us) (A_L_judge hΓ h1 hk) rfl wM_L_109 wT_L_judge wN_WaveRightLaw wC_L_judge ft_L_judge (le45 rfl) (le45 rfl) (le45 rfl) (dat D_law_c3 2 rfl) rfl (fun q => absurd (show (85 : Nat) < 85 from q) (by decide)) (by omega) (by omega) rfl (fun _ => ?_) nlt0
  refine AW.istore (n := 317) (ls' := [some (vO 100), some (vR 0), some (vR 57), some (vR 84), some (vI i), some (vI (cdL [2] o.1)), none, none]) (dat D_law_c3 3 rfl) rfl (le45 rfl) (le45 rfl) rfl rfl ?_
  refine AW.aload_n (n := 318) (dat D_law_c3 4 rfl) rfl rfl ?_
  refine AW.cV (n := 321) (as := []) (st := []) (st' := [vI r1]) (uc' := uc) (us' := us) (A_X12_judge hΓ h3) cf_X12_judge ly_57 (le45 rfl) vc_12 (le45 rfl) wM_L_111 (le45 rfl) (le45 rfl) (dat D_law_c3 5 rfl) rfl rfl (by omega) (by omega) rfl (fun _ => ?_) nlt0
  refine AW.istore (n := 323) (ls' := [some (vO 100), some (vR 0), some (vR 57), some (vR 84), some (vI i), some (vI (cdL [2] o.1)), some (vI r1), none]) (dat D_law_c3 6 rfl) rfl (le45 rfl) (le45 rfl) rfl rfl ?_
  refine AW.aload_n (n := 324) (dat D_law_c3 7 rfl) rfl rfl ?_
  refine AW.cV (n := 327) (as := []) (st := []) (st' := [vI r2]) (uc' := uc) (us' := us) (A_X12_thrown hΓ h4) cf_X12_thrown ly_57 (le45 rfl) vc_12 (le45 rfl) wM_L_106 (le45 rfl) (le45 rfl) (dat D_law_c3 8 rfl) rfl rfl (by omega) (by omega) rfl (fun _ => ?_) nlt0
  refine AW.iload (n := 329) (dat D_law_c3 9 rfl) rfl rfl ?_
  refine AW.icmp_eq (t := 334) (n := 332) (dat D_law_c3 10 rfl) rfl rfl rfl rfl (fun _ => ?_) (fun q => absurd e4 q)
  refine AW.iload (n := 336) (dat D_law_c3 13 rfl) rfl rfl ?_
  refine AW.if_ne (t := 351) (n := 339) (dat D_law_c3 14 rfl) rfl rfl (fun hz => ?_) (fun _ => ?_)
  · refine AW.aload_n (n := 340) (dat D_law_c3 15 rfl) rfl rfl ?_
    refine AW.iconst (n := 341) (dat D_law_c3 16 rfl) rfl ?_
    refine AW.lald (N := 1) (n := 342) rfl (le45 rfl) (by decide) (dat D_law_c3 17 rfl) rfl ?_
    refine AW.iload (n := 344) (dat D_law_c3 18 rfl) rfl rfl ?_
    refine AW.i2l (n := 345) (dat D_law_c3 19 rfl) rfl ?_
    refine AW.lcmp (n := 346) (dat D_law_c3 20 rfl) rfl ?_
    refine AW.if_eq (t := 351) (n := 349) (dat D_law_c3 21 rfl) rfl rfl (fun _ => ?_) (fun q => absurd (e9 hz) q)
    refine AW.goto (t := 1794) (dat D_law_c3 24 rfl) rfl ?_
    exact AW.to (ls'' := lS i) kk (lle_s rfl (lle_s rfl (lle_s rfl (lle_s rfl (lle_s rfl (lle_n (lle_n (lle_n lle_z))))))))
  · refine AW.goto (t := 1794) (dat D_law_c3 24 rfl) rfl ?_
    exact AW.to (ls'' := lS i) kk (lle_s rfl (lle_s rfl (lle_s rfl (lle_s rfl (lle_s rfl (lle_n (lle_n (lle_n lle_z))))))))
set_option maxRecDepth 100000 in
set_option maxHeartbeats 4000000 in
theorem LC_4 {Γ : GA} (hΓ : (gl Γ).stackTraces = false) {S0 : AS} {uc us : Nat} {i : Int} (hi : inS Γ i) {n1 n2 : Nat} {r1 r2 : Int} {σ σ1 : SG} (h1 : X11_fault n1 σ = some r1) (h2 : X12_fault n2 σ = some (r2, σ1)) (e2 : w32 r1 = w32 r2) (kk : LW Γ S0 uc us 1794 (lS i) [] σ1) : LW Γ S0 (uc + 8) (us + 48) 354 (lS i) [] σ := by
  refine AW.aload_n (n := 355) (dat D_law_c4 0 rfl) rfl rfl ?_
  refine AW.cV (n := 358) (as := []) (st := []) (st' := [vI r1]) (uc' := uc) (us' := us) (A_X11_fault hΓ h1) cf_X11_fault ly_0 (le45 rfl) vc_11 (le45 rfl) wM_L_112 (le45 rfl) (le45 rfl) (dat D_law_c4 1 rfl) rfl rfl (by omega) (by omega) rfl (fun _ => ?_) nlt0
  refine AW.aload_n (n := 359) (dat D_law_c4 2 rfl) rfl rfl ?_
  refine AW.cV (n := 362) (as := []) (st := [vI r1]) (st' := [vI r2, vI r1]) (uc' := uc) (us' := us) (A_X12_fault hΓ h2) cf_X12_fault ly_57 (le45 rfl) vc_12 (le45 rfl) wM_L_115 (le45 rfl) (le45 rfl) (dat D_law_c4 3 rfl) rfl rfl (by omega) (by omega) rfl (fun _ => ?_) nlt0
  refine AW.icmp_eq (t := 1794) (n := 365) (dat D_law_c4 4 rfl) rfl rfl rfl rfl (fun _ => ?_) (fun q => absurd e2 q)
  exact kk
set_option maxRecDepth 100000 in
set_option maxHeartbeats 4000000 in
theorem LC_5 {Γ : GA} (hΓ : (gl Γ).stackTraces = false) {S0 : AS} {uc us : Nat} {i : Int} (hi : inS Γ i) {n1 n3 n4 : Nat} {r1 r2 : Int} {σ σ1 σ2 : SG} {o : Nat × Int} (h1 : X11_anew n1 σ = some (o, σ1)) (hk : o.1 = 0 ∨ o.1 = 4) (h3 : X12_anew n3 (lxI o σ1) = some (r1, σ2)) (h4 : X12_thrown n4 σ2 = some r2) (e4 : w32 r2 = w32 (cdL [4] o.1)) (e9 : w32 (cdL [4] o.1) = 0 → w32 (cmpL (σ2 84 0) (w32 r1)) = 0) (kk : LW Γ S0 uc us 1794 (lS i) [] σ2) : LW Γ S0 (uc + 8) (us + 48) 367 (lS i) [] σ := by
  refine AW.aload_n (n := 368) (dat D_law_c5 0 rfl) rfl rfl ?_
  refine AW.aload_n (n := 369) (dat D_law_c5 1 rfl) rfl rfl ?_
  refine AW.callSX (h0 := (0, 8, 11, 21)) (ht := []) (n := 372) (as := [vR 0, vR 84]) (st := []) (st' := [vI (cdL [4] o.1)]) (uc' := uc) (us' := us) (A_L_anew hΓ h1 hk) rfl wM_L_116 wT_L_anew wN_WaveRightLaw wC_L_anew ft_L_anew (le45 rfl) (le45 rfl) (le45 rfl) (dat D_law_c5 2 rfl) rfl (fun q => absurd (show (85 : Nat) < 85 from q) (by decide)) (by omega) (by omega) rfl (fun _ => ?_) nlt0
  refine AW.istore (n := 374) (ls' := [some (vO 100), some (vR 0), some (vR 57), some (vR 84), some (vI i), some (vI (cdL [4] o.1)), none, none]) (dat D_law_c5 3 rfl) rfl (le45 rfl) (le45 rfl) rfl rfl ?_
  refine AW.aload_n (n := 375) (dat D_law_c5 4 rfl) rfl rfl ?_
  refine AW.cV (n := 378) (as := []) (st := []) (st' := [vI r1]) (uc' := uc) (us' := us) (A_X12_anew hΓ h3) cf_X12_anew ly_57 (le45 rfl) vc_12 (le45 rfl) wM_L_118 (le45 rfl) (le45 rfl) (dat D_law_c5 5 rfl) rfl rfl (by omega) (by omega) rfl (fun _ => ?_) nlt0
  refine AW.istore (n := 380) (ls' := [some (vO 100), some (vR 0), some (vR 57), some (vR 84), some (vI i), some (vI (cdL [4] o.1)), some (vI r1), none]) (dat D_law_c5 6 rfl) rfl (le45 rfl) (le45 rfl) rfl rfl ?_
  refine AW.aload_n (n := 381) (dat D_law_c5 7 rfl) rfl rfl ?_
  refine AW.cV (n := 384) (as := []) (st := []) (st' := [vI r2]) (uc' := uc) (us' := us) (A_X12_thrown hΓ h4) cf_X12_thrown ly_57 (le45 rfl) vc_12 (le45 rfl) wM_L_106 (le45 rfl) (le45 rfl) (dat D_law_c5 8 rfl) rfl rfl (by omega) (by omega) rfl (fun _ => ?_) nlt0
  refine AW.iload (n := 386) (dat D_law_c5 9 rfl) rfl rfl ?_
  refine AW.icmp_eq (t := 391) (n := 389) (dat D_law_c5 10 rfl) rfl rfl rfl rfl (fun _ => ?_) (fun q => absurd e4 q)
  refine AW.iload (n := 393) (dat D_law_c5 13 rfl) rfl rfl ?_
  refine AW.if_ne (t := 408) (n := 396) (dat D_law_c5 14 rfl) rfl rfl (fun hz => ?_) (fun _ => ?_)
  · refine AW.aload_n (n := 397) (dat D_law_c5 15 rfl) rfl rfl ?_
    refine AW.iconst (n := 398) (dat D_law_c5 16 rfl) rfl ?_
    refine AW.lald (N := 1) (n := 399) rfl (le45 rfl) (by decide) (dat D_law_c5 17 rfl) rfl ?_
    refine AW.iload (n := 401) (dat D_law_c5 18 rfl) rfl rfl ?_
    refine AW.i2l (n := 402) (dat D_law_c5 19 rfl) rfl ?_
    refine AW.lcmp (n := 403) (dat D_law_c5 20 rfl) rfl ?_
    refine AW.if_eq (t := 408) (n := 406) (dat D_law_c5 21 rfl) rfl rfl (fun _ => ?_) (fun q => absurd (e9 hz) q)
    refine AW.goto (t := 1794) (dat D_law_c5 24 rfl) rfl ?_
    exact AW.to (ls'' := lS i) kk (lle_s rfl (lle_s rfl (lle_s rfl (lle_s rfl (lle_s rfl (lle_n (lle_n (lle_n lle_z))))))))
  · refine AW.goto (t := 1794) (dat D_law_c5 24 rfl) rfl ?_
    exact AW.to (ls'' := lS i) kk (lle_s rfl (lle_s rfl (lle_s rfl (lle_s rfl (lle_s rfl (lle_n (lle_n (lle_n lle_z))))))))
set_option maxRecDepth 100000 in
set_option maxHeartbeats 4000000 in
theorem LC_6 {Γ : GA} (hΓ : (gl Γ).stackTraces = false) {S0 : AS} {uc us : Nat} {i : Int} (hi : inS Γ i) {n1 n2 : Nat} {r1 r2 : Int} {σ σ1 σ2 : SG} (h1 : X11_comes n1 σ = some (r1, σ1)) (h2 : X12_comes n2 σ1 = some (r2, σ2)) (e2 : w32 r1 = w32 r2) (kk : LW Γ S0 uc us 1794 (lS i) [] σ2) : LW Γ S0 (uc + 8) (us + 48) 411 (lS i) [] σ := by
  refine AW.aload_n (n := 412) (dat D_law_c6 0 rfl) rfl rfl ?_
  refine AW.cV (n := 415) (as := []) (st := []) (st' := [vI r1]) (uc' := uc) (us' := us) (A_X11_comes hΓ h1) cf_X11_comes ly_0 (le45 rfl) vc_11 (le45 rfl) wM_L_119 (le45 rfl) (le45 rfl) (dat D_law_c6 1 rfl) rfl rfl (by omega) (by omega) rfl (fun _ => ?_) nlt0
  refine AW.aload_n (n := 416) (dat D_law_c6 2 rfl) rfl rfl ?_
  refine AW.cV (n := 419) (as := []) (st := [vI r1]) (st' := [vI r2, vI r1]) (uc' := uc) (us' := us) (A_X12_comes hΓ h2) cf_X12_comes ly_57 (le45 rfl) vc_12 (le45 rfl) wM_L_122 (le45 rfl) (le45 rfl) (dat D_law_c6 3 rfl) rfl rfl (by omega) (by omega) rfl (fun _ => ?_) nlt0
  refine AW.icmp_eq (t := 1794) (n := 422) (dat D_law_c6 4 rfl) rfl rfl rfl rfl (fun _ => ?_) (fun q => absurd e2 q)
  exact kk
set_option maxRecDepth 100000 in
set_option maxHeartbeats 4000000 in
theorem LC_7 {Γ : GA} (hΓ : (gl Γ).stackTraces = false) {S0 : AS} {uc us : Nat} {i : Int} (hi : inS Γ i) {n1 n3 n4 : Nat} {r1 r2 : Int} {σ σ1 σ2 : SG} {o : Nat × Int} (h1 : X11_wave n1 (scr Γ i 1) (scr Γ i 2) σ = some (o, σ1)) (hk : o.1 = 0 ∨ o.1 = 1 ∨ o.1 = 3) (h3 : X12_wave n3 (scr Γ i 1) (scr Γ i 2) (lxI o σ1) = some (r1, σ2)) (h4 : X12_thrown n4 σ2 = some r2) (e4 : w32 r2 = w32 (cdL [1, 3] o.1)) (e9 : w32 (cdL [1, 3] o.1) = 0 → w32 (cmpL (σ2 84 0) (w32 r1)) = 0) (kk : LW Γ S0 uc us 1794 (lS i) [] σ2) : LW Γ S0 (uc + 8) (us + 48) 424 (lS i) [] σ := by
  refine AW.aload_n (n := 425) (dat D_law_c7 0 rfl) rfl rfl ?_
  refine AW.oload_n (n := 426) (dat D_law_c7 1 rfl) rfl rfl ?_
  refine AW.iload (n := 428) (dat D_law_c7 2 rfl) rfl rfl ?_
  refine AW.iconst (n := 429) (dat D_law_c7 3 rfl) rfl ?_
  refine AW.iadd (n := 430) (dat D_law_c7 4 rfl) rfl ?_
  refine AW.sald (M := mL_law) (n := 431) (sx hi (by decide) (by decide)) (dat D_law_c7 5 rfl) rfl ?_
  refine AW.oload_n (n := 432) (dat D_law_c7 6 rfl) rfl rfl ?_
  refine AW.iload (n := 434) (dat D_law_c7 7 rfl) rfl rfl ?_
  refine AW.iconst (n := 435) (dat D_law_c7 8 rfl) rfl ?_
  refine AW.iadd (n := 436) (dat D_law_c7 9 rfl) rfl ?_
  refine AW.sald (M := mL_law) (n := 437) (sx hi (by decide) (by decide)) (dat D_law_c7 10 rfl) rfl ?_
  refine AW.aload_n (n := 438) (dat D_law_c7 11 rfl) rfl rfl ?_
  refine AW.callSX (h0 := (0, 10, 13, 27)) (ht := [(0, 10, 17, 29)]) (n := 441) (as := [vR 0, vI (scr Γ i 1), vI (scr Γ i 2), vR 84]) (st := []) (st' := [vI (cdL [1, 3] o.1)]) (uc' := uc) (us' := us) (A_L_wave hΓ h1 hk) rfl wM_L_123 wT_L_wave wN_WaveRightLaw wC_L_wave ft_L_wave (le45 rfl) (le45 rfl) (le45 rfl) (dat D_law_c7 12 rfl) rfl (fun q => absurd (show (85 : Nat) < 85 from q) (by decide)) (by omega) (by omega) rfl (fun _ => ?_) nlt0
  refine AW.istore (n := 443) (ls' := [some (vO 100), some (vR 0), some (vR 57), some (vR 84), some (vI i), some (vI (cdL [1, 3] o.1)), none, none]) (dat D_law_c7 13 rfl) rfl (le45 rfl) (le45 rfl) rfl rfl ?_
  refine AW.aload_n (n := 444) (dat D_law_c7 14 rfl) rfl rfl ?_
  refine AW.oload_n (n := 445) (dat D_law_c7 15 rfl) rfl rfl ?_
  refine AW.iload (n := 447) (dat D_law_c7 16 rfl) rfl rfl ?_
  refine AW.iconst (n := 448) (dat D_law_c7 17 rfl) rfl ?_
  refine AW.iadd (n := 449) (dat D_law_c7 18 rfl) rfl ?_
  refine AW.sald (M := mL_law) (n := 450) (sx hi (by decide) (by decide)) (dat D_law_c7 19 rfl) rfl ?_
  refine AW.oload_n (n := 451) (dat D_law_c7 20 rfl) rfl rfl ?_
  refine AW.iload (n := 453) (dat D_law_c7 21 rfl) rfl rfl ?_
  refine AW.iconst (n := 454) (dat D_law_c7 22 rfl) rfl ?_
  refine AW.iadd (n := 455) (dat D_law_c7 23 rfl) rfl ?_
  refine AW.sald (M := mL_law) (n := 456) (sx hi (by decide) (by decide)) (dat D_law_c7 24 rfl) rfl ?_
  refine AW.cV (n := 459) (as := [vI (scr Γ i 1), vI (scr Γ i 2)]) (st := []) (st' := [vI r1]) (uc' := uc) (us' := us) (A_X12_wave hΓ h3) cf_X12_wave ly_57 (le45 rfl) vc_12 (le45 rfl) wM_L_126 (le45 rfl) (le45 rfl) (dat D_law_c7 25 rfl) rfl rfl (by omega) (by omega) rfl (fun _ => ?_) nlt0
  refine AW.istore (n := 461) (ls' := [some (vO 100), some (vR 0), some (vR 57), some (vR 84), some (vI i), some (vI (cdL [1, 3] o.1)), some (vI r1), none]) (dat D_law_c7 26 rfl) rfl (le45 rfl) (le45 rfl) rfl rfl ?_
  refine AW.aload_n (n := 462) (dat D_law_c7 27 rfl) rfl rfl ?_
  refine AW.cV (n := 465) (as := []) (st := []) (st' := [vI r2]) (uc' := uc) (us' := us) (A_X12_thrown hΓ h4) cf_X12_thrown ly_57 (le45 rfl) vc_12 (le45 rfl) wM_L_106 (le45 rfl) (le45 rfl) (dat D_law_c7 28 rfl) rfl rfl (by omega) (by omega) rfl (fun _ => ?_) nlt0
  refine AW.iload (n := 467) (dat D_law_c7 29 rfl) rfl rfl ?_
  refine AW.icmp_eq (t := 472) (n := 470) (dat D_law_c7 30 rfl) rfl rfl rfl rfl (fun _ => ?_) (fun q => absurd e4 q)
  refine AW.iload (n := 474) (dat D_law_c7 33 rfl) rfl rfl ?_
  refine AW.if_ne (t := 489) (n := 477) (dat D_law_c7 34 rfl) rfl rfl (fun hz => ?_) (fun _ => ?_)
  · refine AW.aload_n (n := 478) (dat D_law_c7 35 rfl) rfl rfl ?_
    refine AW.iconst (n := 479) (dat D_law_c7 36 rfl) rfl ?_
    refine AW.lald (N := 1) (n := 480) rfl (le45 rfl) (by decide) (dat D_law_c7 37 rfl) rfl ?_
    refine AW.iload (n := 482) (dat D_law_c7 38 rfl) rfl rfl ?_
    refine AW.i2l (n := 483) (dat D_law_c7 39 rfl) rfl ?_
    refine AW.lcmp (n := 484) (dat D_law_c7 40 rfl) rfl ?_
    refine AW.if_eq (t := 489) (n := 487) (dat D_law_c7 41 rfl) rfl rfl (fun _ => ?_) (fun q => absurd (e9 hz) q)
    refine AW.goto (t := 1794) (dat D_law_c7 44 rfl) rfl ?_
    exact AW.to (ls'' := lS i) kk (lle_s rfl (lle_s rfl (lle_s rfl (lle_s rfl (lle_s rfl (lle_n (lle_n (lle_n lle_z))))))))
  · refine AW.goto (t := 1794) (dat D_law_c7 44 rfl) rfl ?_
    exact AW.to (ls'' := lS i) kk (lle_s rfl (lle_s rfl (lle_s rfl (lle_s rfl (lle_s rfl (lle_n (lle_n (lle_n lle_z))))))))
set_option maxRecDepth 100000 in
set_option maxHeartbeats 4000000 in
theorem LC_8 {Γ : GA} (hΓ : (gl Γ).stackTraces = false) {S0 : AS} {uc us : Nat} {i : Int} (hi : inS Γ i) {n1 n3 n4 : Nat} {r1 r2 : Int} {σ σ1 σ2 : SG} {o : Nat × Int} (h1 : X11_surfer n1 (scr Γ i 1) (scr Γ i 2) σ = some (o, σ1)) (hk : o.1 = 0 ∨ o.1 = 1 ∨ o.1 = 3) (h3 : X12_surfer n3 (scr Γ i 1) (scr Γ i 2) (lxI o σ1) = some (r1, σ2)) (h4 : X12_thrown n4 σ2 = some r2) (e4 : w32 r2 = w32 (cdL [1, 3] o.1)) (e9 : w32 (cdL [1, 3] o.1) = 0 → w32 (cmpL (σ2 84 0) (w32 r1)) = 0) (kk : LW Γ S0 uc us 1794 (lS i) [] σ2) : LW Γ S0 (uc + 8) (us + 48) 492 (lS i) [] σ := by
  refine AW.aload_n (n := 493) (dat D_law_c8 0 rfl) rfl rfl ?_
  refine AW.oload_n (n := 494) (dat D_law_c8 1 rfl) rfl rfl ?_
  refine AW.iload (n := 496) (dat D_law_c8 2 rfl) rfl rfl ?_
  refine AW.iconst (n := 497) (dat D_law_c8 3 rfl) rfl ?_
  refine AW.iadd (n := 498) (dat D_law_c8 4 rfl) rfl ?_
  refine AW.sald (M := mL_law) (n := 499) (sx hi (by decide) (by decide)) (dat D_law_c8 5 rfl) rfl ?_
  refine AW.oload_n (n := 500) (dat D_law_c8 6 rfl) rfl rfl ?_
  refine AW.iload (n := 502) (dat D_law_c8 7 rfl) rfl rfl ?_
  refine AW.iconst (n := 503) (dat D_law_c8 8 rfl) rfl ?_
  refine AW.iadd (n := 504) (dat D_law_c8 9 rfl) rfl ?_
  refine AW.sald (M := mL_law) (n := 505) (sx hi (by decide) (by decide)) (dat D_law_c8 10 rfl) rfl ?_
  refine AW.aload_n (n := 506) (dat D_law_c8 11 rfl) rfl rfl ?_
  refine AW.callSX (h0 := (0, 10, 13, 27)) (ht := [(0, 10, 17, 29)]) (n := 509) (as := [vR 0, vI (scr Γ i 1), vI (scr Γ i 2), vR 84]) (st := []) (st' := [vI (cdL [1, 3] o.1)]) (uc' := uc) (us' := us) (A_L_surfer hΓ h1 hk) rfl wM_L_127 wT_L_surfer wN_WaveRightLaw wC_L_surfer ft_L_surfer (le45 rfl) (le45 rfl) (le45 rfl) (dat D_law_c8 12 rfl) rfl (fun q => absurd (show (85 : Nat) < 85 from q) (by decide)) (by omega) (by omega) rfl (fun _ => ?_) nlt0
  refine AW.istore (n := 511) (ls' := [some (vO 100), some (vR 0), some (vR 57), some (vR 84), some (vI i), some (vI (cdL [1, 3] o.1)), none, none]) (dat D_law_c8 13 rfl) rfl (le45 rfl) (le45 rfl) rfl rfl ?_
  refine AW.aload_n (n := 512) (dat D_law_c8 14 rfl) rfl rfl ?_
  refine AW.oload_n (n := 513) (dat D_law_c8 15 rfl) rfl rfl ?_
  refine AW.iload (n := 515) (dat D_law_c8 16 rfl) rfl rfl ?_
  refine AW.iconst (n := 516) (dat D_law_c8 17 rfl) rfl ?_
  refine AW.iadd (n := 517) (dat D_law_c8 18 rfl) rfl ?_
  refine AW.sald (M := mL_law) (n := 518) (sx hi (by decide) (by decide)) (dat D_law_c8 19 rfl) rfl ?_
  refine AW.oload_n (n := 519) (dat D_law_c8 20 rfl) rfl rfl ?_
  refine AW.iload (n := 521) (dat D_law_c8 21 rfl) rfl rfl ?_
  refine AW.iconst (n := 522) (dat D_law_c8 22 rfl) rfl ?_
  refine AW.iadd (n := 523) (dat D_law_c8 23 rfl) rfl ?_
  refine AW.sald (M := mL_law) (n := 524) (sx hi (by decide) (by decide)) (dat D_law_c8 24 rfl) rfl ?_
  refine AW.cV (n := 527) (as := [vI (scr Γ i 1), vI (scr Γ i 2)]) (st := []) (st' := [vI r1]) (uc' := uc) (us' := us) (A_X12_surfer hΓ h3) cf_X12_surfer ly_57 (le45 rfl) vc_12 (le45 rfl) wM_L_129 (le45 rfl) (le45 rfl) (dat D_law_c8 25 rfl) rfl rfl (by omega) (by omega) rfl (fun _ => ?_) nlt0
  refine AW.istore (n := 529) (ls' := [some (vO 100), some (vR 0), some (vR 57), some (vR 84), some (vI i), some (vI (cdL [1, 3] o.1)), some (vI r1), none]) (dat D_law_c8 26 rfl) rfl (le45 rfl) (le45 rfl) rfl rfl ?_
  refine AW.aload_n (n := 530) (dat D_law_c8 27 rfl) rfl rfl ?_
  refine AW.cV (n := 533) (as := []) (st := []) (st' := [vI r2]) (uc' := uc) (us' := us) (A_X12_thrown hΓ h4) cf_X12_thrown ly_57 (le45 rfl) vc_12 (le45 rfl) wM_L_106 (le45 rfl) (le45 rfl) (dat D_law_c8 28 rfl) rfl rfl (by omega) (by omega) rfl (fun _ => ?_) nlt0
  refine AW.iload (n := 535) (dat D_law_c8 29 rfl) rfl rfl ?_
  refine AW.icmp_eq (t := 540) (n := 538) (dat D_law_c8 30 rfl) rfl rfl rfl rfl (fun _ => ?_) (fun q => absurd e4 q)
  refine AW.iload (n := 542) (dat D_law_c8 33 rfl) rfl rfl ?_
  refine AW.if_ne (t := 557) (n := 545) (dat D_law_c8 34 rfl) rfl rfl (fun hz => ?_) (fun _ => ?_)
  · refine AW.aload_n (n := 546) (dat D_law_c8 35 rfl) rfl rfl ?_
    refine AW.iconst (n := 547) (dat D_law_c8 36 rfl) rfl ?_
    refine AW.lald (N := 1) (n := 548) rfl (le45 rfl) (by decide) (dat D_law_c8 37 rfl) rfl ?_
    refine AW.iload (n := 550) (dat D_law_c8 38 rfl) rfl rfl ?_
    refine AW.i2l (n := 551) (dat D_law_c8 39 rfl) rfl ?_
    refine AW.lcmp (n := 552) (dat D_law_c8 40 rfl) rfl ?_
    refine AW.if_eq (t := 557) (n := 555) (dat D_law_c8 41 rfl) rfl rfl (fun _ => ?_) (fun q => absurd (e9 hz) q)
    refine AW.goto (t := 1794) (dat D_law_c8 44 rfl) rfl ?_
    exact AW.to (ls'' := lS i) kk (lle_s rfl (lle_s rfl (lle_s rfl (lle_s rfl (lle_s rfl (lle_n (lle_n (lle_n lle_z))))))))
  · refine AW.goto (t := 1794) (dat D_law_c8 44 rfl) rfl ?_
    exact AW.to (ls'' := lS i) kk (lle_s rfl (lle_s rfl (lle_s rfl (lle_s rfl (lle_s rfl (lle_n (lle_n (lle_n lle_z))))))))
set_option maxRecDepth 100000 in
set_option maxHeartbeats 4000000 in
theorem LC_9 {Γ : GA} (hΓ : (gl Γ).stackTraces = false) {S0 : AS} {uc us : Nat} {i : Int} (hi : inS Γ i) {n1 n3 n4 : Nat} {r1 r2 : Int} {σ σ1 σ2 : SG} {o : Nat × Int} (h1 : X11_name n1 (scr Γ i 1) (scr Γ i 2) σ = some (o, σ1)) (hk : o.1 = 0 ∨ o.1 = 1) (h3 : X12_name n3 (scr Γ i 1) (scr Γ i 2) (lxI o σ1) = some (r1, σ2)) (h4 : X12_thrown n4 σ2 = some r2) (e4 : w32 r2 = w32 (cdL [1] o.1)) (e9 : w32 (cdL [1] o.1) = 0 → w32 (cmpL (σ2 84 0) (w32 r1)) = 0) (kk : LW Γ S0 uc us 1794 (lS i) [] σ2) : LW Γ S0 (uc + 8) (us + 48) 560 (lS i) [] σ := by
  refine AW.aload_n (n := 561) (dat D_law_c9 0 rfl) rfl rfl ?_
  refine AW.oload_n (n := 562) (dat D_law_c9 1 rfl) rfl rfl ?_
  refine AW.iload (n := 564) (dat D_law_c9 2 rfl) rfl rfl ?_
  refine AW.iconst (n := 565) (dat D_law_c9 3 rfl) rfl ?_
  refine AW.iadd (n := 566) (dat D_law_c9 4 rfl) rfl ?_
  refine AW.sald (M := mL_law) (n := 567) (sx hi (by decide) (by decide)) (dat D_law_c9 5 rfl) rfl ?_
  refine AW.oload_n (n := 568) (dat D_law_c9 6 rfl) rfl rfl ?_
  refine AW.iload (n := 570) (dat D_law_c9 7 rfl) rfl rfl ?_
  refine AW.iconst (n := 571) (dat D_law_c9 8 rfl) rfl ?_
  refine AW.iadd (n := 572) (dat D_law_c9 9 rfl) rfl ?_
  refine AW.sald (M := mL_law) (n := 573) (sx hi (by decide) (by decide)) (dat D_law_c9 10 rfl) rfl ?_
  refine AW.aload_n (n := 574) (dat D_law_c9 11 rfl) rfl rfl ?_
  refine AW.callSX (h0 := (0, 10, 13, 27)) (ht := []) (n := 577) (as := [vR 0, vI (scr Γ i 1), vI (scr Γ i 2), vR 84]) (st := []) (st' := [vI (cdL [1] o.1)]) (uc' := uc) (us' := us) (A_L_name hΓ h1 hk) rfl wM_L_130 wT_L_name wN_WaveRightLaw wC_L_name ft_L_name (le45 rfl) (le45 rfl) (le45 rfl) (dat D_law_c9 12 rfl) rfl (fun q => absurd (show (85 : Nat) < 85 from q) (by decide)) (by omega) (by omega) rfl (fun _ => ?_) nlt0
  refine AW.istore (n := 579) (ls' := [some (vO 100), some (vR 0), some (vR 57), some (vR 84), some (vI i), some (vI (cdL [1] o.1)), none, none]) (dat D_law_c9 13 rfl) rfl (le45 rfl) (le45 rfl) rfl rfl ?_
  refine AW.aload_n (n := 580) (dat D_law_c9 14 rfl) rfl rfl ?_
  refine AW.oload_n (n := 581) (dat D_law_c9 15 rfl) rfl rfl ?_
  refine AW.iload (n := 583) (dat D_law_c9 16 rfl) rfl rfl ?_
  refine AW.iconst (n := 584) (dat D_law_c9 17 rfl) rfl ?_
  refine AW.iadd (n := 585) (dat D_law_c9 18 rfl) rfl ?_
  refine AW.sald (M := mL_law) (n := 586) (sx hi (by decide) (by decide)) (dat D_law_c9 19 rfl) rfl ?_
  refine AW.oload_n (n := 587) (dat D_law_c9 20 rfl) rfl rfl ?_
  refine AW.iload (n := 589) (dat D_law_c9 21 rfl) rfl rfl ?_
  refine AW.iconst (n := 590) (dat D_law_c9 22 rfl) rfl ?_
  refine AW.iadd (n := 591) (dat D_law_c9 23 rfl) rfl ?_
  refine AW.sald (M := mL_law) (n := 592) (sx hi (by decide) (by decide)) (dat D_law_c9 24 rfl) rfl ?_
  refine AW.cV (n := 595) (as := [vI (scr Γ i 1), vI (scr Γ i 2)]) (st := []) (st' := [vI r1]) (uc' := uc) (us' := us) (A_X12_name hΓ h3) cf_X12_name ly_57 (le45 rfl) vc_12 (le45 rfl) wM_L_132 (le45 rfl) (le45 rfl) (dat D_law_c9 25 rfl) rfl rfl (by omega) (by omega) rfl (fun _ => ?_) nlt0
  refine AW.istore (n := 597) (ls' := [some (vO 100), some (vR 0), some (vR 57), some (vR 84), some (vI i), some (vI (cdL [1] o.1)), some (vI r1), none]) (dat D_law_c9 26 rfl) rfl (le45 rfl) (le45 rfl) rfl rfl ?_
  refine AW.aload_n (n := 598) (dat D_law_c9 27 rfl) rfl rfl ?_
  refine AW.cV (n := 601) (as := []) (st := []) (st' := [vI r2]) (uc' := uc) (us' := us) (A_X12_thrown hΓ h4) cf_X12_thrown ly_57 (le45 rfl) vc_12 (le45 rfl) wM_L_106 (le45 rfl) (le45 rfl) (dat D_law_c9 28 rfl) rfl rfl (by omega) (by omega) rfl (fun _ => ?_) nlt0
  refine AW.iload (n := 603) (dat D_law_c9 29 rfl) rfl rfl ?_
  refine AW.icmp_eq (t := 608) (n := 606) (dat D_law_c9 30 rfl) rfl rfl rfl rfl (fun _ => ?_) (fun q => absurd e4 q)
  refine AW.iload (n := 610) (dat D_law_c9 33 rfl) rfl rfl ?_
  refine AW.if_ne (t := 625) (n := 613) (dat D_law_c9 34 rfl) rfl rfl (fun hz => ?_) (fun _ => ?_)
  · refine AW.aload_n (n := 614) (dat D_law_c9 35 rfl) rfl rfl ?_
    refine AW.iconst (n := 615) (dat D_law_c9 36 rfl) rfl ?_
    refine AW.lald (N := 1) (n := 616) rfl (le45 rfl) (by decide) (dat D_law_c9 37 rfl) rfl ?_
    refine AW.iload (n := 618) (dat D_law_c9 38 rfl) rfl rfl ?_
    refine AW.i2l (n := 619) (dat D_law_c9 39 rfl) rfl ?_
    refine AW.lcmp (n := 620) (dat D_law_c9 40 rfl) rfl ?_
    refine AW.if_eq (t := 625) (n := 623) (dat D_law_c9 41 rfl) rfl rfl (fun _ => ?_) (fun q => absurd (e9 hz) q)
    refine AW.goto (t := 1794) (dat D_law_c9 44 rfl) rfl ?_
    exact AW.to (ls'' := lS i) kk (lle_s rfl (lle_s rfl (lle_s rfl (lle_s rfl (lle_s rfl (lle_n (lle_n (lle_n lle_z))))))))
  · refine AW.goto (t := 1794) (dat D_law_c9 44 rfl) rfl ?_
    exact AW.to (ls'' := lS i) kk (lle_s rfl (lle_s rfl (lle_s rfl (lle_s rfl (lle_s rfl (lle_n (lle_n (lle_n lle_z))))))))
set_option maxRecDepth 100000 in
set_option maxHeartbeats 4000000 in
theorem LC_10 {Γ : GA} (hΓ : (gl Γ).stackTraces = false) {S0 : AS} {uc us : Nat} {i : Int} (hi : inS Γ i) {n1 n3 n4 : Nat} {r1 r2 : Int} {σ σ1 σ2 : SG} {o : Nat × Int} (h1 : X11_goal n1 (scr Γ i 1) (scr Γ i 2) σ = some (o, σ1)) (hk : o.1 = 0 ∨ o.1 = 1 ∨ o.1 = 2 ∨ o.1 = 4) (h3 : X12_goal n3 (scr Γ i 1) (scr Γ i 2) (lxI o σ1) = some (r1, σ2)) (h4 : X12_thrown n4 σ2 = some r2) (e4 : w32 r2 = w32 (cdL [1, 2, 4] o.1)) (e9 : w32 (cdL [1, 2, 4] o.1) = 0 → w32 (cmpL (σ2 84 0) (w32 r1)) = 0) (kk : LW Γ S0 uc us 1794 (lS i) [] σ2) : LW Γ S0 (uc + 8) (us + 48) 628 (lS i) [] σ := by
  refine AW.aload_n (n := 629) (dat D_law_c10 0 rfl) rfl rfl ?_
  refine AW.oload_n (n := 630) (dat D_law_c10 1 rfl) rfl rfl ?_
  refine AW.iload (n := 632) (dat D_law_c10 2 rfl) rfl rfl ?_
  refine AW.iconst (n := 633) (dat D_law_c10 3 rfl) rfl ?_
  refine AW.iadd (n := 634) (dat D_law_c10 4 rfl) rfl ?_
  refine AW.sald (M := mL_law) (n := 635) (sx hi (by decide) (by decide)) (dat D_law_c10 5 rfl) rfl ?_
  refine AW.oload_n (n := 636) (dat D_law_c10 6 rfl) rfl rfl ?_
  refine AW.iload (n := 638) (dat D_law_c10 7 rfl) rfl rfl ?_
  refine AW.iconst (n := 639) (dat D_law_c10 8 rfl) rfl ?_
  refine AW.iadd (n := 640) (dat D_law_c10 9 rfl) rfl ?_
  refine AW.sald (M := mL_law) (n := 641) (sx hi (by decide) (by decide)) (dat D_law_c10 10 rfl) rfl ?_
  refine AW.aload_n (n := 642) (dat D_law_c10 11 rfl) rfl rfl ?_
  refine AW.callSX (h0 := (0, 10, 13, 27)) (ht := [(0, 10, 17, 13), (0, 10, 21, 21)]) (n := 645) (as := [vR 0, vI (scr Γ i 1), vI (scr Γ i 2), vR 84]) (st := []) (st' := [vI (cdL [1, 2, 4] o.1)]) (uc' := uc) (us' := us) (A_L_goal hΓ h1 hk) rfl wM_L_133 wT_L_goal wN_WaveRightLaw wC_L_goal ft_L_goal (le45 rfl) (le45 rfl) (le45 rfl) (dat D_law_c10 12 rfl) rfl (fun q => absurd (show (85 : Nat) < 85 from q) (by decide)) (by omega) (by omega) rfl (fun _ => ?_) nlt0
  refine AW.istore (n := 647) (ls' := [some (vO 100), some (vR 0), some (vR 57), some (vR 84), some (vI i), some (vI (cdL [1, 2, 4] o.1)), none, none]) (dat D_law_c10 13 rfl) rfl (le45 rfl) (le45 rfl) rfl rfl ?_
  refine AW.aload_n (n := 648) (dat D_law_c10 14 rfl) rfl rfl ?_
  refine AW.oload_n (n := 649) (dat D_law_c10 15 rfl) rfl rfl ?_
  refine AW.iload (n := 651) (dat D_law_c10 16 rfl) rfl rfl ?_
  refine AW.iconst (n := 652) (dat D_law_c10 17 rfl) rfl ?_
  refine AW.iadd (n := 653) (dat D_law_c10 18 rfl) rfl ?_
  refine AW.sald (M := mL_law) (n := 654) (sx hi (by decide) (by decide)) (dat D_law_c10 19 rfl) rfl ?_
  refine AW.oload_n (n := 655) (dat D_law_c10 20 rfl) rfl rfl ?_
  refine AW.iload (n := 657) (dat D_law_c10 21 rfl) rfl rfl ?_
  refine AW.iconst (n := 658) (dat D_law_c10 22 rfl) rfl ?_
  refine AW.iadd (n := 659) (dat D_law_c10 23 rfl) rfl ?_
  refine AW.sald (M := mL_law) (n := 660) (sx hi (by decide) (by decide)) (dat D_law_c10 24 rfl) rfl ?_
  refine AW.cV (n := 663) (as := [vI (scr Γ i 1), vI (scr Γ i 2)]) (st := []) (st' := [vI r1]) (uc' := uc) (us' := us) (A_X12_goal hΓ h3) cf_X12_goal ly_57 (le45 rfl) vc_12 (le45 rfl) wM_L_135 (le45 rfl) (le45 rfl) (dat D_law_c10 25 rfl) rfl rfl (by omega) (by omega) rfl (fun _ => ?_) nlt0
  refine AW.istore (n := 665) (ls' := [some (vO 100), some (vR 0), some (vR 57), some (vR 84), some (vI i), some (vI (cdL [1, 2, 4] o.1)), some (vI r1), none]) (dat D_law_c10 26 rfl) rfl (le45 rfl) (le45 rfl) rfl rfl ?_
  refine AW.aload_n (n := 666) (dat D_law_c10 27 rfl) rfl rfl ?_
  refine AW.cV (n := 669) (as := []) (st := []) (st' := [vI r2]) (uc' := uc) (us' := us) (A_X12_thrown hΓ h4) cf_X12_thrown ly_57 (le45 rfl) vc_12 (le45 rfl) wM_L_106 (le45 rfl) (le45 rfl) (dat D_law_c10 28 rfl) rfl rfl (by omega) (by omega) rfl (fun _ => ?_) nlt0
  refine AW.iload (n := 671) (dat D_law_c10 29 rfl) rfl rfl ?_
  refine AW.icmp_eq (t := 676) (n := 674) (dat D_law_c10 30 rfl) rfl rfl rfl rfl (fun _ => ?_) (fun q => absurd e4 q)
  refine AW.iload (n := 678) (dat D_law_c10 33 rfl) rfl rfl ?_
  refine AW.if_ne (t := 693) (n := 681) (dat D_law_c10 34 rfl) rfl rfl (fun hz => ?_) (fun _ => ?_)
  · refine AW.aload_n (n := 682) (dat D_law_c10 35 rfl) rfl rfl ?_
    refine AW.iconst (n := 683) (dat D_law_c10 36 rfl) rfl ?_
    refine AW.lald (N := 1) (n := 684) rfl (le45 rfl) (by decide) (dat D_law_c10 37 rfl) rfl ?_
    refine AW.iload (n := 686) (dat D_law_c10 38 rfl) rfl rfl ?_
    refine AW.i2l (n := 687) (dat D_law_c10 39 rfl) rfl ?_
    refine AW.lcmp (n := 688) (dat D_law_c10 40 rfl) rfl ?_
    refine AW.if_eq (t := 693) (n := 691) (dat D_law_c10 41 rfl) rfl rfl (fun _ => ?_) (fun q => absurd (e9 hz) q)
    refine AW.goto (t := 1794) (dat D_law_c10 44 rfl) rfl ?_
    exact AW.to (ls'' := lS i) kk (lle_s rfl (lle_s rfl (lle_s rfl (lle_s rfl (lle_s rfl (lle_n (lle_n (lle_n lle_z))))))))
  · refine AW.goto (t := 1794) (dat D_law_c10 44 rfl) rfl ?_
    exact AW.to (ls'' := lS i) kk (lle_s rfl (lle_s rfl (lle_s rfl (lle_s rfl (lle_s rfl (lle_n (lle_n (lle_n lle_z))))))))
set_option maxRecDepth 100000 in
set_option maxHeartbeats 4000000 in
theorem LC_11 {Γ : GA} (hΓ : (gl Γ).stackTraces = false) {S0 : AS} {uc us : Nat} {i : Int} (hi : inS Γ i) {n1 n2 : Nat} {r1 r2 : Int} {σ σ1 : SG} (h1 : X11_row n1 (scr Γ i 1) σ = some r1) (h2 : X12_row n2 (scr Γ i 1) σ = some (r2, σ1)) (e2 : w32 r1 = w32 r2) (kk : LW Γ S0 uc us 1794 (lS i) [] σ1) : LW Γ S0 (uc + 8) (us + 48) 696 (lS i) [] σ := by
  refine AW.aload_n (n := 697) (dat D_law_c11 0 rfl) rfl rfl ?_
  refine AW.oload_n (n := 698) (dat D_law_c11 1 rfl) rfl rfl ?_
  refine AW.iload (n := 700) (dat D_law_c11 2 rfl) rfl rfl ?_
  refine AW.iconst (n := 701) (dat D_law_c11 3 rfl) rfl ?_
  refine AW.iadd (n := 702) (dat D_law_c11 4 rfl) rfl ?_
  refine AW.sald (M := mL_law) (n := 703) (sx hi (by decide) (by decide)) (dat D_law_c11 5 rfl) rfl ?_
  refine AW.cV (n := 706) (as := [vI (scr Γ i 1)]) (st := []) (st' := [vI r1]) (uc' := uc) (us' := us) (A_X11_row hΓ h1) cf_X11_row ly_0 (le45 rfl) vc_11 (le45 rfl) wM_L_136 (le45 rfl) (le45 rfl) (dat D_law_c11 6 rfl) rfl rfl (by omega) (by omega) rfl (fun _ => ?_) nlt0
  refine AW.aload_n (n := 707) (dat D_law_c11 7 rfl) rfl rfl ?_
  refine AW.oload_n (n := 708) (dat D_law_c11 8 rfl) rfl rfl ?_
  refine AW.iload (n := 710) (dat D_law_c11 9 rfl) rfl rfl ?_
  refine AW.iconst (n := 711) (dat D_law_c11 10 rfl) rfl ?_
  refine AW.iadd (n := 712) (dat D_law_c11 11 rfl) rfl ?_
  refine AW.sald (M := mL_law) (n := 713) (sx hi (by decide) (by decide)) (dat D_law_c11 12 rfl) rfl ?_
  refine AW.cV (n := 716) (as := [vI (scr Γ i 1)]) (st := [vI r1]) (st' := [vI r2, vI r1]) (uc' := uc) (us' := us) (A_X12_row hΓ h2) cf_X12_row ly_57 (le45 rfl) vc_12 (le45 rfl) wM_L_139 (le45 rfl) (le45 rfl) (dat D_law_c11 13 rfl) rfl rfl (by omega) (by omega) rfl (fun _ => ?_) nlt0
  refine AW.icmp_eq (t := 1794) (n := 719) (dat D_law_c11 14 rfl) rfl rfl rfl rfl (fun _ => ?_) (fun q => absurd e2 q)
  exact kk
set_option maxRecDepth 100000 in
set_option maxHeartbeats 4000000 in
theorem LC_12 {Γ : GA} (hΓ : (gl Γ).stackTraces = false) {S0 : AS} {uc us : Nat} {i : Int} (hi : inS Γ i) {n1 n3 n4 : Nat} {r1 r2 : Int} {σ σ1 σ2 : SG} {o : Nat × Int} (h1 : X11_take n1 (scr Γ i 1) (scr Γ i 2) (scr Γ i 3) (scr Γ i 4) σ = some (o, σ1)) (hk : o.1 = 0 ∨ o.1 = 1 ∨ o.1 = 2 ∨ o.1 = 4) (h3 : X12_take n3 (scr Γ i 1) (scr Γ i 2) (scr Γ i 3) (scr Γ i 4) (lxI o σ1) = some (r1, σ2)) (h4 : X12_thrown n4 σ2 = some r2) (e4 : w32 r2 = w32 (cdL [1, 2, 4] o.1)) (e9 : w32 (cdL [1, 2, 4] o.1) = 0 → w32 (cmpL (σ2 84 0) (w32 r1)) = 0) (kk : LW Γ S0 uc us 1794 (lS i) [] σ2) : LW Γ S0 (uc + 8) (us + 48) 721 (lS i) [] σ := by
  refine AW.aload_n (n := 722) (dat D_law_c12 0 rfl) rfl rfl ?_
  refine AW.oload_n (n := 723) (dat D_law_c12 1 rfl) rfl rfl ?_
  refine AW.iload (n := 725) (dat D_law_c12 2 rfl) rfl rfl ?_
  refine AW.iconst (n := 726) (dat D_law_c12 3 rfl) rfl ?_
  refine AW.iadd (n := 727) (dat D_law_c12 4 rfl) rfl ?_
  refine AW.sald (M := mL_law) (n := 728) (sx hi (by decide) (by decide)) (dat D_law_c12 5 rfl) rfl ?_
  refine AW.oload_n (n := 729) (dat D_law_c12 6 rfl) rfl rfl ?_
  refine AW.iload (n := 731) (dat D_law_c12 7 rfl) rfl rfl ?_
  refine AW.iconst (n := 732) (dat D_law_c12 8 rfl) rfl ?_
  refine AW.iadd (n := 733) (dat D_law_c12 9 rfl) rfl ?_
  refine AW.sald (M := mL_law) (n := 734) (sx hi (by decide) (by decide)) (dat D_law_c12 10 rfl) rfl ?_
  refine AW.oload_n (n := 735) (dat D_law_c12 11 rfl) rfl rfl ?_
  refine AW.iload (n := 737) (dat D_law_c12 12 rfl) rfl rfl ?_
  refine AW.iconst (n := 738) (dat D_law_c12 13 rfl) rfl ?_
  refine AW.iadd (n := 739) (dat D_law_c12 14 rfl) rfl ?_
  refine AW.sald (M := mL_law) (n := 740) (sx hi (by decide) (by decide)) (dat D_law_c12 15 rfl) rfl ?_
  refine AW.oload_n (n := 741) (dat D_law_c12 16 rfl) rfl rfl ?_
  refine AW.iload (n := 743) (dat D_law_c12 17 rfl) rfl rfl ?_
  refine AW.iconst (n := 744) (dat D_law_c12 18 rfl) rfl ?_
  refine AW.iadd (n := 745) (dat D_law_c12 19 rfl) rfl ?_
  refine AW.sald (M := mL_law) (n := 746) (sx hi (by decide) (by decide)) (dat D_law_c12 20 rfl) rfl ?_
  refine AW.aload_n (n := 747) (dat D_law_c12 21 rfl) rfl rfl ?_
  refine AW.callSX (h0 := (0, 14, 17, 27)) (ht := [(0, 14, 21, 13), (0, 14, 25, 21)]) (n := 750) (as := [vR 0, vI (scr Γ i 1), vI (scr Γ i 2), vI (scr Γ i 3), vI (scr Γ i 4), vR 84]) (st := []) (st' := [vI (cdL [1, 2, 4] o.1)]) (uc' := uc) (us' := us) (A_L_take hΓ h1 hk) rfl wM_L_140 wT_L_take wN_WaveRightLaw wC_L_take ft_L_take (le45 rfl) (le45 rfl) (le45 rfl) (dat D_law_c12 22 rfl) rfl (fun q => absurd (show (85 : Nat) < 85 from q) (by decide)) (by omega) (by omega) rfl (fun _ => ?_) nlt0
  refine AW.istore (n := 752) (ls' := [some (vO 100), some (vR 0), some (vR 57), some (vR 84), some (vI i), some (vI (cdL [1, 2, 4] o.1)), none, none]) (dat D_law_c12 23 rfl) rfl (le45 rfl) (le45 rfl) rfl rfl ?_
  refine AW.aload_n (n := 753) (dat D_law_c12 24 rfl) rfl rfl ?_
  refine AW.oload_n (n := 754) (dat D_law_c12 25 rfl) rfl rfl ?_
  refine AW.iload (n := 756) (dat D_law_c12 26 rfl) rfl rfl ?_
  refine AW.iconst (n := 757) (dat D_law_c12 27 rfl) rfl ?_
  refine AW.iadd (n := 758) (dat D_law_c12 28 rfl) rfl ?_
  refine AW.sald (M := mL_law) (n := 759) (sx hi (by decide) (by decide)) (dat D_law_c12 29 rfl) rfl ?_
  refine AW.oload_n (n := 760) (dat D_law_c12 30 rfl) rfl rfl ?_
  refine AW.iload (n := 762) (dat D_law_c12 31 rfl) rfl rfl ?_
  refine AW.iconst (n := 763) (dat D_law_c12 32 rfl) rfl ?_
  refine AW.iadd (n := 764) (dat D_law_c12 33 rfl) rfl ?_
  refine AW.sald (M := mL_law) (n := 765) (sx hi (by decide) (by decide)) (dat D_law_c12 34 rfl) rfl ?_
  refine AW.oload_n (n := 766) (dat D_law_c12 35 rfl) rfl rfl ?_
  refine AW.iload (n := 768) (dat D_law_c12 36 rfl) rfl rfl ?_
  refine AW.iconst (n := 769) (dat D_law_c12 37 rfl) rfl ?_
  refine AW.iadd (n := 770) (dat D_law_c12 38 rfl) rfl ?_
  refine AW.sald (M := mL_law) (n := 771) (sx hi (by decide) (by decide)) (dat D_law_c12 39 rfl) rfl ?_
  refine AW.oload_n (n := 772) (dat D_law_c12 40 rfl) rfl rfl ?_
  refine AW.iload (n := 774) (dat D_law_c12 41 rfl) rfl rfl ?_
  refine AW.iconst (n := 775) (dat D_law_c12 42 rfl) rfl ?_
  refine AW.iadd (n := 776) (dat D_law_c12 43 rfl) rfl ?_
  refine AW.sald (M := mL_law) (n := 777) (sx hi (by decide) (by decide)) (dat D_law_c12 44 rfl) rfl ?_
  refine AW.cV (n := 780) (as := [vI (scr Γ i 1), vI (scr Γ i 2), vI (scr Γ i 3), vI (scr Γ i 4)]) (st := []) (st' := [vI r1]) (uc' := uc) (us' := us) (A_X12_take hΓ h3) cf_X12_take ly_57 (le45 rfl) vc_12 (le45 rfl) wM_L_143 (le45 rfl) (le45 rfl) (dat D_law_c12 45 rfl) rfl rfl (by omega) (by omega) rfl (fun _ => ?_) nlt0
  refine AW.istore (n := 782) (ls' := [some (vO 100), some (vR 0), some (vR 57), some (vR 84), some (vI i), some (vI (cdL [1, 2, 4] o.1)), some (vI r1), none]) (dat D_law_c12 46 rfl) rfl (le45 rfl) (le45 rfl) rfl rfl ?_
  refine AW.aload_n (n := 783) (dat D_law_c12 47 rfl) rfl rfl ?_
  refine AW.cV (n := 786) (as := []) (st := []) (st' := [vI r2]) (uc' := uc) (us' := us) (A_X12_thrown hΓ h4) cf_X12_thrown ly_57 (le45 rfl) vc_12 (le45 rfl) wM_L_106 (le45 rfl) (le45 rfl) (dat D_law_c12 48 rfl) rfl rfl (by omega) (by omega) rfl (fun _ => ?_) nlt0
  refine AW.iload (n := 788) (dat D_law_c12 49 rfl) rfl rfl ?_
  refine AW.icmp_eq (t := 793) (n := 791) (dat D_law_c12 50 rfl) rfl rfl rfl rfl (fun _ => ?_) (fun q => absurd e4 q)
  refine AW.iload (n := 795) (dat D_law_c12 53 rfl) rfl rfl ?_
  refine AW.if_ne (t := 810) (n := 798) (dat D_law_c12 54 rfl) rfl rfl (fun hz => ?_) (fun _ => ?_)
  · refine AW.aload_n (n := 799) (dat D_law_c12 55 rfl) rfl rfl ?_
    refine AW.iconst (n := 800) (dat D_law_c12 56 rfl) rfl ?_
    refine AW.lald (N := 1) (n := 801) rfl (le45 rfl) (by decide) (dat D_law_c12 57 rfl) rfl ?_
    refine AW.iload (n := 803) (dat D_law_c12 58 rfl) rfl rfl ?_
    refine AW.i2l (n := 804) (dat D_law_c12 59 rfl) rfl ?_
    refine AW.lcmp (n := 805) (dat D_law_c12 60 rfl) rfl ?_
    refine AW.if_eq (t := 810) (n := 808) (dat D_law_c12 61 rfl) rfl rfl (fun _ => ?_) (fun q => absurd (e9 hz) q)
    refine AW.goto (t := 1794) (dat D_law_c12 64 rfl) rfl ?_
    exact AW.to (ls'' := lS i) kk (lle_s rfl (lle_s rfl (lle_s rfl (lle_s rfl (lle_s rfl (lle_n (lle_n (lle_n lle_z))))))))
  · refine AW.goto (t := 1794) (dat D_law_c12 64 rfl) rfl ?_
    exact AW.to (ls'' := lS i) kk (lle_s rfl (lle_s rfl (lle_s rfl (lle_s rfl (lle_s rfl (lle_n (lle_n (lle_n lle_z))))))))
set_option maxRecDepth 100000 in
set_option maxHeartbeats 4000000 in
theorem LC_13 {Γ : GA} (hΓ : (gl Γ).stackTraces = false) {S0 : AS} {uc us : Nat} {i : Int} (hi : inS Γ i) {n1 n3 n4 : Nat} {r1 r2 : Int} {σ σ1 σ2 : SG} {o : Nat × Int} (h1 : X11_right n1 (scr Γ i 1) (scr Γ i 2) σ = some (o, σ1)) (hk : o.1 = 0 ∨ o.1 = 1 ∨ o.1 = 2 ∨ o.1 = 4) (h3 : X12_right n3 (scr Γ i 1) (scr Γ i 2) (lxI o σ1) = some (r1, σ2)) (h4 : X12_thrown n4 σ2 = some r2) (e4 : w32 r2 = w32 (cdL [1, 2, 4] o.1)) (e9 : w32 (cdL [1, 2, 4] o.1) = 0 → w32 (cmpL (σ2 84 0) (w32 r1)) = 0) (kk : LW Γ S0 uc us 1794 (lS i) [] σ2) : LW Γ S0 (uc + 8) (us + 48) 813 (lS i) [] σ := by
  refine AW.aload_n (n := 814) (dat D_law_c13 0 rfl) rfl rfl ?_
  refine AW.oload_n (n := 815) (dat D_law_c13 1 rfl) rfl rfl ?_
  refine AW.iload (n := 817) (dat D_law_c13 2 rfl) rfl rfl ?_
  refine AW.iconst (n := 818) (dat D_law_c13 3 rfl) rfl ?_
  refine AW.iadd (n := 819) (dat D_law_c13 4 rfl) rfl ?_
  refine AW.sald (M := mL_law) (n := 820) (sx hi (by decide) (by decide)) (dat D_law_c13 5 rfl) rfl ?_
  refine AW.oload_n (n := 821) (dat D_law_c13 6 rfl) rfl rfl ?_
  refine AW.iload (n := 823) (dat D_law_c13 7 rfl) rfl rfl ?_
  refine AW.iconst (n := 824) (dat D_law_c13 8 rfl) rfl ?_
  refine AW.iadd (n := 825) (dat D_law_c13 9 rfl) rfl ?_
  refine AW.sald (M := mL_law) (n := 826) (sx hi (by decide) (by decide)) (dat D_law_c13 10 rfl) rfl ?_
  refine AW.aload_n (n := 827) (dat D_law_c13 11 rfl) rfl rfl ?_
  refine AW.callSX (h0 := (0, 10, 13, 27)) (ht := [(0, 10, 17, 13), (0, 10, 21, 21)]) (n := 830) (as := [vR 0, vI (scr Γ i 1), vI (scr Γ i 2), vR 84]) (st := []) (st' := [vI (cdL [1, 2, 4] o.1)]) (uc' := uc) (us' := us) (A_L_right hΓ h1 hk) rfl wM_L_144 wT_L_right wN_WaveRightLaw wC_L_right ft_L_right (le45 rfl) (le45 rfl) (le45 rfl) (dat D_law_c13 12 rfl) rfl (fun q => absurd (show (85 : Nat) < 85 from q) (by decide)) (by omega) (by omega) rfl (fun _ => ?_) nlt0
  refine AW.istore (n := 832) (ls' := [some (vO 100), some (vR 0), some (vR 57), some (vR 84), some (vI i), some (vI (cdL [1, 2, 4] o.1)), none, none]) (dat D_law_c13 13 rfl) rfl (le45 rfl) (le45 rfl) rfl rfl ?_
  refine AW.aload_n (n := 833) (dat D_law_c13 14 rfl) rfl rfl ?_
  refine AW.oload_n (n := 834) (dat D_law_c13 15 rfl) rfl rfl ?_
  refine AW.iload (n := 836) (dat D_law_c13 16 rfl) rfl rfl ?_
  refine AW.iconst (n := 837) (dat D_law_c13 17 rfl) rfl ?_
  refine AW.iadd (n := 838) (dat D_law_c13 18 rfl) rfl ?_
  refine AW.sald (M := mL_law) (n := 839) (sx hi (by decide) (by decide)) (dat D_law_c13 19 rfl) rfl ?_
  refine AW.oload_n (n := 840) (dat D_law_c13 20 rfl) rfl rfl ?_
  refine AW.iload (n := 842) (dat D_law_c13 21 rfl) rfl rfl ?_
  refine AW.iconst (n := 843) (dat D_law_c13 22 rfl) rfl ?_
  refine AW.iadd (n := 844) (dat D_law_c13 23 rfl) rfl ?_
  refine AW.sald (M := mL_law) (n := 845) (sx hi (by decide) (by decide)) (dat D_law_c13 24 rfl) rfl ?_
  refine AW.cV (n := 848) (as := [vI (scr Γ i 1), vI (scr Γ i 2)]) (st := []) (st' := [vI r1]) (uc' := uc) (us' := us) (A_X12_right hΓ h3) cf_X12_right ly_57 (le45 rfl) vc_12 (le45 rfl) wM_L_146 (le45 rfl) (le45 rfl) (dat D_law_c13 25 rfl) rfl rfl (by omega) (by omega) rfl (fun _ => ?_) nlt0
  refine AW.istore (n := 850) (ls' := [some (vO 100), some (vR 0), some (vR 57), some (vR 84), some (vI i), some (vI (cdL [1, 2, 4] o.1)), some (vI r1), none]) (dat D_law_c13 26 rfl) rfl (le45 rfl) (le45 rfl) rfl rfl ?_
  refine AW.aload_n (n := 851) (dat D_law_c13 27 rfl) rfl rfl ?_
  refine AW.cV (n := 854) (as := []) (st := []) (st' := [vI r2]) (uc' := uc) (us' := us) (A_X12_thrown hΓ h4) cf_X12_thrown ly_57 (le45 rfl) vc_12 (le45 rfl) wM_L_106 (le45 rfl) (le45 rfl) (dat D_law_c13 28 rfl) rfl rfl (by omega) (by omega) rfl (fun _ => ?_) nlt0
  refine AW.iload (n := 856) (dat D_law_c13 29 rfl) rfl rfl ?_
  refine AW.icmp_eq (t := 861) (n := 859) (dat D_law_c13 30 rfl) rfl rfl rfl rfl (fun _ => ?_) (fun q => absurd e4 q)
  refine AW.iload (n := 863) (dat D_law_c13 33 rfl) rfl rfl ?_
  refine AW.if_ne (t := 878) (n := 866) (dat D_law_c13 34 rfl) rfl rfl (fun hz => ?_) (fun _ => ?_)
  · refine AW.aload_n (n := 867) (dat D_law_c13 35 rfl) rfl rfl ?_
    refine AW.iconst (n := 868) (dat D_law_c13 36 rfl) rfl ?_
    refine AW.lald (N := 1) (n := 869) rfl (le45 rfl) (by decide) (dat D_law_c13 37 rfl) rfl ?_
    refine AW.iload (n := 871) (dat D_law_c13 38 rfl) rfl rfl ?_
    refine AW.i2l (n := 872) (dat D_law_c13 39 rfl) rfl ?_
    refine AW.lcmp (n := 873) (dat D_law_c13 40 rfl) rfl ?_
    refine AW.if_eq (t := 878) (n := 876) (dat D_law_c13 41 rfl) rfl rfl (fun _ => ?_) (fun q => absurd (e9 hz) q)
    refine AW.goto (t := 1794) (dat D_law_c13 44 rfl) rfl ?_
    exact AW.to (ls'' := lS i) kk (lle_s rfl (lle_s rfl (lle_s rfl (lle_s rfl (lle_s rfl (lle_n (lle_n (lle_n lle_z))))))))
  · refine AW.goto (t := 1794) (dat D_law_c13 44 rfl) rfl ?_
    exact AW.to (ls'' := lS i) kk (lle_s rfl (lle_s rfl (lle_s rfl (lle_s rfl (lle_s rfl (lle_n (lle_n (lle_n lle_z))))))))
set_option maxRecDepth 100000 in
set_option maxHeartbeats 4000000 in
theorem LC_14 {Γ : GA} (hΓ : (gl Γ).stackTraces = false) {S0 : AS} {uc us : Nat} {i : Int} (hi : inS Γ i) {n1 n3 n4 : Nat} {r1 r2 : Int} {σ σ1 σ2 : SG} {o : Nat × Int} (h1 : X11_hinders n1 (scr Γ i 1) σ = some (o, σ1)) (hk : o.1 = 0 ∨ o.1 = 1) (h3 : X12_hinders n3 (scr Γ i 1) (lxI o σ1) = some (r1, σ2)) (h4 : X12_thrown n4 σ2 = some r2) (e4 : w32 r2 = w32 (cdL [1] o.1)) (e9 : w32 (cdL [1] o.1) = 0 → w32 (cmpL (σ2 84 0) (w32 r1)) = 0) (kk : LW Γ S0 uc us 1794 (lS i) [] σ2) : LW Γ S0 (uc + 8) (us + 48) 881 (lS i) [] σ := by
  refine AW.aload_n (n := 882) (dat D_law_c14 0 rfl) rfl rfl ?_
  refine AW.oload_n (n := 883) (dat D_law_c14 1 rfl) rfl rfl ?_
  refine AW.iload (n := 885) (dat D_law_c14 2 rfl) rfl rfl ?_
  refine AW.iconst (n := 886) (dat D_law_c14 3 rfl) rfl ?_
  refine AW.iadd (n := 887) (dat D_law_c14 4 rfl) rfl ?_
  refine AW.sald (M := mL_law) (n := 888) (sx hi (by decide) (by decide)) (dat D_law_c14 5 rfl) rfl ?_
  refine AW.aload_n (n := 889) (dat D_law_c14 6 rfl) rfl rfl ?_
  refine AW.callSX (h0 := (0, 9, 12, 27)) (ht := []) (n := 892) (as := [vR 0, vI (scr Γ i 1), vR 84]) (st := []) (st' := [vI (cdL [1] o.1)]) (uc' := uc) (us' := us) (A_L_hinders hΓ h1 hk) rfl wM_L_147 wT_L_hinders wN_WaveRightLaw wC_L_hinders ft_L_hinders (le45 rfl) (le45 rfl) (le45 rfl) (dat D_law_c14 7 rfl) rfl (fun q => absurd (show (85 : Nat) < 85 from q) (by decide)) (by omega) (by omega) rfl (fun _ => ?_) nlt0
  refine AW.istore (n := 894) (ls' := [some (vO 100), some (vR 0), some (vR 57), some (vR 84), some (vI i), some (vI (cdL [1] o.1)), none, none]) (dat D_law_c14 8 rfl) rfl (le45 rfl) (le45 rfl) rfl rfl ?_
  refine AW.aload_n (n := 895) (dat D_law_c14 9 rfl) rfl rfl ?_
  refine AW.oload_n (n := 896) (dat D_law_c14 10 rfl) rfl rfl ?_
  refine AW.iload (n := 898) (dat D_law_c14 11 rfl) rfl rfl ?_
  refine AW.iconst (n := 899) (dat D_law_c14 12 rfl) rfl ?_
  refine AW.iadd (n := 900) (dat D_law_c14 13 rfl) rfl ?_
  refine AW.sald (M := mL_law) (n := 901) (sx hi (by decide) (by decide)) (dat D_law_c14 14 rfl) rfl ?_
  refine AW.cV (n := 904) (as := [vI (scr Γ i 1)]) (st := []) (st' := [vI r1]) (uc' := uc) (us' := us) (A_X12_hinders hΓ h3) cf_X12_hinders ly_57 (le45 rfl) vc_12 (le45 rfl) wM_L_150 (le45 rfl) (le45 rfl) (dat D_law_c14 15 rfl) rfl rfl (by omega) (by omega) rfl (fun _ => ?_) nlt0
  refine AW.istore (n := 906) (ls' := [some (vO 100), some (vR 0), some (vR 57), some (vR 84), some (vI i), some (vI (cdL [1] o.1)), some (vI r1), none]) (dat D_law_c14 16 rfl) rfl (le45 rfl) (le45 rfl) rfl rfl ?_
  refine AW.aload_n (n := 907) (dat D_law_c14 17 rfl) rfl rfl ?_
  refine AW.cV (n := 910) (as := []) (st := []) (st' := [vI r2]) (uc' := uc) (us' := us) (A_X12_thrown hΓ h4) cf_X12_thrown ly_57 (le45 rfl) vc_12 (le45 rfl) wM_L_106 (le45 rfl) (le45 rfl) (dat D_law_c14 18 rfl) rfl rfl (by omega) (by omega) rfl (fun _ => ?_) nlt0
  refine AW.iload (n := 912) (dat D_law_c14 19 rfl) rfl rfl ?_
  refine AW.icmp_eq (t := 917) (n := 915) (dat D_law_c14 20 rfl) rfl rfl rfl rfl (fun _ => ?_) (fun q => absurd e4 q)
  refine AW.iload (n := 919) (dat D_law_c14 23 rfl) rfl rfl ?_
  refine AW.if_ne (t := 934) (n := 922) (dat D_law_c14 24 rfl) rfl rfl (fun hz => ?_) (fun _ => ?_)
  · refine AW.aload_n (n := 923) (dat D_law_c14 25 rfl) rfl rfl ?_
    refine AW.iconst (n := 924) (dat D_law_c14 26 rfl) rfl ?_
    refine AW.lald (N := 1) (n := 925) rfl (le45 rfl) (by decide) (dat D_law_c14 27 rfl) rfl ?_
    refine AW.iload (n := 927) (dat D_law_c14 28 rfl) rfl rfl ?_
    refine AW.i2l (n := 928) (dat D_law_c14 29 rfl) rfl ?_
    refine AW.lcmp (n := 929) (dat D_law_c14 30 rfl) rfl ?_
    refine AW.if_eq (t := 934) (n := 932) (dat D_law_c14 31 rfl) rfl rfl (fun _ => ?_) (fun q => absurd (e9 hz) q)
    refine AW.goto (t := 1794) (dat D_law_c14 34 rfl) rfl ?_
    exact AW.to (ls'' := lS i) kk (lle_s rfl (lle_s rfl (lle_s rfl (lle_s rfl (lle_s rfl (lle_n (lle_n (lle_n lle_z))))))))
  · refine AW.goto (t := 1794) (dat D_law_c14 34 rfl) rfl ?_
    exact AW.to (ls'' := lS i) kk (lle_s rfl (lle_s rfl (lle_s rfl (lle_s rfl (lle_s rfl (lle_n (lle_n (lle_n lle_z))))))))
set_option maxRecDepth 100000 in
set_option maxHeartbeats 4000000 in
theorem LC_15 {Γ : GA} (hΓ : (gl Γ).stackTraces = false) {S0 : AS} {uc us : Nat} {i : Int} (hi : inS Γ i) {n1 n3 n4 : Nat} {r1 r2 : Int} {σ σ1 σ2 : SG} {o : Nat × Int} (h1 : X11_ride n1 (scr Γ i 1) (scr Γ i 2) (scr Γ i 3) σ = some (o, σ1)) (hk : o.1 = 0 ∨ o.1 = 1 ∨ o.1 = 3) (h3 : X12_ride n3 (scr Γ i 1) (scr Γ i 2) (scr Γ i 3) (lxI o σ1) = some (r1, σ2)) (h4 : X12_thrown n4 σ2 = some r2) (e4 : w32 r2 = w32 (cdL [1, 3] o.1)) (e9 : w32 (cdL [1, 3] o.1) = 0 → w32 (cmpL (σ2 84 0) (w32 r1)) = 0) (kk : LW Γ S0 uc us 1794 (lS i) [] σ2) : LW Γ S0 (uc + 8) (us + 48) 937 (lS i) [] σ := by
  refine AW.aload_n (n := 938) (dat D_law_c15 0 rfl) rfl rfl ?_
  refine AW.oload_n (n := 939) (dat D_law_c15 1 rfl) rfl rfl ?_
  refine AW.iload (n := 941) (dat D_law_c15 2 rfl) rfl rfl ?_
  refine AW.iconst (n := 942) (dat D_law_c15 3 rfl) rfl ?_
  refine AW.iadd (n := 943) (dat D_law_c15 4 rfl) rfl ?_
  refine AW.sald (M := mL_law) (n := 944) (sx hi (by decide) (by decide)) (dat D_law_c15 5 rfl) rfl ?_
  refine AW.oload_n (n := 945) (dat D_law_c15 6 rfl) rfl rfl ?_
  refine AW.iload (n := 947) (dat D_law_c15 7 rfl) rfl rfl ?_
  refine AW.iconst (n := 948) (dat D_law_c15 8 rfl) rfl ?_
  refine AW.iadd (n := 949) (dat D_law_c15 9 rfl) rfl ?_
  refine AW.sald (M := mL_law) (n := 950) (sx hi (by decide) (by decide)) (dat D_law_c15 10 rfl) rfl ?_
  refine AW.oload_n (n := 951) (dat D_law_c15 11 rfl) rfl rfl ?_
  refine AW.iload (n := 953) (dat D_law_c15 12 rfl) rfl rfl ?_
  refine AW.iconst (n := 954) (dat D_law_c15 13 rfl) rfl ?_
  refine AW.iadd (n := 955) (dat D_law_c15 14 rfl) rfl ?_
  refine AW.sald (M := mL_law) (n := 956) (sx hi (by decide) (by decide)) (dat D_law_c15 15 rfl) rfl ?_
  refine AW.aload_n (n := 957) (dat D_law_c15 16 rfl) rfl rfl ?_
  refine AW.callSX (h0 := (0, 12, 15, 27)) (ht := [(0, 12, 19, 29)]) (n := 960) (as := [vR 0, vI (scr Γ i 1), vI (scr Γ i 2), vI (scr Γ i 3), vR 84]) (st := []) (st' := [vI (cdL [1, 3] o.1)]) (uc' := uc) (us' := us) (A_L_ride hΓ h1 hk) rfl wM_L_151 wT_L_ride wN_WaveRightLaw wC_L_ride ft_L_ride (le45 rfl) (le45 rfl) (le45 rfl) (dat D_law_c15 17 rfl) rfl (fun q => absurd (show (85 : Nat) < 85 from q) (by decide)) (by omega) (by omega) rfl (fun _ => ?_) nlt0
  refine AW.istore (n := 962) (ls' := [some (vO 100), some (vR 0), some (vR 57), some (vR 84), some (vI i), some (vI (cdL [1, 3] o.1)), none, none]) (dat D_law_c15 18 rfl) rfl (le45 rfl) (le45 rfl) rfl rfl ?_
  refine AW.aload_n (n := 963) (dat D_law_c15 19 rfl) rfl rfl ?_
  refine AW.oload_n (n := 964) (dat D_law_c15 20 rfl) rfl rfl ?_
  refine AW.iload (n := 966) (dat D_law_c15 21 rfl) rfl rfl ?_
  refine AW.iconst (n := 967) (dat D_law_c15 22 rfl) rfl ?_
  refine AW.iadd (n := 968) (dat D_law_c15 23 rfl) rfl ?_
  refine AW.sald (M := mL_law) (n := 969) (sx hi (by decide) (by decide)) (dat D_law_c15 24 rfl) rfl ?_
  refine AW.oload_n (n := 970) (dat D_law_c15 25 rfl) rfl rfl ?_
  refine AW.iload (n := 972) (dat D_law_c15 26 rfl) rfl rfl ?_
  refine AW.iconst (n := 973) (dat D_law_c15 27 rfl) rfl ?_
  refine AW.iadd (n := 974) (dat D_law_c15 28 rfl) rfl ?_
  refine AW.sald (M := mL_law) (n := 975) (sx hi (by decide) (by decide)) (dat D_law_c15 29 rfl) rfl ?_
  refine AW.oload_n (n := 976) (dat D_law_c15 30 rfl) rfl rfl ?_
  refine AW.iload (n := 978) (dat D_law_c15 31 rfl) rfl rfl ?_
  refine AW.iconst (n := 979) (dat D_law_c15 32 rfl) rfl ?_
  refine AW.iadd (n := 980) (dat D_law_c15 33 rfl) rfl ?_
  refine AW.sald (M := mL_law) (n := 981) (sx hi (by decide) (by decide)) (dat D_law_c15 34 rfl) rfl ?_
  refine AW.cV (n := 984) (as := [vI (scr Γ i 1), vI (scr Γ i 2), vI (scr Γ i 3)]) (st := []) (st' := [vI r1]) (uc' := uc) (us' := us) (A_X12_ride hΓ h3) cf_X12_ride ly_57 (le45 rfl) vc_12 (le45 rfl) wM_L_154 (le45 rfl) (le45 rfl) (dat D_law_c15 35 rfl) rfl rfl (by omega) (by omega) rfl (fun _ => ?_) nlt0
  refine AW.istore (n := 986) (ls' := [some (vO 100), some (vR 0), some (vR 57), some (vR 84), some (vI i), some (vI (cdL [1, 3] o.1)), some (vI r1), none]) (dat D_law_c15 36 rfl) rfl (le45 rfl) (le45 rfl) rfl rfl ?_
  refine AW.aload_n (n := 987) (dat D_law_c15 37 rfl) rfl rfl ?_
  refine AW.cV (n := 990) (as := []) (st := []) (st' := [vI r2]) (uc' := uc) (us' := us) (A_X12_thrown hΓ h4) cf_X12_thrown ly_57 (le45 rfl) vc_12 (le45 rfl) wM_L_106 (le45 rfl) (le45 rfl) (dat D_law_c15 38 rfl) rfl rfl (by omega) (by omega) rfl (fun _ => ?_) nlt0
  refine AW.iload (n := 992) (dat D_law_c15 39 rfl) rfl rfl ?_
  refine AW.icmp_eq (t := 997) (n := 995) (dat D_law_c15 40 rfl) rfl rfl rfl rfl (fun _ => ?_) (fun q => absurd e4 q)
  refine AW.iload (n := 999) (dat D_law_c15 43 rfl) rfl rfl ?_
  refine AW.if_ne (t := 1014) (n := 1002) (dat D_law_c15 44 rfl) rfl rfl (fun hz => ?_) (fun _ => ?_)
  · refine AW.aload_n (n := 1003) (dat D_law_c15 45 rfl) rfl rfl ?_
    refine AW.iconst (n := 1004) (dat D_law_c15 46 rfl) rfl ?_
    refine AW.lald (N := 1) (n := 1005) rfl (le45 rfl) (by decide) (dat D_law_c15 47 rfl) rfl ?_
    refine AW.iload (n := 1007) (dat D_law_c15 48 rfl) rfl rfl ?_
    refine AW.i2l (n := 1008) (dat D_law_c15 49 rfl) rfl ?_
    refine AW.lcmp (n := 1009) (dat D_law_c15 50 rfl) rfl ?_
    refine AW.if_eq (t := 1014) (n := 1012) (dat D_law_c15 51 rfl) rfl rfl (fun _ => ?_) (fun q => absurd (e9 hz) q)
    refine AW.goto (t := 1794) (dat D_law_c15 54 rfl) rfl ?_
    exact AW.to (ls'' := lS i) kk (lle_s rfl (lle_s rfl (lle_s rfl (lle_s rfl (lle_s rfl (lle_n (lle_n (lle_n lle_z))))))))
  · refine AW.goto (t := 1794) (dat D_law_c15 54 rfl) rfl ?_
    exact AW.to (ls'' := lS i) kk (lle_s rfl (lle_s rfl (lle_s rfl (lle_s rfl (lle_s rfl (lle_n (lle_n (lle_n lle_z))))))))
set_option maxRecDepth 100000 in
set_option maxHeartbeats 4000000 in
theorem LC_16 {Γ : GA} (hΓ : (gl Γ).stackTraces = false) {S0 : AS} {uc us : Nat} {i : Int} (hi : inS Γ i) {n1 n3 n4 : Nat} {r1 r2 : Int} {σ σ1 σ2 : SG} {o : Nat × Int} (h1 : X11_would n1 (scr Γ i 1) (scr Γ i 2) (scr Γ i 3) (scr Γ i 4) (scr Γ i 5) σ = some (o, σ1)) (hk : o.1 = 0 ∨ o.1 = 1 ∨ o.1 = 2) (h3 : X12_would n3 (scr Γ i 1) (scr Γ i 2) (scr Γ i 3) (scr Γ i 4) (scr Γ i 5) (lxI o σ1) = some (r1, σ2)) (h4 : X12_thrown n4 σ2 = some r2) (e4 : w32 r2 = w32 (cdL [1, 2] o.1)) (e9 : w32 (cdL [1, 2] o.1) = 0 → w32 (cmpL (σ2 84 0) (w32 r1)) = 0) (kk : LW Γ S0 uc us 1794 (lS i) [] σ2) : LW Γ S0 (uc + 8) (us + 48) 1017 (lS i) [] σ := by
  refine AW.aload_n (n := 1018) (dat D_law_c16 0 rfl) rfl rfl ?_
  refine AW.oload_n (n := 1019) (dat D_law_c16 1 rfl) rfl rfl ?_
  refine AW.iload (n := 1021) (dat D_law_c16 2 rfl) rfl rfl ?_
  refine AW.iconst (n := 1022) (dat D_law_c16 3 rfl) rfl ?_
  refine AW.iadd (n := 1023) (dat D_law_c16 4 rfl) rfl ?_
  refine AW.sald (M := mL_law) (n := 1024) (sx hi (by decide) (by decide)) (dat D_law_c16 5 rfl) rfl ?_
  refine AW.oload_n (n := 1025) (dat D_law_c16 6 rfl) rfl rfl ?_
  refine AW.iload (n := 1027) (dat D_law_c16 7 rfl) rfl rfl ?_
  refine AW.iconst (n := 1028) (dat D_law_c16 8 rfl) rfl ?_
  refine AW.iadd (n := 1029) (dat D_law_c16 9 rfl) rfl ?_
  refine AW.sald (M := mL_law) (n := 1030) (sx hi (by decide) (by decide)) (dat D_law_c16 10 rfl) rfl ?_
  refine AW.oload_n (n := 1031) (dat D_law_c16 11 rfl) rfl rfl ?_
  refine AW.iload (n := 1033) (dat D_law_c16 12 rfl) rfl rfl ?_
  refine AW.iconst (n := 1034) (dat D_law_c16 13 rfl) rfl ?_
  refine AW.iadd (n := 1035) (dat D_law_c16 14 rfl) rfl ?_
  refine AW.sald (M := mL_law) (n := 1036) (sx hi (by decide) (by decide)) (dat D_law_c16 15 rfl) rfl ?_
  refine AW.oload_n (n := 1037) (dat D_law_c16 16 rfl) rfl rfl ?_
  refine AW.iload (n := 1039) (dat D_law_c16 17 rfl) rfl rfl ?_
  refine AW.iconst (n := 1040) (dat D_law_c16 18 rfl) rfl ?_
  refine AW.iadd (n := 1041) (dat D_law_c16 19 rfl) rfl ?_
  refine AW.sald (M := mL_law) (n := 1042) (sx hi (by decide) (by decide)) (dat D_law_c16 20 rfl) rfl ?_
  refine AW.oload_n (n := 1043) (dat D_law_c16 21 rfl) rfl rfl ?_
  refine AW.iload (n := 1045) (dat D_law_c16 22 rfl) rfl rfl ?_
  refine AW.iconst (n := 1046) (dat D_law_c16 23 rfl) rfl ?_
  refine AW.iadd (n := 1047) (dat D_law_c16 24 rfl) rfl ?_
  refine AW.sald (M := mL_law) (n := 1048) (sx hi (by decide) (by decide)) (dat D_law_c16 25 rfl) rfl ?_
  refine AW.aload_n (n := 1049) (dat D_law_c16 26 rfl) rfl rfl ?_
  refine AW.callSX (h0 := (0, 16, 19, 27)) (ht := [(0, 16, 23, 13)]) (n := 1052) (as := [vR 0, vI (scr Γ i 1), vI (scr Γ i 2), vI (scr Γ i 3), vI (scr Γ i 4), vI (scr Γ i 5), vR 84]) (st := []) (st' := [vI (cdL [1, 2] o.1)]) (uc' := uc) (us' := us) (A_L_would hΓ h1 hk) rfl wM_L_155 wT_L_would wN_WaveRightLaw wC_L_would ft_L_would (le45 rfl) (le45 rfl) (le45 rfl) (dat D_law_c16 27 rfl) rfl (fun q => absurd (show (85 : Nat) < 85 from q) (by decide)) (by omega) (by omega) rfl (fun _ => ?_) nlt0
  refine AW.istore (n := 1054) (ls' := [some (vO 100), some (vR 0), some (vR 57), some (vR 84), some (vI i), some (vI (cdL [1, 2] o.1)), none, none]) (dat D_law_c16 28 rfl) rfl (le45 rfl) (le45 rfl) rfl rfl ?_
  refine AW.aload_n (n := 1055) (dat D_law_c16 29 rfl) rfl rfl ?_
  refine AW.oload_n (n := 1056) (dat D_law_c16 30 rfl) rfl rfl ?_
  refine AW.iload (n := 1058) (dat D_law_c16 31 rfl) rfl rfl ?_
  refine AW.iconst (n := 1059) (dat D_law_c16 32 rfl) rfl ?_
  refine AW.iadd (n := 1060) (dat D_law_c16 33 rfl) rfl ?_
  refine AW.sald (M := mL_law) (n := 1061) (sx hi (by decide) (by decide)) (dat D_law_c16 34 rfl) rfl ?_
  refine AW.oload_n (n := 1062) (dat D_law_c16 35 rfl) rfl rfl ?_
  refine AW.iload (n := 1064) (dat D_law_c16 36 rfl) rfl rfl ?_
  refine AW.iconst (n := 1065) (dat D_law_c16 37 rfl) rfl ?_
  refine AW.iadd (n := 1066) (dat D_law_c16 38 rfl) rfl ?_
  refine AW.sald (M := mL_law) (n := 1067) (sx hi (by decide) (by decide)) (dat D_law_c16 39 rfl) rfl ?_
  refine AW.oload_n (n := 1068) (dat D_law_c16 40 rfl) rfl rfl ?_
  refine AW.iload (n := 1070) (dat D_law_c16 41 rfl) rfl rfl ?_
  refine AW.iconst (n := 1071) (dat D_law_c16 42 rfl) rfl ?_
  refine AW.iadd (n := 1072) (dat D_law_c16 43 rfl) rfl ?_
  refine AW.sald (M := mL_law) (n := 1073) (sx hi (by decide) (by decide)) (dat D_law_c16 44 rfl) rfl ?_
  refine AW.oload_n (n := 1074) (dat D_law_c16 45 rfl) rfl rfl ?_
  refine AW.iload (n := 1076) (dat D_law_c16 46 rfl) rfl rfl ?_
  refine AW.iconst (n := 1077) (dat D_law_c16 47 rfl) rfl ?_
  refine AW.iadd (n := 1078) (dat D_law_c16 48 rfl) rfl ?_
  refine AW.sald (M := mL_law) (n := 1079) (sx hi (by decide) (by decide)) (dat D_law_c16 49 rfl) rfl ?_
  refine AW.oload_n (n := 1080) (dat D_law_c16 50 rfl) rfl rfl ?_
  refine AW.iload (n := 1082) (dat D_law_c16 51 rfl) rfl rfl ?_
  refine AW.iconst (n := 1083) (dat D_law_c16 52 rfl) rfl ?_
  refine AW.iadd (n := 1084) (dat D_law_c16 53 rfl) rfl ?_
  refine AW.sald (M := mL_law) (n := 1085) (sx hi (by decide) (by decide)) (dat D_law_c16 54 rfl) rfl ?_
  refine AW.cV (n := 1088) (as := [vI (scr Γ i 1), vI (scr Γ i 2), vI (scr Γ i 3), vI (scr Γ i 4), vI (scr Γ i 5)]) (st := []) (st' := [vI r1]) (uc' := uc) (us' := us) (A_X12_would hΓ h3) cf_X12_would ly_57 (le45 rfl) vc_12 (le45 rfl) wM_L_158 (le45 rfl) (le45 rfl) (dat D_law_c16 55 rfl) rfl rfl (by omega) (by omega) rfl (fun _ => ?_) nlt0
  refine AW.istore (n := 1090) (ls' := [some (vO 100), some (vR 0), some (vR 57), some (vR 84), some (vI i), some (vI (cdL [1, 2] o.1)), some (vI r1), none]) (dat D_law_c16 56 rfl) rfl (le45 rfl) (le45 rfl) rfl rfl ?_
  refine AW.aload_n (n := 1091) (dat D_law_c16 57 rfl) rfl rfl ?_
  refine AW.cV (n := 1094) (as := []) (st := []) (st' := [vI r2]) (uc' := uc) (us' := us) (A_X12_thrown hΓ h4) cf_X12_thrown ly_57 (le45 rfl) vc_12 (le45 rfl) wM_L_106 (le45 rfl) (le45 rfl) (dat D_law_c16 58 rfl) rfl rfl (by omega) (by omega) rfl (fun _ => ?_) nlt0
  refine AW.iload (n := 1096) (dat D_law_c16 59 rfl) rfl rfl ?_
  refine AW.icmp_eq (t := 1101) (n := 1099) (dat D_law_c16 60 rfl) rfl rfl rfl rfl (fun _ => ?_) (fun q => absurd e4 q)
  refine AW.iload (n := 1103) (dat D_law_c16 63 rfl) rfl rfl ?_
  refine AW.if_ne (t := 1118) (n := 1106) (dat D_law_c16 64 rfl) rfl rfl (fun hz => ?_) (fun _ => ?_)
  · refine AW.aload_n (n := 1107) (dat D_law_c16 65 rfl) rfl rfl ?_
    refine AW.iconst (n := 1108) (dat D_law_c16 66 rfl) rfl ?_
    refine AW.lald (N := 1) (n := 1109) rfl (le45 rfl) (by decide) (dat D_law_c16 67 rfl) rfl ?_
    refine AW.iload (n := 1111) (dat D_law_c16 68 rfl) rfl rfl ?_
    refine AW.i2l (n := 1112) (dat D_law_c16 69 rfl) rfl ?_
    refine AW.lcmp (n := 1113) (dat D_law_c16 70 rfl) rfl ?_
    refine AW.if_eq (t := 1118) (n := 1116) (dat D_law_c16 71 rfl) rfl rfl (fun _ => ?_) (fun q => absurd (e9 hz) q)
    refine AW.goto (t := 1794) (dat D_law_c16 74 rfl) rfl ?_
    exact AW.to (ls'' := lS i) kk (lle_s rfl (lle_s rfl (lle_s rfl (lle_s rfl (lle_s rfl (lle_n (lle_n (lle_n lle_z))))))))
  · refine AW.goto (t := 1794) (dat D_law_c16 74 rfl) rfl ?_
    exact AW.to (ls'' := lS i) kk (lle_s rfl (lle_s rfl (lle_s rfl (lle_s rfl (lle_s rfl (lle_n (lle_n (lle_n lle_z))))))))
set_option maxRecDepth 100000 in
set_option maxHeartbeats 4000000 in
theorem LC_17 {Γ : GA} (hΓ : (gl Γ).stackTraces = false) {S0 : AS} {uc us : Nat} {i : Int} (hi : inS Γ i) {n1 n3 n4 : Nat} {r1 r2 : Int} {σ σ1 σ2 : SG} {o : Nat × Int} (h1 : X11_ranked n1 (scr Γ i 1) σ = some (o, σ1)) (hk : o.1 = 0 ∨ o.1 = 3) (h3 : X12_ranked n3 (scr Γ i 1) (lxI o σ1) = some (r1, σ2)) (h4 : X12_thrown n4 σ2 = some r2) (e4 : w32 r2 = w32 (cdL [3] o.1)) (e9 : w32 (cdL [3] o.1) = 0 → w32 (cmpL (σ2 84 0) (w32 r1)) = 0) (kk : LW Γ S0 uc us 1794 (lS i) [] σ2) : LW Γ S0 (uc + 8) (us + 48) 1121 (lS i) [] σ := by
  refine AW.aload_n (n := 1122) (dat D_law_c17 0 rfl) rfl rfl ?_
  refine AW.oload_n (n := 1123) (dat D_law_c17 1 rfl) rfl rfl ?_
  refine AW.iload (n := 1125) (dat D_law_c17 2 rfl) rfl rfl ?_
  refine AW.iconst (n := 1126) (dat D_law_c17 3 rfl) rfl ?_
  refine AW.iadd (n := 1127) (dat D_law_c17 4 rfl) rfl ?_
  refine AW.sald (M := mL_law) (n := 1128) (sx hi (by decide) (by decide)) (dat D_law_c17 5 rfl) rfl ?_
  refine AW.aload_n (n := 1129) (dat D_law_c17 6 rfl) rfl rfl ?_
  refine AW.callSX (h0 := (0, 9, 12, 29)) (ht := []) (n := 1132) (as := [vR 0, vI (scr Γ i 1), vR 84]) (st := []) (st' := [vI (cdL [3] o.1)]) (uc' := uc) (us' := us) (A_L_ranked hΓ h1 hk) rfl wM_L_159 wT_L_ranked wN_WaveRightLaw wC_L_ranked ft_L_ranked (le45 rfl) (le45 rfl) (le45 rfl) (dat D_law_c17 7 rfl) rfl (fun q => absurd (show (85 : Nat) < 85 from q) (by decide)) (by omega) (by omega) rfl (fun _ => ?_) nlt0
  refine AW.istore (n := 1134) (ls' := [some (vO 100), some (vR 0), some (vR 57), some (vR 84), some (vI i), some (vI (cdL [3] o.1)), none, none]) (dat D_law_c17 8 rfl) rfl (le45 rfl) (le45 rfl) rfl rfl ?_
  refine AW.aload_n (n := 1135) (dat D_law_c17 9 rfl) rfl rfl ?_
  refine AW.oload_n (n := 1136) (dat D_law_c17 10 rfl) rfl rfl ?_
  refine AW.iload (n := 1138) (dat D_law_c17 11 rfl) rfl rfl ?_
  refine AW.iconst (n := 1139) (dat D_law_c17 12 rfl) rfl ?_
  refine AW.iadd (n := 1140) (dat D_law_c17 13 rfl) rfl ?_
  refine AW.sald (M := mL_law) (n := 1141) (sx hi (by decide) (by decide)) (dat D_law_c17 14 rfl) rfl ?_
  refine AW.cV (n := 1144) (as := [vI (scr Γ i 1)]) (st := []) (st' := [vI r1]) (uc' := uc) (us' := us) (A_X12_ranked hΓ h3) cf_X12_ranked ly_57 (le45 rfl) vc_12 (le45 rfl) wM_L_161 (le45 rfl) (le45 rfl) (dat D_law_c17 15 rfl) rfl rfl (by omega) (by omega) rfl (fun _ => ?_) nlt0
  refine AW.istore (n := 1146) (ls' := [some (vO 100), some (vR 0), some (vR 57), some (vR 84), some (vI i), some (vI (cdL [3] o.1)), some (vI r1), none]) (dat D_law_c17 16 rfl) rfl (le45 rfl) (le45 rfl) rfl rfl ?_
  refine AW.aload_n (n := 1147) (dat D_law_c17 17 rfl) rfl rfl ?_
  refine AW.cV (n := 1150) (as := []) (st := []) (st' := [vI r2]) (uc' := uc) (us' := us) (A_X12_thrown hΓ h4) cf_X12_thrown ly_57 (le45 rfl) vc_12 (le45 rfl) wM_L_106 (le45 rfl) (le45 rfl) (dat D_law_c17 18 rfl) rfl rfl (by omega) (by omega) rfl (fun _ => ?_) nlt0
  refine AW.iload (n := 1152) (dat D_law_c17 19 rfl) rfl rfl ?_
  refine AW.icmp_eq (t := 1157) (n := 1155) (dat D_law_c17 20 rfl) rfl rfl rfl rfl (fun _ => ?_) (fun q => absurd e4 q)
  refine AW.iload (n := 1159) (dat D_law_c17 23 rfl) rfl rfl ?_
  refine AW.if_ne (t := 1174) (n := 1162) (dat D_law_c17 24 rfl) rfl rfl (fun hz => ?_) (fun _ => ?_)
  · refine AW.aload_n (n := 1163) (dat D_law_c17 25 rfl) rfl rfl ?_
    refine AW.iconst (n := 1164) (dat D_law_c17 26 rfl) rfl ?_
    refine AW.lald (N := 1) (n := 1165) rfl (le45 rfl) (by decide) (dat D_law_c17 27 rfl) rfl ?_
    refine AW.iload (n := 1167) (dat D_law_c17 28 rfl) rfl rfl ?_
    refine AW.i2l (n := 1168) (dat D_law_c17 29 rfl) rfl ?_
    refine AW.lcmp (n := 1169) (dat D_law_c17 30 rfl) rfl ?_
    refine AW.if_eq (t := 1174) (n := 1172) (dat D_law_c17 31 rfl) rfl rfl (fun _ => ?_) (fun q => absurd (e9 hz) q)
    refine AW.goto (t := 1794) (dat D_law_c17 34 rfl) rfl ?_
    exact AW.to (ls'' := lS i) kk (lle_s rfl (lle_s rfl (lle_s rfl (lle_s rfl (lle_s rfl (lle_n (lle_n (lle_n lle_z))))))))
  · refine AW.goto (t := 1794) (dat D_law_c17 34 rfl) rfl ?_
    exact AW.to (ls'' := lS i) kk (lle_s rfl (lle_s rfl (lle_s rfl (lle_s rfl (lle_s rfl (lle_n (lle_n (lle_n lle_z))))))))
set_option maxRecDepth 100000 in
set_option maxHeartbeats 4000000 in
theorem LC_18 {Γ : GA} (hΓ : (gl Γ).stackTraces = false) {S0 : AS} {uc us : Nat} {i : Int} (hi : inS Γ i) {n1 n3 n4 : Nat} {r1 r2 : Int} {σ σ1 σ2 : SG} {o : Nat × Int} (h1 : X11_need n1 (scr Γ i 1) σ = some (o, σ1)) (hk : o.1 = 0 ∨ o.1 = 1) (h3 : X12_need n3 (scr Γ i 1) (lxI o σ1) = some (r1, σ2)) (h4 : X12_thrown n4 σ2 = some r2) (e4 : w32 r2 = w32 (cdL [1] o.1)) (e9 : w32 (cdL [1] o.1) = 0 → w32 (cmpL (σ2 84 0) (w32 r1)) = 0) (kk : LW Γ S0 uc us 1794 (lS i) [] σ2) : LW Γ S0 (uc + 8) (us + 48) 1177 (lS i) [] σ := by
  refine AW.aload_n (n := 1178) (dat D_law_c18 0 rfl) rfl rfl ?_
  refine AW.oload_n (n := 1179) (dat D_law_c18 1 rfl) rfl rfl ?_
  refine AW.iload (n := 1181) (dat D_law_c18 2 rfl) rfl rfl ?_
  refine AW.iconst (n := 1182) (dat D_law_c18 3 rfl) rfl ?_
  refine AW.iadd (n := 1183) (dat D_law_c18 4 rfl) rfl ?_
  refine AW.sald (M := mL_law) (n := 1184) (sx hi (by decide) (by decide)) (dat D_law_c18 5 rfl) rfl ?_
  refine AW.aload_n (n := 1185) (dat D_law_c18 6 rfl) rfl rfl ?_
  refine AW.callSX (h0 := (0, 9, 12, 27)) (ht := []) (n := 1188) (as := [vR 0, vI (scr Γ i 1), vR 84]) (st := []) (st' := [vI (cdL [1] o.1)]) (uc' := uc) (us' := us) (A_L_need hΓ h1 hk) rfl wM_L_162 wT_L_need wN_WaveRightLaw wC_L_need ft_L_need (le45 rfl) (le45 rfl) (le45 rfl) (dat D_law_c18 7 rfl) rfl (fun q => absurd (show (85 : Nat) < 85 from q) (by decide)) (by omega) (by omega) rfl (fun _ => ?_) nlt0
  refine AW.istore (n := 1190) (ls' := [some (vO 100), some (vR 0), some (vR 57), some (vR 84), some (vI i), some (vI (cdL [1] o.1)), none, none]) (dat D_law_c18 8 rfl) rfl (le45 rfl) (le45 rfl) rfl rfl ?_
  refine AW.aload_n (n := 1191) (dat D_law_c18 9 rfl) rfl rfl ?_
  refine AW.oload_n (n := 1192) (dat D_law_c18 10 rfl) rfl rfl ?_
  refine AW.iload (n := 1194) (dat D_law_c18 11 rfl) rfl rfl ?_
  refine AW.iconst (n := 1195) (dat D_law_c18 12 rfl) rfl ?_
  refine AW.iadd (n := 1196) (dat D_law_c18 13 rfl) rfl ?_
  refine AW.sald (M := mL_law) (n := 1197) (sx hi (by decide) (by decide)) (dat D_law_c18 14 rfl) rfl ?_
  refine AW.cV (n := 1200) (as := [vI (scr Γ i 1)]) (st := []) (st' := [vI r1]) (uc' := uc) (us' := us) (A_X12_need hΓ h3) cf_X12_need ly_57 (le45 rfl) vc_12 (le45 rfl) wM_L_164 (le45 rfl) (le45 rfl) (dat D_law_c18 15 rfl) rfl rfl (by omega) (by omega) rfl (fun _ => ?_) nlt0
  refine AW.istore (n := 1202) (ls' := [some (vO 100), some (vR 0), some (vR 57), some (vR 84), some (vI i), some (vI (cdL [1] o.1)), some (vI r1), none]) (dat D_law_c18 16 rfl) rfl (le45 rfl) (le45 rfl) rfl rfl ?_
  refine AW.aload_n (n := 1203) (dat D_law_c18 17 rfl) rfl rfl ?_
  refine AW.cV (n := 1206) (as := []) (st := []) (st' := [vI r2]) (uc' := uc) (us' := us) (A_X12_thrown hΓ h4) cf_X12_thrown ly_57 (le45 rfl) vc_12 (le45 rfl) wM_L_106 (le45 rfl) (le45 rfl) (dat D_law_c18 18 rfl) rfl rfl (by omega) (by omega) rfl (fun _ => ?_) nlt0
  refine AW.iload (n := 1208) (dat D_law_c18 19 rfl) rfl rfl ?_
  refine AW.icmp_eq (t := 1213) (n := 1211) (dat D_law_c18 20 rfl) rfl rfl rfl rfl (fun _ => ?_) (fun q => absurd e4 q)
  refine AW.iload (n := 1215) (dat D_law_c18 23 rfl) rfl rfl ?_
  refine AW.if_ne (t := 1230) (n := 1218) (dat D_law_c18 24 rfl) rfl rfl (fun hz => ?_) (fun _ => ?_)
  · refine AW.aload_n (n := 1219) (dat D_law_c18 25 rfl) rfl rfl ?_
    refine AW.iconst (n := 1220) (dat D_law_c18 26 rfl) rfl ?_
    refine AW.lald (N := 1) (n := 1221) rfl (le45 rfl) (by decide) (dat D_law_c18 27 rfl) rfl ?_
    refine AW.iload (n := 1223) (dat D_law_c18 28 rfl) rfl rfl ?_
    refine AW.i2l (n := 1224) (dat D_law_c18 29 rfl) rfl ?_
    refine AW.lcmp (n := 1225) (dat D_law_c18 30 rfl) rfl ?_
    refine AW.if_eq (t := 1230) (n := 1228) (dat D_law_c18 31 rfl) rfl rfl (fun _ => ?_) (fun q => absurd (e9 hz) q)
    refine AW.goto (t := 1794) (dat D_law_c18 34 rfl) rfl ?_
    exact AW.to (ls'' := lS i) kk (lle_s rfl (lle_s rfl (lle_s rfl (lle_s rfl (lle_s rfl (lle_n (lle_n (lle_n lle_z))))))))
  · refine AW.goto (t := 1794) (dat D_law_c18 34 rfl) rfl ?_
    exact AW.to (ls'' := lS i) kk (lle_s rfl (lle_s rfl (lle_s rfl (lle_s rfl (lle_s rfl (lle_n (lle_n (lle_n lle_z))))))))
set_option maxRecDepth 100000 in
set_option maxHeartbeats 4000000 in
theorem LC_19 {Γ : GA} (hΓ : (gl Γ).stackTraces = false) {S0 : AS} {uc us : Nat} {i : Int} (hi : inS Γ i) {n1 n3 n4 : Nat} {r1 r2 : Int} {σ σ1 σ2 : SG} {o : Nat × Int} (h1 : X11_best n1 (scr Γ i 1) (scr Γ i 2) σ = some (o, σ1)) (hk : o.1 = 0 ∨ o.1 = 1 ∨ o.1 = 3 ∨ o.1 = 4) (h3 : X12_best n3 (scr Γ i 1) (scr Γ i 2) (lxI o σ1) = some (r1, σ2)) (h4 : X12_thrown n4 σ2 = some r2) (e4 : w32 r2 = w32 (cdL [1, 3, 4] o.1)) (e9 : w32 (cdL [1, 3, 4] o.1) = 0 → w32 (cmpL (σ2 84 0) (w32 r1)) = 0) (kk : LW Γ S0 uc us 1794 (lS i) [] σ2) : LW Γ S0 (uc + 8) (us + 48) 1233 (lS i) [] σ := by
  refine AW.aload_n (n := 1234) (dat D_law_c19 0 rfl) rfl rfl ?_
  refine AW.oload_n (n := 1235) (dat D_law_c19 1 rfl) rfl rfl ?_
  refine AW.iload (n := 1237) (dat D_law_c19 2 rfl) rfl rfl ?_
  refine AW.iconst (n := 1238) (dat D_law_c19 3 rfl) rfl ?_
  refine AW.iadd (n := 1239) (dat D_law_c19 4 rfl) rfl ?_
  refine AW.sald (M := mL_law) (n := 1240) (sx hi (by decide) (by decide)) (dat D_law_c19 5 rfl) rfl ?_
  refine AW.oload_n (n := 1241) (dat D_law_c19 6 rfl) rfl rfl ?_
  refine AW.iload (n := 1243) (dat D_law_c19 7 rfl) rfl rfl ?_
  refine AW.iconst (n := 1244) (dat D_law_c19 8 rfl) rfl ?_
  refine AW.iadd (n := 1245) (dat D_law_c19 9 rfl) rfl ?_
  refine AW.sald (M := mL_law) (n := 1246) (sx hi (by decide) (by decide)) (dat D_law_c19 10 rfl) rfl ?_
  refine AW.aload_n (n := 1247) (dat D_law_c19 11 rfl) rfl rfl ?_
  refine AW.callSX (h0 := (0, 10, 13, 27)) (ht := [(0, 10, 17, 29), (0, 10, 21, 21)]) (n := 1250) (as := [vR 0, vI (scr Γ i 1), vI (scr Γ i 2), vR 84]) (st := []) (st' := [vI (cdL [1, 3, 4] o.1)]) (uc' := uc) (us' := us) (A_L_best hΓ h1 hk) rfl wM_L_165 wT_L_best wN_WaveRightLaw wC_L_best ft_L_best (le45 rfl) (le45 rfl) (le45 rfl) (dat D_law_c19 12 rfl) rfl (fun q => absurd (show (85 : Nat) < 85 from q) (by decide)) (by omega) (by omega) rfl (fun _ => ?_) nlt0
  refine AW.istore (n := 1252) (ls' := [some (vO 100), some (vR 0), some (vR 57), some (vR 84), some (vI i), some (vI (cdL [1, 3, 4] o.1)), none, none]) (dat D_law_c19 13 rfl) rfl (le45 rfl) (le45 rfl) rfl rfl ?_
  refine AW.aload_n (n := 1253) (dat D_law_c19 14 rfl) rfl rfl ?_
  refine AW.oload_n (n := 1254) (dat D_law_c19 15 rfl) rfl rfl ?_
  refine AW.iload (n := 1256) (dat D_law_c19 16 rfl) rfl rfl ?_
  refine AW.iconst (n := 1257) (dat D_law_c19 17 rfl) rfl ?_
  refine AW.iadd (n := 1258) (dat D_law_c19 18 rfl) rfl ?_
  refine AW.sald (M := mL_law) (n := 1259) (sx hi (by decide) (by decide)) (dat D_law_c19 19 rfl) rfl ?_
  refine AW.oload_n (n := 1260) (dat D_law_c19 20 rfl) rfl rfl ?_
  refine AW.iload (n := 1262) (dat D_law_c19 21 rfl) rfl rfl ?_
  refine AW.iconst (n := 1263) (dat D_law_c19 22 rfl) rfl ?_
  refine AW.iadd (n := 1264) (dat D_law_c19 23 rfl) rfl ?_
  refine AW.sald (M := mL_law) (n := 1265) (sx hi (by decide) (by decide)) (dat D_law_c19 24 rfl) rfl ?_
  refine AW.cV (n := 1268) (as := [vI (scr Γ i 1), vI (scr Γ i 2)]) (st := []) (st' := [vI r1]) (uc' := uc) (us' := us) (A_X12_best hΓ h3) cf_X12_best ly_57 (le45 rfl) vc_12 (le45 rfl) wM_L_167 (le45 rfl) (le45 rfl) (dat D_law_c19 25 rfl) rfl rfl (by omega) (by omega) rfl (fun _ => ?_) nlt0
  refine AW.istore (n := 1270) (ls' := [some (vO 100), some (vR 0), some (vR 57), some (vR 84), some (vI i), some (vI (cdL [1, 3, 4] o.1)), some (vI r1), none]) (dat D_law_c19 26 rfl) rfl (le45 rfl) (le45 rfl) rfl rfl ?_
  refine AW.aload_n (n := 1271) (dat D_law_c19 27 rfl) rfl rfl ?_
  refine AW.cV (n := 1274) (as := []) (st := []) (st' := [vI r2]) (uc' := uc) (us' := us) (A_X12_thrown hΓ h4) cf_X12_thrown ly_57 (le45 rfl) vc_12 (le45 rfl) wM_L_106 (le45 rfl) (le45 rfl) (dat D_law_c19 28 rfl) rfl rfl (by omega) (by omega) rfl (fun _ => ?_) nlt0
  refine AW.iload (n := 1276) (dat D_law_c19 29 rfl) rfl rfl ?_
  refine AW.icmp_eq (t := 1281) (n := 1279) (dat D_law_c19 30 rfl) rfl rfl rfl rfl (fun _ => ?_) (fun q => absurd e4 q)
  refine AW.iload (n := 1283) (dat D_law_c19 33 rfl) rfl rfl ?_
  refine AW.if_ne (t := 1298) (n := 1286) (dat D_law_c19 34 rfl) rfl rfl (fun hz => ?_) (fun _ => ?_)
  · refine AW.aload_n (n := 1287) (dat D_law_c19 35 rfl) rfl rfl ?_
    refine AW.iconst (n := 1288) (dat D_law_c19 36 rfl) rfl ?_
    refine AW.lald (N := 1) (n := 1289) rfl (le45 rfl) (by decide) (dat D_law_c19 37 rfl) rfl ?_
    refine AW.iload (n := 1291) (dat D_law_c19 38 rfl) rfl rfl ?_
    refine AW.i2l (n := 1292) (dat D_law_c19 39 rfl) rfl ?_
    refine AW.lcmp (n := 1293) (dat D_law_c19 40 rfl) rfl ?_
    refine AW.if_eq (t := 1298) (n := 1296) (dat D_law_c19 41 rfl) rfl rfl (fun _ => ?_) (fun q => absurd (e9 hz) q)
    refine AW.goto (t := 1794) (dat D_law_c19 44 rfl) rfl ?_
    exact AW.to (ls'' := lS i) kk (lle_s rfl (lle_s rfl (lle_s rfl (lle_s rfl (lle_s rfl (lle_n (lle_n (lle_n lle_z))))))))
  · refine AW.goto (t := 1794) (dat D_law_c19 44 rfl) rfl ?_
    exact AW.to (ls'' := lS i) kk (lle_s rfl (lle_s rfl (lle_s rfl (lle_s rfl (lle_s rfl (lle_n (lle_n (lle_n lle_z))))))))
set_option maxRecDepth 100000 in
set_option maxHeartbeats 4000000 in
theorem LC_20 {Γ : GA} (hΓ : (gl Γ).stackTraces = false) {S0 : AS} {uc us : Nat} {i : Int} (hi : inS Γ i) {n1 n3 n4 : Nat} {r1 r2 : Int} {σ σ1 σ2 : SG} {o : Nat × Int} (h1 : X11_plan n1 (scr Γ i 1) (scr Γ i 2) σ = some (o, σ1)) (hk : o.1 = 0 ∨ o.1 = 1 ∨ o.1 = 3 ∨ o.1 = 4) (h3 : X12_plan n3 (scr Γ i 1) (scr Γ i 2) (lxI o σ1) = some (r1, σ2)) (h4 : X12_thrown n4 σ2 = some r2) (e4 : w32 r2 = w32 (cdL [1, 3, 4] o.1)) (e9 : w32 (cdL [1, 3, 4] o.1) = 0 → w32 (cmpL (σ2 84 0) (w32 r1)) = 0) (kk : LW Γ S0 uc us 1794 (lS i) [] σ2) : LW Γ S0 (uc + 8) (us + 48) 1301 (lS i) [] σ := by
  refine AW.aload_n (n := 1302) (dat D_law_c20 0 rfl) rfl rfl ?_
  refine AW.oload_n (n := 1303) (dat D_law_c20 1 rfl) rfl rfl ?_
  refine AW.iload (n := 1305) (dat D_law_c20 2 rfl) rfl rfl ?_
  refine AW.iconst (n := 1306) (dat D_law_c20 3 rfl) rfl ?_
  refine AW.iadd (n := 1307) (dat D_law_c20 4 rfl) rfl ?_
  refine AW.sald (M := mL_law) (n := 1308) (sx hi (by decide) (by decide)) (dat D_law_c20 5 rfl) rfl ?_
  refine AW.oload_n (n := 1309) (dat D_law_c20 6 rfl) rfl rfl ?_
  refine AW.iload (n := 1311) (dat D_law_c20 7 rfl) rfl rfl ?_
  refine AW.iconst (n := 1312) (dat D_law_c20 8 rfl) rfl ?_
  refine AW.iadd (n := 1313) (dat D_law_c20 9 rfl) rfl ?_
  refine AW.sald (M := mL_law) (n := 1314) (sx hi (by decide) (by decide)) (dat D_law_c20 10 rfl) rfl ?_
  refine AW.aload_n (n := 1315) (dat D_law_c20 11 rfl) rfl rfl ?_
  refine AW.callSX (h0 := (0, 10, 13, 27)) (ht := [(0, 10, 17, 29), (0, 10, 21, 21)]) (n := 1318) (as := [vR 0, vI (scr Γ i 1), vI (scr Γ i 2), vR 84]) (st := []) (st' := [vI (cdL [1, 3, 4] o.1)]) (uc' := uc) (us' := us) (A_L_plan hΓ h1 hk) rfl wM_L_168 wT_L_plan wN_WaveRightLaw wC_L_plan ft_L_plan (le45 rfl) (le45 rfl) (le45 rfl) (dat D_law_c20 12 rfl) rfl (fun q => absurd (show (85 : Nat) < 85 from q) (by decide)) (by omega) (by omega) rfl (fun _ => ?_) nlt0
  refine AW.istore (n := 1320) (ls' := [some (vO 100), some (vR 0), some (vR 57), some (vR 84), some (vI i), some (vI (cdL [1, 3, 4] o.1)), none, none]) (dat D_law_c20 13 rfl) rfl (le45 rfl) (le45 rfl) rfl rfl ?_
  refine AW.aload_n (n := 1321) (dat D_law_c20 14 rfl) rfl rfl ?_
  refine AW.oload_n (n := 1322) (dat D_law_c20 15 rfl) rfl rfl ?_
  refine AW.iload (n := 1324) (dat D_law_c20 16 rfl) rfl rfl ?_
  refine AW.iconst (n := 1325) (dat D_law_c20 17 rfl) rfl ?_
  refine AW.iadd (n := 1326) (dat D_law_c20 18 rfl) rfl ?_
  refine AW.sald (M := mL_law) (n := 1327) (sx hi (by decide) (by decide)) (dat D_law_c20 19 rfl) rfl ?_
  refine AW.oload_n (n := 1328) (dat D_law_c20 20 rfl) rfl rfl ?_
  refine AW.iload (n := 1330) (dat D_law_c20 21 rfl) rfl rfl ?_
  refine AW.iconst (n := 1331) (dat D_law_c20 22 rfl) rfl ?_
  refine AW.iadd (n := 1332) (dat D_law_c20 23 rfl) rfl ?_
  refine AW.sald (M := mL_law) (n := 1333) (sx hi (by decide) (by decide)) (dat D_law_c20 24 rfl) rfl ?_
  refine AW.cV (n := 1336) (as := [vI (scr Γ i 1), vI (scr Γ i 2)]) (st := []) (st' := [vI r1]) (uc' := uc) (us' := us) (A_X12_plan hΓ h3) cf_X12_plan ly_57 (le45 rfl) vc_12 (le45 rfl) wM_L_170 (le45 rfl) (le45 rfl) (dat D_law_c20 25 rfl) rfl rfl (by omega) (by omega) rfl (fun _ => ?_) nlt0
  refine AW.istore (n := 1338) (ls' := [some (vO 100), some (vR 0), some (vR 57), some (vR 84), some (vI i), some (vI (cdL [1, 3, 4] o.1)), some (vI r1), none]) (dat D_law_c20 26 rfl) rfl (le45 rfl) (le45 rfl) rfl rfl ?_
  refine AW.aload_n (n := 1339) (dat D_law_c20 27 rfl) rfl rfl ?_
  refine AW.cV (n := 1342) (as := []) (st := []) (st' := [vI r2]) (uc' := uc) (us' := us) (A_X12_thrown hΓ h4) cf_X12_thrown ly_57 (le45 rfl) vc_12 (le45 rfl) wM_L_106 (le45 rfl) (le45 rfl) (dat D_law_c20 28 rfl) rfl rfl (by omega) (by omega) rfl (fun _ => ?_) nlt0
  refine AW.iload (n := 1344) (dat D_law_c20 29 rfl) rfl rfl ?_
  refine AW.icmp_eq (t := 1349) (n := 1347) (dat D_law_c20 30 rfl) rfl rfl rfl rfl (fun _ => ?_) (fun q => absurd e4 q)
  refine AW.iload (n := 1351) (dat D_law_c20 33 rfl) rfl rfl ?_
  refine AW.if_ne (t := 1366) (n := 1354) (dat D_law_c20 34 rfl) rfl rfl (fun hz => ?_) (fun _ => ?_)
  · refine AW.aload_n (n := 1355) (dat D_law_c20 35 rfl) rfl rfl ?_
    refine AW.iconst (n := 1356) (dat D_law_c20 36 rfl) rfl ?_
    refine AW.lald (N := 1) (n := 1357) rfl (le45 rfl) (by decide) (dat D_law_c20 37 rfl) rfl ?_
    refine AW.iload (n := 1359) (dat D_law_c20 38 rfl) rfl rfl ?_
    refine AW.i2l (n := 1360) (dat D_law_c20 39 rfl) rfl ?_
    refine AW.lcmp (n := 1361) (dat D_law_c20 40 rfl) rfl ?_
    refine AW.if_eq (t := 1366) (n := 1364) (dat D_law_c20 41 rfl) rfl rfl (fun _ => ?_) (fun q => absurd (e9 hz) q)
    refine AW.goto (t := 1794) (dat D_law_c20 44 rfl) rfl ?_
    exact AW.to (ls'' := lS i) kk (lle_s rfl (lle_s rfl (lle_s rfl (lle_s rfl (lle_s rfl (lle_n (lle_n (lle_n lle_z))))))))
  · refine AW.goto (t := 1794) (dat D_law_c20 44 rfl) rfl ?_
    exact AW.to (ls'' := lS i) kk (lle_s rfl (lle_s rfl (lle_s rfl (lle_s rfl (lle_s rfl (lle_n (lle_n (lle_n lle_z))))))))
set_option maxRecDepth 100000 in
set_option maxHeartbeats 4000000 in
theorem LC_21 {Γ : GA} (hΓ : (gl Γ).stackTraces = false) {S0 : AS} {uc us : Nat} {i : Int} (hi : inS Γ i) {n1 n2 : Nat} {r1 r2 : Int} {σ σ1 : SG} (h1 : X11_seen n1 (scr Γ i 1) σ = some r1) (h2 : X12_seen n2 (scr Γ i 1) σ = some (r2, σ1)) (e2 : w32 r1 = w32 r2) (kk : LW Γ S0 uc us 1794 (lS i) [] σ1) : LW Γ S0 (uc + 8) (us + 48) 1369 (lS i) [] σ := by
  refine AW.aload_n (n := 1370) (dat D_law_c21 0 rfl) rfl rfl ?_
  refine AW.oload_n (n := 1371) (dat D_law_c21 1 rfl) rfl rfl ?_
  refine AW.iload (n := 1373) (dat D_law_c21 2 rfl) rfl rfl ?_
  refine AW.iconst (n := 1374) (dat D_law_c21 3 rfl) rfl ?_
  refine AW.iadd (n := 1375) (dat D_law_c21 4 rfl) rfl ?_
  refine AW.sald (M := mL_law) (n := 1376) (sx hi (by decide) (by decide)) (dat D_law_c21 5 rfl) rfl ?_
  refine AW.cV (n := 1379) (as := [vI (scr Γ i 1)]) (st := []) (st' := [vI r1]) (uc' := uc) (us' := us) (A_X11_seen hΓ h1) cf_X11_seen ly_0 (le45 rfl) vc_11 (le45 rfl) wM_L_171 (le45 rfl) (le45 rfl) (dat D_law_c21 6 rfl) rfl rfl (by omega) (by omega) rfl (fun _ => ?_) nlt0
  refine AW.aload_n (n := 1380) (dat D_law_c21 7 rfl) rfl rfl ?_
  refine AW.oload_n (n := 1381) (dat D_law_c21 8 rfl) rfl rfl ?_
  refine AW.iload (n := 1383) (dat D_law_c21 9 rfl) rfl rfl ?_
  refine AW.iconst (n := 1384) (dat D_law_c21 10 rfl) rfl ?_
  refine AW.iadd (n := 1385) (dat D_law_c21 11 rfl) rfl ?_
  refine AW.sald (M := mL_law) (n := 1386) (sx hi (by decide) (by decide)) (dat D_law_c21 12 rfl) rfl ?_
  refine AW.cV (n := 1389) (as := [vI (scr Γ i 1)]) (st := [vI r1]) (st' := [vI r2, vI r1]) (uc' := uc) (us' := us) (A_X12_seen hΓ h2) cf_X12_seen ly_57 (le45 rfl) vc_12 (le45 rfl) wM_L_174 (le45 rfl) (le45 rfl) (dat D_law_c21 13 rfl) rfl rfl (by omega) (by omega) rfl (fun _ => ?_) nlt0
  refine AW.icmp_eq (t := 1794) (n := 1392) (dat D_law_c21 14 rfl) rfl rfl rfl rfl (fun _ => ?_) (fun q => absurd e2 q)
  exact kk
set_option maxRecDepth 100000 in
set_option maxHeartbeats 4000000 in
theorem LC_22 {Γ : GA} (hΓ : (gl Γ).stackTraces = false) {S0 : AS} {uc us : Nat} {i : Int} (hi : inS Γ i) {n1 n3 n4 : Nat} {r1 r2 : Int} {σ σ1 σ2 : SG} {o : Nat × Int} (h1 : X11_worth n1 (scr Γ i 1) (scr Γ i 2) (scr Γ i 3) σ = some (o, σ1)) (hk : o.1 = 0 ∨ o.1 = 1 ∨ o.1 = 2 ∨ o.1 = 4) (h3 : X12_worth n3 (scr Γ i 1) (scr Γ i 2) (scr Γ i 3) (lxL o σ1) = some (r1, σ2)) (h4 : X12_thrown n4 σ2 = some r2) (e4 : w32 r2 = w32 (cdL [1, 2, 4] o.1)) (e9 : w32 (cdL [1, 2, 4] o.1) = 0 → w32 (cmpL (σ2 84 0) r1) = 0) (kk : LW Γ S0 uc us 1794 (lS i) [] σ2) : LW Γ S0 (uc + 8) (us + 48) 1394 (lS i) [] σ := by
  refine AW.aload_n (n := 1395) (dat D_law_c22 0 rfl) rfl rfl ?_
  refine AW.oload_n (n := 1396) (dat D_law_c22 1 rfl) rfl rfl ?_
  refine AW.iload (n := 1398) (dat D_law_c22 2 rfl) rfl rfl ?_
  refine AW.iconst (n := 1399) (dat D_law_c22 3 rfl) rfl ?_
  refine AW.iadd (n := 1400) (dat D_law_c22 4 rfl) rfl ?_
  refine AW.sald (M := mL_law) (n := 1401) (sx hi (by decide) (by decide)) (dat D_law_c22 5 rfl) rfl ?_
  refine AW.oload_n (n := 1402) (dat D_law_c22 6 rfl) rfl rfl ?_
  refine AW.iload (n := 1404) (dat D_law_c22 7 rfl) rfl rfl ?_
  refine AW.iconst (n := 1405) (dat D_law_c22 8 rfl) rfl ?_
  refine AW.iadd (n := 1406) (dat D_law_c22 9 rfl) rfl ?_
  refine AW.sald (M := mL_law) (n := 1407) (sx hi (by decide) (by decide)) (dat D_law_c22 10 rfl) rfl ?_
  refine AW.oload_n (n := 1408) (dat D_law_c22 11 rfl) rfl rfl ?_
  refine AW.iload (n := 1410) (dat D_law_c22 12 rfl) rfl rfl ?_
  refine AW.iconst (n := 1411) (dat D_law_c22 13 rfl) rfl ?_
  refine AW.iadd (n := 1412) (dat D_law_c22 14 rfl) rfl ?_
  refine AW.sald (M := mL_law) (n := 1413) (sx hi (by decide) (by decide)) (dat D_law_c22 15 rfl) rfl ?_
  refine AW.aload_n (n := 1414) (dat D_law_c22 16 rfl) rfl rfl ?_
  refine AW.callSX (h0 := (0, 11, 14, 27)) (ht := [(0, 11, 18, 13), (0, 11, 22, 21)]) (n := 1417) (as := [vR 0, vI (scr Γ i 1), vI (scr Γ i 2), vI (scr Γ i 3), vR 84]) (st := []) (st' := [vI (cdL [1, 2, 4] o.1)]) (uc' := uc) (us' := us) (A_L_worth hΓ h1 hk) rfl wM_L_175 wT_L_worth wN_WaveRightLaw wC_L_worth ft_L_worth (le45 rfl) (le45 rfl) (le45 rfl) (dat D_law_c22 17 rfl) rfl (fun q => absurd (show (85 : Nat) < 85 from q) (by decide)) (by omega) (by omega) rfl (fun _ => ?_) nlt0
  refine AW.istore (n := 1419) (ls' := [some (vO 100), some (vR 0), some (vR 57), some (vR 84), some (vI i), some (vI (cdL [1, 2, 4] o.1)), none, none]) (dat D_law_c22 18 rfl) rfl (le45 rfl) (le45 rfl) rfl rfl ?_
  refine AW.aload_n (n := 1420) (dat D_law_c22 19 rfl) rfl rfl ?_
  refine AW.oload_n (n := 1421) (dat D_law_c22 20 rfl) rfl rfl ?_
  refine AW.iload (n := 1423) (dat D_law_c22 21 rfl) rfl rfl ?_
  refine AW.iconst (n := 1424) (dat D_law_c22 22 rfl) rfl ?_
  refine AW.iadd (n := 1425) (dat D_law_c22 23 rfl) rfl ?_
  refine AW.sald (M := mL_law) (n := 1426) (sx hi (by decide) (by decide)) (dat D_law_c22 24 rfl) rfl ?_
  refine AW.oload_n (n := 1427) (dat D_law_c22 25 rfl) rfl rfl ?_
  refine AW.iload (n := 1429) (dat D_law_c22 26 rfl) rfl rfl ?_
  refine AW.iconst (n := 1430) (dat D_law_c22 27 rfl) rfl ?_
  refine AW.iadd (n := 1431) (dat D_law_c22 28 rfl) rfl ?_
  refine AW.sald (M := mL_law) (n := 1432) (sx hi (by decide) (by decide)) (dat D_law_c22 29 rfl) rfl ?_
  refine AW.oload_n (n := 1433) (dat D_law_c22 30 rfl) rfl rfl ?_
  refine AW.iload (n := 1435) (dat D_law_c22 31 rfl) rfl rfl ?_
  refine AW.iconst (n := 1436) (dat D_law_c22 32 rfl) rfl ?_
  refine AW.iadd (n := 1437) (dat D_law_c22 33 rfl) rfl ?_
  refine AW.sald (M := mL_law) (n := 1438) (sx hi (by decide) (by decide)) (dat D_law_c22 34 rfl) rfl ?_
  refine AW.cV (n := 1441) (as := [vI (scr Γ i 1), vI (scr Γ i 2), vI (scr Γ i 3)]) (st := []) (st' := [vL r1]) (uc' := uc) (us' := us) (A_X12_worth hΓ h3) cf_X12_worth ly_57 (le45 rfl) vc_12 (le45 rfl) wM_L_177 (le45 rfl) (le45 rfl) (dat D_law_c22 35 rfl) rfl rfl (by omega) (by omega) rfl (fun _ => ?_) nlt0
  refine AW.lstore (n := 1443) (ls' := [some (vO 100), some (vR 0), some (vR 57), some (vR 84), some (vI i), some (vI (cdL [1, 2, 4] o.1)), some (vL r1), none]) (dat D_law_c22 36 rfl) rfl (le45 rfl) (le45 rfl) rfl rfl ?_
  refine AW.aload_n (n := 1444) (dat D_law_c22 37 rfl) rfl rfl ?_
  refine AW.cV (n := 1447) (as := []) (st := []) (st' := [vI r2]) (uc' := uc) (us' := us) (A_X12_thrown hΓ h4) cf_X12_thrown ly_57 (le45 rfl) vc_12 (le45 rfl) wM_L_106 (le45 rfl) (le45 rfl) (dat D_law_c22 38 rfl) rfl rfl (by omega) (by omega) rfl (fun _ => ?_) nlt0
  refine AW.iload (n := 1449) (dat D_law_c22 39 rfl) rfl rfl ?_
  refine AW.icmp_eq (t := 1454) (n := 1452) (dat D_law_c22 40 rfl) rfl rfl rfl rfl (fun _ => ?_) (fun q => absurd e4 q)
  refine AW.iload (n := 1456) (dat D_law_c22 43 rfl) rfl rfl ?_
  refine AW.if_ne (t := 1470) (n := 1459) (dat D_law_c22 44 rfl) rfl rfl (fun hz => ?_) (fun _ => ?_)
  · refine AW.aload_n (n := 1460) (dat D_law_c22 45 rfl) rfl rfl ?_
    refine AW.iconst (n := 1461) (dat D_law_c22 46 rfl) rfl ?_
    refine AW.lald (N := 1) (n := 1462) rfl (le45 rfl) (by decide) (dat D_law_c22 47 rfl) rfl ?_
    refine AW.lload (n := 1464) (dat D_law_c22 48 rfl) rfl rfl ?_
    refine AW.lcmp (n := 1465) (dat D_law_c22 49 rfl) rfl ?_
    refine AW.if_eq (t := 1470) (n := 1468) (dat D_law_c22 50 rfl) rfl rfl (fun _ => ?_) (fun q => absurd (e9 hz) q)
    refine AW.goto (t := 1794) (dat D_law_c22 53 rfl) rfl ?_
    exact AW.to (ls'' := lS i) kk (lle_s rfl (lle_s rfl (lle_s rfl (lle_s rfl (lle_s rfl (lle_n (lle_n (lle_n lle_z))))))))
  · refine AW.goto (t := 1794) (dat D_law_c22 53 rfl) rfl ?_
    exact AW.to (ls'' := lS i) kk (lle_s rfl (lle_s rfl (lle_s rfl (lle_s rfl (lle_s rfl (lle_n (lle_n (lle_n lle_z))))))))
set_option maxRecDepth 100000 in
set_option maxHeartbeats 4000000 in
theorem LC_23 {Γ : GA} (hΓ : (gl Γ).stackTraces = false) {S0 : AS} {uc us : Nat} {i : Int} (hi : inS Γ i) {n1 n3 n4 : Nat} {r1 r2 : Int} {σ σ1 σ2 : SG} {o : Nat × Int} (h1 : X11_least n1 (scr Γ i 1) (scr Γ i 2) (scr Γ i 3) σ = some (o, σ1)) (hk : o.1 = 0 ∨ o.1 = 1 ∨ o.1 = 2 ∨ o.1 = 4) (h3 : X12_least n3 (scr Γ i 1) (scr Γ i 2) (scr Γ i 3) (lxI o σ1) = some (r1, σ2)) (h4 : X12_thrown n4 σ2 = some r2) (e4 : w32 r2 = w32 (cdL [1, 2, 4] o.1)) (e9 : w32 (cdL [1, 2, 4] o.1) = 0 → w32 (cmpL (σ2 84 0) (w32 r1)) = 0) (kk : LW Γ S0 uc us 1794 (lS i) [] σ2) : LW Γ S0 (uc + 8) (us + 48) 1473 (lS i) [] σ := by
  refine AW.aload_n (n := 1474) (dat D_law_c23 0 rfl) rfl rfl ?_
  refine AW.oload_n (n := 1475) (dat D_law_c23 1 rfl) rfl rfl ?_
  refine AW.iload (n := 1477) (dat D_law_c23 2 rfl) rfl rfl ?_
  refine AW.iconst (n := 1478) (dat D_law_c23 3 rfl) rfl ?_
  refine AW.iadd (n := 1479) (dat D_law_c23 4 rfl) rfl ?_
  refine AW.sald (M := mL_law) (n := 1480) (sx hi (by decide) (by decide)) (dat D_law_c23 5 rfl) rfl ?_
  refine AW.oload_n (n := 1481) (dat D_law_c23 6 rfl) rfl rfl ?_
  refine AW.iload (n := 1483) (dat D_law_c23 7 rfl) rfl rfl ?_
  refine AW.iconst (n := 1484) (dat D_law_c23 8 rfl) rfl ?_
  refine AW.iadd (n := 1485) (dat D_law_c23 9 rfl) rfl ?_
  refine AW.sald (M := mL_law) (n := 1486) (sx hi (by decide) (by decide)) (dat D_law_c23 10 rfl) rfl ?_
  refine AW.oload_n (n := 1487) (dat D_law_c23 11 rfl) rfl rfl ?_
  refine AW.iload (n := 1489) (dat D_law_c23 12 rfl) rfl rfl ?_
  refine AW.iconst (n := 1490) (dat D_law_c23 13 rfl) rfl ?_
  refine AW.iadd (n := 1491) (dat D_law_c23 14 rfl) rfl ?_
  refine AW.sald (M := mL_law) (n := 1492) (sx hi (by decide) (by decide)) (dat D_law_c23 15 rfl) rfl ?_
  refine AW.aload_n (n := 1493) (dat D_law_c23 16 rfl) rfl rfl ?_
  refine AW.callSX (h0 := (0, 12, 15, 27)) (ht := [(0, 12, 19, 13), (0, 12, 23, 21)]) (n := 1496) (as := [vR 0, vI (scr Γ i 1), vI (scr Γ i 2), vI (scr Γ i 3), vR 84]) (st := []) (st' := [vI (cdL [1, 2, 4] o.1)]) (uc' := uc) (us' := us) (A_L_least hΓ h1 hk) rfl wM_L_178 wT_L_least wN_WaveRightLaw wC_L_least ft_L_least (le45 rfl) (le45 rfl) (le45 rfl) (dat D_law_c23 17 rfl) rfl (fun q => absurd (show (85 : Nat) < 85 from q) (by decide)) (by omega) (by omega) rfl (fun _ => ?_) nlt0
  refine AW.istore (n := 1498) (ls' := [some (vO 100), some (vR 0), some (vR 57), some (vR 84), some (vI i), some (vI (cdL [1, 2, 4] o.1)), none, none]) (dat D_law_c23 18 rfl) rfl (le45 rfl) (le45 rfl) rfl rfl ?_
  refine AW.aload_n (n := 1499) (dat D_law_c23 19 rfl) rfl rfl ?_
  refine AW.oload_n (n := 1500) (dat D_law_c23 20 rfl) rfl rfl ?_
  refine AW.iload (n := 1502) (dat D_law_c23 21 rfl) rfl rfl ?_
  refine AW.iconst (n := 1503) (dat D_law_c23 22 rfl) rfl ?_
  refine AW.iadd (n := 1504) (dat D_law_c23 23 rfl) rfl ?_
  refine AW.sald (M := mL_law) (n := 1505) (sx hi (by decide) (by decide)) (dat D_law_c23 24 rfl) rfl ?_
  refine AW.oload_n (n := 1506) (dat D_law_c23 25 rfl) rfl rfl ?_
  refine AW.iload (n := 1508) (dat D_law_c23 26 rfl) rfl rfl ?_
  refine AW.iconst (n := 1509) (dat D_law_c23 27 rfl) rfl ?_
  refine AW.iadd (n := 1510) (dat D_law_c23 28 rfl) rfl ?_
  refine AW.sald (M := mL_law) (n := 1511) (sx hi (by decide) (by decide)) (dat D_law_c23 29 rfl) rfl ?_
  refine AW.oload_n (n := 1512) (dat D_law_c23 30 rfl) rfl rfl ?_
  refine AW.iload (n := 1514) (dat D_law_c23 31 rfl) rfl rfl ?_
  refine AW.iconst (n := 1515) (dat D_law_c23 32 rfl) rfl ?_
  refine AW.iadd (n := 1516) (dat D_law_c23 33 rfl) rfl ?_
  refine AW.sald (M := mL_law) (n := 1517) (sx hi (by decide) (by decide)) (dat D_law_c23 34 rfl) rfl ?_
  refine AW.cV (n := 1520) (as := [vI (scr Γ i 1), vI (scr Γ i 2), vI (scr Γ i 3)]) (st := []) (st' := [vI r1]) (uc' := uc) (us' := us) (A_X12_least hΓ h3) cf_X12_least ly_57 (le45 rfl) vc_12 (le45 rfl) wM_L_180 (le45 rfl) (le45 rfl) (dat D_law_c23 35 rfl) rfl rfl (by omega) (by omega) rfl (fun _ => ?_) nlt0
  refine AW.istore (n := 1522) (ls' := [some (vO 100), some (vR 0), some (vR 57), some (vR 84), some (vI i), some (vI (cdL [1, 2, 4] o.1)), some (vI r1), none]) (dat D_law_c23 36 rfl) rfl (le45 rfl) (le45 rfl) rfl rfl ?_
  refine AW.aload_n (n := 1523) (dat D_law_c23 37 rfl) rfl rfl ?_
  refine AW.cV (n := 1526) (as := []) (st := []) (st' := [vI r2]) (uc' := uc) (us' := us) (A_X12_thrown hΓ h4) cf_X12_thrown ly_57 (le45 rfl) vc_12 (le45 rfl) wM_L_106 (le45 rfl) (le45 rfl) (dat D_law_c23 38 rfl) rfl rfl (by omega) (by omega) rfl (fun _ => ?_) nlt0
  refine AW.iload (n := 1528) (dat D_law_c23 39 rfl) rfl rfl ?_
  refine AW.icmp_eq (t := 1533) (n := 1531) (dat D_law_c23 40 rfl) rfl rfl rfl rfl (fun _ => ?_) (fun q => absurd e4 q)
  refine AW.iload (n := 1535) (dat D_law_c23 43 rfl) rfl rfl ?_
  refine AW.if_ne (t := 1550) (n := 1538) (dat D_law_c23 44 rfl) rfl rfl (fun hz => ?_) (fun _ => ?_)
  · refine AW.aload_n (n := 1539) (dat D_law_c23 45 rfl) rfl rfl ?_
    refine AW.iconst (n := 1540) (dat D_law_c23 46 rfl) rfl ?_
    refine AW.lald (N := 1) (n := 1541) rfl (le45 rfl) (by decide) (dat D_law_c23 47 rfl) rfl ?_
    refine AW.iload (n := 1543) (dat D_law_c23 48 rfl) rfl rfl ?_
    refine AW.i2l (n := 1544) (dat D_law_c23 49 rfl) rfl ?_
    refine AW.lcmp (n := 1545) (dat D_law_c23 50 rfl) rfl ?_
    refine AW.if_eq (t := 1550) (n := 1548) (dat D_law_c23 51 rfl) rfl rfl (fun _ => ?_) (fun q => absurd (e9 hz) q)
    refine AW.goto (t := 1794) (dat D_law_c23 54 rfl) rfl ?_
    exact AW.to (ls'' := lS i) kk (lle_s rfl (lle_s rfl (lle_s rfl (lle_s rfl (lle_s rfl (lle_n (lle_n (lle_n lle_z))))))))
  · refine AW.goto (t := 1794) (dat D_law_c23 54 rfl) rfl ?_
    exact AW.to (ls'' := lS i) kk (lle_s rfl (lle_s rfl (lle_s rfl (lle_s rfl (lle_s rfl (lle_n (lle_n (lle_n lle_z))))))))
set_option maxRecDepth 100000 in
set_option maxHeartbeats 4000000 in
theorem LC_24 {Γ : GA} (hΓ : (gl Γ).stackTraces = false) {S0 : AS} {uc us : Nat} {i : Int} (hi : inS Γ i) {n1 n3 n4 : Nat} {r1 r2 : Int} {σ σ1 σ2 : SG} {o : Nat × Int} (h1 : X11_took n1 (scr Γ i 1) (scr Γ i 2) σ = some (o, σ1)) (hk : o.1 = 0 ∨ o.1 = 1 ∨ o.1 = 3) (h3 : X12_took n3 (scr Γ i 1) (scr Γ i 2) (lxI o σ1) = some (r1, σ2)) (h4 : X12_thrown n4 σ2 = some r2) (e4 : w32 r2 = w32 (cdL [1, 3] o.1)) (e9 : w32 (cdL [1, 3] o.1) = 0 → w32 (cmpL (σ2 84 0) (w32 r1)) = 0) (kk : LW Γ S0 uc us 1794 (lS i) [] σ2) : LW Γ S0 (uc + 8) (us + 48) 1553 (lS i) [] σ := by
  refine AW.aload_n (n := 1554) (dat D_law_c24 0 rfl) rfl rfl ?_
  refine AW.oload_n (n := 1555) (dat D_law_c24 1 rfl) rfl rfl ?_
  refine AW.iload (n := 1557) (dat D_law_c24 2 rfl) rfl rfl ?_
  refine AW.iconst (n := 1558) (dat D_law_c24 3 rfl) rfl ?_
  refine AW.iadd (n := 1559) (dat D_law_c24 4 rfl) rfl ?_
  refine AW.sald (M := mL_law) (n := 1560) (sx hi (by decide) (by decide)) (dat D_law_c24 5 rfl) rfl ?_
  refine AW.oload_n (n := 1561) (dat D_law_c24 6 rfl) rfl rfl ?_
  refine AW.iload (n := 1563) (dat D_law_c24 7 rfl) rfl rfl ?_
  refine AW.iconst (n := 1564) (dat D_law_c24 8 rfl) rfl ?_
  refine AW.iadd (n := 1565) (dat D_law_c24 9 rfl) rfl ?_
  refine AW.sald (M := mL_law) (n := 1566) (sx hi (by decide) (by decide)) (dat D_law_c24 10 rfl) rfl ?_
  refine AW.aload_n (n := 1567) (dat D_law_c24 11 rfl) rfl rfl ?_
  refine AW.callSX (h0 := (0, 10, 13, 27)) (ht := [(0, 10, 17, 29)]) (n := 1570) (as := [vR 0, vI (scr Γ i 1), vI (scr Γ i 2), vR 84]) (st := []) (st' := [vI (cdL [1, 3] o.1)]) (uc' := uc) (us' := us) (A_L_took hΓ h1 hk) rfl wM_L_181 wT_L_took wN_WaveRightLaw wC_L_took ft_L_took (le45 rfl) (le45 rfl) (le45 rfl) (dat D_law_c24 12 rfl) rfl (fun q => absurd (show (85 : Nat) < 85 from q) (by decide)) (by omega) (by omega) rfl (fun _ => ?_) nlt0
  refine AW.istore (n := 1572) (ls' := [some (vO 100), some (vR 0), some (vR 57), some (vR 84), some (vI i), some (vI (cdL [1, 3] o.1)), none, none]) (dat D_law_c24 13 rfl) rfl (le45 rfl) (le45 rfl) rfl rfl ?_
  refine AW.aload_n (n := 1573) (dat D_law_c24 14 rfl) rfl rfl ?_
  refine AW.oload_n (n := 1574) (dat D_law_c24 15 rfl) rfl rfl ?_
  refine AW.iload (n := 1576) (dat D_law_c24 16 rfl) rfl rfl ?_
  refine AW.iconst (n := 1577) (dat D_law_c24 17 rfl) rfl ?_
  refine AW.iadd (n := 1578) (dat D_law_c24 18 rfl) rfl ?_
  refine AW.sald (M := mL_law) (n := 1579) (sx hi (by decide) (by decide)) (dat D_law_c24 19 rfl) rfl ?_
  refine AW.oload_n (n := 1580) (dat D_law_c24 20 rfl) rfl rfl ?_
  refine AW.iload (n := 1582) (dat D_law_c24 21 rfl) rfl rfl ?_
  refine AW.iconst (n := 1583) (dat D_law_c24 22 rfl) rfl ?_
  refine AW.iadd (n := 1584) (dat D_law_c24 23 rfl) rfl ?_
  refine AW.sald (M := mL_law) (n := 1585) (sx hi (by decide) (by decide)) (dat D_law_c24 24 rfl) rfl ?_
  refine AW.cV (n := 1588) (as := [vI (scr Γ i 1), vI (scr Γ i 2)]) (st := []) (st' := [vI r1]) (uc' := uc) (us' := us) (A_X12_took hΓ h3) cf_X12_took ly_57 (le45 rfl) vc_12 (le45 rfl) wM_L_183 (le45 rfl) (le45 rfl) (dat D_law_c24 25 rfl) rfl rfl (by omega) (by omega) rfl (fun _ => ?_) nlt0
  refine AW.istore (n := 1590) (ls' := [some (vO 100), some (vR 0), some (vR 57), some (vR 84), some (vI i), some (vI (cdL [1, 3] o.1)), some (vI r1), none]) (dat D_law_c24 26 rfl) rfl (le45 rfl) (le45 rfl) rfl rfl ?_
  refine AW.aload_n (n := 1591) (dat D_law_c24 27 rfl) rfl rfl ?_
  refine AW.cV (n := 1594) (as := []) (st := []) (st' := [vI r2]) (uc' := uc) (us' := us) (A_X12_thrown hΓ h4) cf_X12_thrown ly_57 (le45 rfl) vc_12 (le45 rfl) wM_L_106 (le45 rfl) (le45 rfl) (dat D_law_c24 28 rfl) rfl rfl (by omega) (by omega) rfl (fun _ => ?_) nlt0
  refine AW.iload (n := 1596) (dat D_law_c24 29 rfl) rfl rfl ?_
  refine AW.icmp_eq (t := 1601) (n := 1599) (dat D_law_c24 30 rfl) rfl rfl rfl rfl (fun _ => ?_) (fun q => absurd e4 q)
  refine AW.iload (n := 1603) (dat D_law_c24 33 rfl) rfl rfl ?_
  refine AW.if_ne (t := 1618) (n := 1606) (dat D_law_c24 34 rfl) rfl rfl (fun hz => ?_) (fun _ => ?_)
  · refine AW.aload_n (n := 1607) (dat D_law_c24 35 rfl) rfl rfl ?_
    refine AW.iconst (n := 1608) (dat D_law_c24 36 rfl) rfl ?_
    refine AW.lald (N := 1) (n := 1609) rfl (le45 rfl) (by decide) (dat D_law_c24 37 rfl) rfl ?_
    refine AW.iload (n := 1611) (dat D_law_c24 38 rfl) rfl rfl ?_
    refine AW.i2l (n := 1612) (dat D_law_c24 39 rfl) rfl ?_
    refine AW.lcmp (n := 1613) (dat D_law_c24 40 rfl) rfl ?_
    refine AW.if_eq (t := 1618) (n := 1616) (dat D_law_c24 41 rfl) rfl rfl (fun _ => ?_) (fun q => absurd (e9 hz) q)
    refine AW.goto (t := 1794) (dat D_law_c24 44 rfl) rfl ?_
    exact AW.to (ls'' := lS i) kk (lle_s rfl (lle_s rfl (lle_s rfl (lle_s rfl (lle_s rfl (lle_n (lle_n (lle_n lle_z))))))))
  · refine AW.goto (t := 1794) (dat D_law_c24 44 rfl) rfl ?_
    exact AW.to (ls'' := lS i) kk (lle_s rfl (lle_s rfl (lle_s rfl (lle_s rfl (lle_s rfl (lle_n (lle_n (lle_n lle_z))))))))
set_option maxRecDepth 100000 in
set_option maxHeartbeats 4000000 in
theorem LC_25 {Γ : GA} (hΓ : (gl Γ).stackTraces = false) {S0 : AS} {uc us : Nat} {i : Int} (hi : inS Γ i) {n1 n3 n4 : Nat} {r1 r2 : Int} {σ σ1 σ2 : SG} {o : Nat × Int} (h1 : X11_swim n1 (scr Γ i 1) (scr Γ i 2) σ = some (o, σ1)) (hk : o.1 = 0 ∨ o.1 = 1 ∨ o.1 = 2 ∨ o.1 = 4) (h3 : X12_swim n3 (scr Γ i 1) (scr Γ i 2) (lxI o σ1) = some (r1, σ2)) (h4 : X12_thrown n4 σ2 = some r2) (e4 : w32 r2 = w32 (cdL [1, 2, 4] o.1)) (e9 : w32 (cdL [1, 2, 4] o.1) = 0 → w32 (cmpL (σ2 84 0) (w32 r1)) = 0) (kk : LW Γ S0 uc us 1794 (lS i) [] σ2) : LW Γ S0 (uc + 8) (us + 48) 1621 (lS i) [] σ := by
  refine AW.aload_n (n := 1622) (dat D_law_c25 0 rfl) rfl rfl ?_
  refine AW.oload_n (n := 1623) (dat D_law_c25 1 rfl) rfl rfl ?_
  refine AW.iload (n := 1625) (dat D_law_c25 2 rfl) rfl rfl ?_
  refine AW.iconst (n := 1626) (dat D_law_c25 3 rfl) rfl ?_
  refine AW.iadd (n := 1627) (dat D_law_c25 4 rfl) rfl ?_
  refine AW.sald (M := mL_law) (n := 1628) (sx hi (by decide) (by decide)) (dat D_law_c25 5 rfl) rfl ?_
  refine AW.oload_n (n := 1629) (dat D_law_c25 6 rfl) rfl rfl ?_
  refine AW.iload (n := 1631) (dat D_law_c25 7 rfl) rfl rfl ?_
  refine AW.iconst (n := 1632) (dat D_law_c25 8 rfl) rfl ?_
  refine AW.iadd (n := 1633) (dat D_law_c25 9 rfl) rfl ?_
  refine AW.sald (M := mL_law) (n := 1634) (sx hi (by decide) (by decide)) (dat D_law_c25 10 rfl) rfl ?_
  refine AW.aload_n (n := 1635) (dat D_law_c25 11 rfl) rfl rfl ?_
  refine AW.callSX (h0 := (0, 10, 13, 27)) (ht := [(0, 10, 17, 13), (0, 10, 21, 21)]) (n := 1638) (as := [vR 0, vI (scr Γ i 1), vI (scr Γ i 2), vR 84]) (st := []) (st' := [vI (cdL [1, 2, 4] o.1)]) (uc' := uc) (us' := us) (A_L_swim hΓ h1 hk) rfl wM_L_184 wT_L_swim wN_WaveRightLaw wC_L_swim ft_L_swim (le45 rfl) (le45 rfl) (le45 rfl) (dat D_law_c25 12 rfl) rfl (fun q => absurd (show (85 : Nat) < 85 from q) (by decide)) (by omega) (by omega) rfl (fun _ => ?_) nlt0
  refine AW.istore (n := 1640) (ls' := [some (vO 100), some (vR 0), some (vR 57), some (vR 84), some (vI i), some (vI (cdL [1, 2, 4] o.1)), none, none]) (dat D_law_c25 13 rfl) rfl (le45 rfl) (le45 rfl) rfl rfl ?_
  refine AW.aload_n (n := 1641) (dat D_law_c25 14 rfl) rfl rfl ?_
  refine AW.oload_n (n := 1642) (dat D_law_c25 15 rfl) rfl rfl ?_
  refine AW.iload (n := 1644) (dat D_law_c25 16 rfl) rfl rfl ?_
  refine AW.iconst (n := 1645) (dat D_law_c25 17 rfl) rfl ?_
  refine AW.iadd (n := 1646) (dat D_law_c25 18 rfl) rfl ?_
  refine AW.sald (M := mL_law) (n := 1647) (sx hi (by decide) (by decide)) (dat D_law_c25 19 rfl) rfl ?_
  refine AW.oload_n (n := 1648) (dat D_law_c25 20 rfl) rfl rfl ?_
  refine AW.iload (n := 1650) (dat D_law_c25 21 rfl) rfl rfl ?_
  refine AW.iconst (n := 1651) (dat D_law_c25 22 rfl) rfl ?_
  refine AW.iadd (n := 1652) (dat D_law_c25 23 rfl) rfl ?_
  refine AW.sald (M := mL_law) (n := 1653) (sx hi (by decide) (by decide)) (dat D_law_c25 24 rfl) rfl ?_
  refine AW.cV (n := 1656) (as := [vI (scr Γ i 1), vI (scr Γ i 2)]) (st := []) (st' := [vI r1]) (uc' := uc) (us' := us) (A_X12_swim hΓ h3) cf_X12_swim ly_57 (le45 rfl) vc_12 (le45 rfl) wM_L_186 (le45 rfl) (le45 rfl) (dat D_law_c25 25 rfl) rfl rfl (by omega) (by omega) rfl (fun _ => ?_) nlt0
  refine AW.istore (n := 1658) (ls' := [some (vO 100), some (vR 0), some (vR 57), some (vR 84), some (vI i), some (vI (cdL [1, 2, 4] o.1)), some (vI r1), none]) (dat D_law_c25 26 rfl) rfl (le45 rfl) (le45 rfl) rfl rfl ?_
  refine AW.aload_n (n := 1659) (dat D_law_c25 27 rfl) rfl rfl ?_
  refine AW.cV (n := 1662) (as := []) (st := []) (st' := [vI r2]) (uc' := uc) (us' := us) (A_X12_thrown hΓ h4) cf_X12_thrown ly_57 (le45 rfl) vc_12 (le45 rfl) wM_L_106 (le45 rfl) (le45 rfl) (dat D_law_c25 28 rfl) rfl rfl (by omega) (by omega) rfl (fun _ => ?_) nlt0
  refine AW.iload (n := 1664) (dat D_law_c25 29 rfl) rfl rfl ?_
  refine AW.icmp_eq (t := 1669) (n := 1667) (dat D_law_c25 30 rfl) rfl rfl rfl rfl (fun _ => ?_) (fun q => absurd e4 q)
  refine AW.iload (n := 1671) (dat D_law_c25 33 rfl) rfl rfl ?_
  refine AW.if_ne (t := 1686) (n := 1674) (dat D_law_c25 34 rfl) rfl rfl (fun hz => ?_) (fun _ => ?_)
  · refine AW.aload_n (n := 1675) (dat D_law_c25 35 rfl) rfl rfl ?_
    refine AW.iconst (n := 1676) (dat D_law_c25 36 rfl) rfl ?_
    refine AW.lald (N := 1) (n := 1677) rfl (le45 rfl) (by decide) (dat D_law_c25 37 rfl) rfl ?_
    refine AW.iload (n := 1679) (dat D_law_c25 38 rfl) rfl rfl ?_
    refine AW.i2l (n := 1680) (dat D_law_c25 39 rfl) rfl ?_
    refine AW.lcmp (n := 1681) (dat D_law_c25 40 rfl) rfl ?_
    refine AW.if_eq (t := 1686) (n := 1684) (dat D_law_c25 41 rfl) rfl rfl (fun _ => ?_) (fun q => absurd (e9 hz) q)
    refine AW.goto (t := 1794) (dat D_law_c25 44 rfl) rfl ?_
    exact AW.to (ls'' := lS i) kk (lle_s rfl (lle_s rfl (lle_s rfl (lle_s rfl (lle_s rfl (lle_n (lle_n (lle_n lle_z))))))))
  · refine AW.goto (t := 1794) (dat D_law_c25 44 rfl) rfl ?_
    exact AW.to (ls'' := lS i) kk (lle_s rfl (lle_s rfl (lle_s rfl (lle_s rfl (lle_s rfl (lle_n (lle_n (lle_n lle_z))))))))
set_option maxRecDepth 100000 in
set_option maxHeartbeats 4000000 in
theorem LC_26 {Γ : GA} (hΓ : (gl Γ).stackTraces = false) {S0 : AS} {uc us : Nat} {i : Int} (hi : inS Γ i) {n1 n3 n4 : Nat} {r1 r2 : Int} {σ σ1 σ2 : SG} {o : Nat × Int} (h1 : X11_reach n1 (scr Γ i 1) (scr Γ i 2) (scr Γ i 3) σ = some (o, σ1)) (hk : o.1 = 0 ∨ o.1 = 1 ∨ o.1 = 3 ∨ o.1 = 4) (h3 : X12_reach n3 (scr Γ i 1) (scr Γ i 2) (scr Γ i 3) (lxI o σ1) = some (r1, σ2)) (h4 : X12_thrown n4 σ2 = some r2) (e4 : w32 r2 = w32 (cdL [1, 3, 4] o.1)) (e9 : w32 (cdL [1, 3, 4] o.1) = 0 → w32 (cmpL (σ2 84 0) (w32 r1)) = 0) (kk : LW Γ S0 uc us 1794 (lS i) [] σ2) : LW Γ S0 (uc + 8) (us + 48) 1689 (lS i) [] σ := by
  refine AW.aload_n (n := 1690) (dat D_law_c26 0 rfl) rfl rfl ?_
  refine AW.oload_n (n := 1691) (dat D_law_c26 1 rfl) rfl rfl ?_
  refine AW.iload (n := 1693) (dat D_law_c26 2 rfl) rfl rfl ?_
  refine AW.iconst (n := 1694) (dat D_law_c26 3 rfl) rfl ?_
  refine AW.iadd (n := 1695) (dat D_law_c26 4 rfl) rfl ?_
  refine AW.sald (M := mL_law) (n := 1696) (sx hi (by decide) (by decide)) (dat D_law_c26 5 rfl) rfl ?_
  refine AW.oload_n (n := 1697) (dat D_law_c26 6 rfl) rfl rfl ?_
  refine AW.iload (n := 1699) (dat D_law_c26 7 rfl) rfl rfl ?_
  refine AW.iconst (n := 1700) (dat D_law_c26 8 rfl) rfl ?_
  refine AW.iadd (n := 1701) (dat D_law_c26 9 rfl) rfl ?_
  refine AW.sald (M := mL_law) (n := 1702) (sx hi (by decide) (by decide)) (dat D_law_c26 10 rfl) rfl ?_
  refine AW.oload_n (n := 1703) (dat D_law_c26 11 rfl) rfl rfl ?_
  refine AW.iload (n := 1705) (dat D_law_c26 12 rfl) rfl rfl ?_
  refine AW.iconst (n := 1706) (dat D_law_c26 13 rfl) rfl ?_
  refine AW.iadd (n := 1707) (dat D_law_c26 14 rfl) rfl ?_
  refine AW.sald (M := mL_law) (n := 1708) (sx hi (by decide) (by decide)) (dat D_law_c26 15 rfl) rfl ?_
  refine AW.aload_n (n := 1709) (dat D_law_c26 16 rfl) rfl rfl ?_
  refine AW.callSX (h0 := (0, 12, 15, 27)) (ht := [(0, 12, 19, 29), (0, 12, 23, 21)]) (n := 1712) (as := [vR 0, vI (scr Γ i 1), vI (scr Γ i 2), vI (scr Γ i 3), vR 84]) (st := []) (st' := [vI (cdL [1, 3, 4] o.1)]) (uc' := uc) (us' := us) (A_L_reach hΓ h1 hk) rfl wM_L_187 wT_L_reach wN_WaveRightLaw wC_L_reach ft_L_reach (le45 rfl) (le45 rfl) (le45 rfl) (dat D_law_c26 17 rfl) rfl (fun q => absurd (show (85 : Nat) < 85 from q) (by decide)) (by omega) (by omega) rfl (fun _ => ?_) nlt0
  refine AW.istore (n := 1714) (ls' := [some (vO 100), some (vR 0), some (vR 57), some (vR 84), some (vI i), some (vI (cdL [1, 3, 4] o.1)), none, none]) (dat D_law_c26 18 rfl) rfl (le45 rfl) (le45 rfl) rfl rfl ?_
  refine AW.aload_n (n := 1715) (dat D_law_c26 19 rfl) rfl rfl ?_
  refine AW.oload_n (n := 1716) (dat D_law_c26 20 rfl) rfl rfl ?_
  refine AW.iload (n := 1718) (dat D_law_c26 21 rfl) rfl rfl ?_
  refine AW.iconst (n := 1719) (dat D_law_c26 22 rfl) rfl ?_
  refine AW.iadd (n := 1720) (dat D_law_c26 23 rfl) rfl ?_
  refine AW.sald (M := mL_law) (n := 1721) (sx hi (by decide) (by decide)) (dat D_law_c26 24 rfl) rfl ?_
  refine AW.oload_n (n := 1722) (dat D_law_c26 25 rfl) rfl rfl ?_
  refine AW.iload (n := 1724) (dat D_law_c26 26 rfl) rfl rfl ?_
  refine AW.iconst (n := 1725) (dat D_law_c26 27 rfl) rfl ?_
  refine AW.iadd (n := 1726) (dat D_law_c26 28 rfl) rfl ?_
  refine AW.sald (M := mL_law) (n := 1727) (sx hi (by decide) (by decide)) (dat D_law_c26 29 rfl) rfl ?_
  refine AW.oload_n (n := 1728) (dat D_law_c26 30 rfl) rfl rfl ?_
  refine AW.iload (n := 1730) (dat D_law_c26 31 rfl) rfl rfl ?_
  refine AW.iconst (n := 1731) (dat D_law_c26 32 rfl) rfl ?_
  refine AW.iadd (n := 1732) (dat D_law_c26 33 rfl) rfl ?_
  refine AW.sald (M := mL_law) (n := 1733) (sx hi (by decide) (by decide)) (dat D_law_c26 34 rfl) rfl ?_
  refine AW.cV (n := 1736) (as := [vI (scr Γ i 1), vI (scr Γ i 2), vI (scr Γ i 3)]) (st := []) (st' := [vI r1]) (uc' := uc) (us' := us) (A_X12_reach hΓ h3) cf_X12_reach ly_57 (le45 rfl) vc_12 (le45 rfl) wM_L_189 (le45 rfl) (le45 rfl) (dat D_law_c26 35 rfl) rfl rfl (by omega) (by omega) rfl (fun _ => ?_) nlt0
  refine AW.istore (n := 1738) (ls' := [some (vO 100), some (vR 0), some (vR 57), some (vR 84), some (vI i), some (vI (cdL [1, 3, 4] o.1)), some (vI r1), none]) (dat D_law_c26 36 rfl) rfl (le45 rfl) (le45 rfl) rfl rfl ?_
  refine AW.aload_n (n := 1739) (dat D_law_c26 37 rfl) rfl rfl ?_
  refine AW.cV (n := 1742) (as := []) (st := []) (st' := [vI r2]) (uc' := uc) (us' := us) (A_X12_thrown hΓ h4) cf_X12_thrown ly_57 (le45 rfl) vc_12 (le45 rfl) wM_L_106 (le45 rfl) (le45 rfl) (dat D_law_c26 38 rfl) rfl rfl (by omega) (by omega) rfl (fun _ => ?_) nlt0
  refine AW.iload (n := 1744) (dat D_law_c26 39 rfl) rfl rfl ?_
  refine AW.icmp_eq (t := 1749) (n := 1747) (dat D_law_c26 40 rfl) rfl rfl rfl rfl (fun _ => ?_) (fun q => absurd e4 q)
  refine AW.iload (n := 1751) (dat D_law_c26 43 rfl) rfl rfl ?_
  refine AW.if_ne (t := 1766) (n := 1754) (dat D_law_c26 44 rfl) rfl rfl (fun hz => ?_) (fun _ => ?_)
  · refine AW.aload_n (n := 1755) (dat D_law_c26 45 rfl) rfl rfl ?_
    refine AW.iconst (n := 1756) (dat D_law_c26 46 rfl) rfl ?_
    refine AW.lald (N := 1) (n := 1757) rfl (le45 rfl) (by decide) (dat D_law_c26 47 rfl) rfl ?_
    refine AW.iload (n := 1759) (dat D_law_c26 48 rfl) rfl rfl ?_
    refine AW.i2l (n := 1760) (dat D_law_c26 49 rfl) rfl ?_
    refine AW.lcmp (n := 1761) (dat D_law_c26 50 rfl) rfl ?_
    refine AW.if_eq (t := 1766) (n := 1764) (dat D_law_c26 51 rfl) rfl rfl (fun _ => ?_) (fun q => absurd (e9 hz) q)
    refine AW.goto (t := 1794) (dat D_law_c26 54 rfl) rfl ?_
    exact AW.to (ls'' := lS i) kk (lle_s rfl (lle_s rfl (lle_s rfl (lle_s rfl (lle_s rfl (lle_n (lle_n (lle_n lle_z))))))))
  · refine AW.goto (t := 1794) (dat D_law_c26 54 rfl) rfl ?_
    exact AW.to (ls'' := lS i) kk (lle_s rfl (lle_s rfl (lle_s rfl (lle_s rfl (lle_s rfl (lle_n (lle_n (lle_n lle_z))))))))
set_option maxRecDepth 100000 in
set_option maxHeartbeats 4000000 in
theorem LC_27 {Γ : GA} (hΓ : (gl Γ).stackTraces = false) {S0 : AS} {uc us : Nat} {i : Int} (hi : inS Γ i) {n1 n2 : Nat} {r1 r2 : Int} {σ σ1 : SG} (h1 : X11_count n1 (scr Γ i 1) σ = some r1) (h2 : X12_count n2 (scr Γ i 1) σ = some (r2, σ1)) (e2 : w32 r1 = w32 r2) (kk : LW Γ S0 uc us 1794 (lS i) [] σ1) : LW Γ S0 (uc + 8) (us + 48) 1769 (lS i) [] σ := by
  refine AW.aload_n (n := 1770) (dat D_law_c27 0 rfl) rfl rfl ?_
  refine AW.oload_n (n := 1771) (dat D_law_c27 1 rfl) rfl rfl ?_
  refine AW.iload (n := 1773) (dat D_law_c27 2 rfl) rfl rfl ?_
  refine AW.iconst (n := 1774) (dat D_law_c27 3 rfl) rfl ?_
  refine AW.iadd (n := 1775) (dat D_law_c27 4 rfl) rfl ?_
  refine AW.sald (M := mL_law) (n := 1776) (sx hi (by decide) (by decide)) (dat D_law_c27 5 rfl) rfl ?_
  refine AW.cV (n := 1779) (as := [vI (scr Γ i 1)]) (st := []) (st' := [vI r1]) (uc' := uc) (us' := us) (A_X11_count hΓ h1) cf_X11_count ly_0 (le45 rfl) vc_11 (le45 rfl) wM_L_190 (le45 rfl) (le45 rfl) (dat D_law_c27 6 rfl) rfl rfl (by omega) (by omega) rfl (fun _ => ?_) nlt0
  refine AW.aload_n (n := 1780) (dat D_law_c27 7 rfl) rfl rfl ?_
  refine AW.oload_n (n := 1781) (dat D_law_c27 8 rfl) rfl rfl ?_
  refine AW.iload (n := 1783) (dat D_law_c27 9 rfl) rfl rfl ?_
  refine AW.iconst (n := 1784) (dat D_law_c27 10 rfl) rfl ?_
  refine AW.iadd (n := 1785) (dat D_law_c27 11 rfl) rfl ?_
  refine AW.sald (M := mL_law) (n := 1786) (sx hi (by decide) (by decide)) (dat D_law_c27 12 rfl) rfl ?_
  refine AW.cV (n := 1789) (as := [vI (scr Γ i 1)]) (st := [vI r1]) (st' := [vI r2, vI r1]) (uc' := uc) (us' := us) (A_X12_count hΓ h2) cf_X12_count ly_57 (le45 rfl) vc_12 (le45 rfl) wM_L_193 (le45 rfl) (le45 rfl) (dat D_law_c27 13 rfl) rfl rfl (by omega) (by omega) rfl (fun _ => ?_) nlt0
  refine AW.icmp_eq (t := 1794) (n := 1792) (dat D_law_c27 14 rfl) rfl rfl rfl rfl (fun _ => ?_) (fun q => absurd e2 q)
  exact kk
/-- the head, where a row of six ints is left: to the switch -/
theorem LH_in {Γ : GA} {S0 : AS} {uc us : Nat} {i : Int} {σ : SG} (hi : inS Γ i) (kk : LW Γ S0 uc us 40 (lS i) [vI (bAnd (scr0 Γ i) 31)] σ) : LW Γ S0 uc us 23 (lS i) [] σ := by
  have h2 := hi
  obtain ⟨a, b, c⟩ := h2
  refine AW.iload (n := 25) (dat D_law_h 0 rfl) rfl rfl ?_
  refine AW.oload_n (n := 26) (dat D_law_h 1 rfl) rfl rfl ?_
  refine AW.slen (M := mL_law) (n := 27) rfl (dat D_law_h 2 rfl) rfl ?_
  refine AW.bipush (n := 29) (dat D_law_h 3 rfl) rfl (by decide) ?_
  refine AW.isub (n := 30) (dat D_law_h 4 rfl) rfl ?_
  refine AW.icmp_gt (t := 1800) (n := 33) (x2 := i) (y2 := (gL Γ : Int) - 6) (dat D_law_h 5 rfl) rfl rfl (w32_id (by omega) (by omega)) (w32_id (by omega) (by omega)) (fun q => absurd q (by omega)) (fun _ => ?_)
  refine AW.oload_n (n := 34) (dat D_law_h 6 rfl) rfl rfl ?_
  refine AW.iload (n := 36) (dat D_law_h 7 rfl) rfl rfl ?_
  refine AW.sald (M := mL_law) (n := 37) (sx0 hi) (dat D_law_h 8 rfl) rfl ?_
  refine AW.bipush (n := 39) (dat D_law_h 9 rfl) rfl (by decide) ?_
  refine AW.iand (n := 40) (dat D_law_h 10 rfl) rfl ?_
  exact kk
/-- the head, where none is left: true -/
theorem LH_out {Γ : GA} {uc us : Nat} {i : Int} {σ : SG} (h0 : 0 ≤ i) (h1 : i < 100000) (hi : ¬ i + 6 ≤ (gL Γ : Int)) (hL : gL Γ ≤ 3072) : LW Γ (85, σ) uc us 23 (lS i) [] σ := by
  refine AW.iload (n := 25) (dat D_law_h 0 rfl) rfl rfl ?_
  refine AW.oload_n (n := 26) (dat D_law_h 1 rfl) rfl rfl ?_
  refine AW.slen (M := mL_law) (n := 27) rfl (dat D_law_h 2 rfl) rfl ?_
  refine AW.bipush (n := 29) (dat D_law_h 3 rfl) rfl (by decide) ?_
  refine AW.isub (n := 30) (dat D_law_h 4 rfl) rfl ?_
  refine AW.icmp_gt (t := 1800) (n := 33) (x2 := i) (y2 := (gL Γ : Int) - 6) (dat D_law_h 5 rfl) rfl rfl (w32_id (by omega) (by omega)) (w32_id (by omega) (by omega)) (fun _ => ?_) (fun q => absurd (by omega) q)
  refine AW.iconst (n := 1801) (dat D_law_t 2 rfl) rfl ?_
  exact AW.zret rfl (by decide) rfl rfl (dat D_law_t 3 rfl)
/-- the switch's default: nothing is called -/
theorem LH_def {Γ : GA} {S0 : AS} {uc us : Nat} {i x9 : Int} {σ : SG} (h : w32 x9 < 0 ∨ 27 < w32 x9) (kk : LW Γ S0 uc us 1794 (lS i) [] σ) : LW Γ S0 uc us 40 (lS i) [vI x9] σ :=
  AW.tOut (dat D_law_h 11 rfl) h rfl kk
/-- one row further -/
theorem LH_next {Γ : GA} {S0 : AS} {uc us : Nat} {i : Int} {σ : SG} (kk : LW Γ S0 uc us 23 (lS (i + 6)) [] σ) : LW Γ S0 uc us 1794 (lS i) [] σ := by
  refine AW.iinc (n := 1797) (ls' := lS (i + 6)) (dat D_law_t 0 rfl) rfl rfl (le45 rfl) rfl rfl ?_
  exact AW.goto (t := 23) (dat D_law_t 1 rfl) rfl kk
theorem LH_0 {Γ : GA} {S0 : AS} {uc us : Nat} {i x9 : Int} {σ : SG} (h : w32 x9 = 0) (kk : LW Γ S0 uc us 168 (lS i) [] σ) : LW Γ S0 uc us 40 (lS i) [vI x9] σ :=
  AW.tIn (dat D_law_h 11 rfl) h (by decide) (by decide) rfl rfl kk
theorem LH_1 {Γ : GA} {S0 : AS} {uc us : Nat} {i x9 : Int} {σ : SG} (h : w32 x9 = 1) (kk : LW Γ S0 uc us 241 (lS i) [] σ) : LW Γ S0 uc us 40 (lS i) [vI x9] σ :=
  AW.tIn (dat D_law_h 11 rfl) h (by decide) (by decide) rfl rfl kk
theorem LH_2 {Γ : GA} {S0 : AS} {uc us : Nat} {i x9 : Int} {σ : SG} (h : w32 x9 = 2) (kk : LW Γ S0 uc us 266 (lS i) [] σ) : LW Γ S0 uc us 40 (lS i) [vI x9] σ :=
  AW.tIn (dat D_law_h 11 rfl) h (by decide) (by decide) rfl rfl kk
theorem LH_3 {Γ : GA} {S0 : AS} {uc us : Nat} {i x9 : Int} {σ : SG} (h : w32 x9 = 3) (kk : LW Γ S0 uc us 310 (lS i) [] σ) : LW Γ S0 uc us 40 (lS i) [vI x9] σ :=
  AW.tIn (dat D_law_h 11 rfl) h (by decide) (by decide) rfl rfl kk
theorem LH_4 {Γ : GA} {S0 : AS} {uc us : Nat} {i x9 : Int} {σ : SG} (h : w32 x9 = 4) (kk : LW Γ S0 uc us 354 (lS i) [] σ) : LW Γ S0 uc us 40 (lS i) [vI x9] σ :=
  AW.tIn (dat D_law_h 11 rfl) h (by decide) (by decide) rfl rfl kk
theorem LH_5 {Γ : GA} {S0 : AS} {uc us : Nat} {i x9 : Int} {σ : SG} (h : w32 x9 = 5) (kk : LW Γ S0 uc us 367 (lS i) [] σ) : LW Γ S0 uc us 40 (lS i) [vI x9] σ :=
  AW.tIn (dat D_law_h 11 rfl) h (by decide) (by decide) rfl rfl kk
theorem LH_6 {Γ : GA} {S0 : AS} {uc us : Nat} {i x9 : Int} {σ : SG} (h : w32 x9 = 6) (kk : LW Γ S0 uc us 411 (lS i) [] σ) : LW Γ S0 uc us 40 (lS i) [vI x9] σ :=
  AW.tIn (dat D_law_h 11 rfl) h (by decide) (by decide) rfl rfl kk
theorem LH_7 {Γ : GA} {S0 : AS} {uc us : Nat} {i x9 : Int} {σ : SG} (h : w32 x9 = 7) (kk : LW Γ S0 uc us 424 (lS i) [] σ) : LW Γ S0 uc us 40 (lS i) [vI x9] σ :=
  AW.tIn (dat D_law_h 11 rfl) h (by decide) (by decide) rfl rfl kk
theorem LH_8 {Γ : GA} {S0 : AS} {uc us : Nat} {i x9 : Int} {σ : SG} (h : w32 x9 = 8) (kk : LW Γ S0 uc us 492 (lS i) [] σ) : LW Γ S0 uc us 40 (lS i) [vI x9] σ :=
  AW.tIn (dat D_law_h 11 rfl) h (by decide) (by decide) rfl rfl kk
theorem LH_9 {Γ : GA} {S0 : AS} {uc us : Nat} {i x9 : Int} {σ : SG} (h : w32 x9 = 9) (kk : LW Γ S0 uc us 560 (lS i) [] σ) : LW Γ S0 uc us 40 (lS i) [vI x9] σ :=
  AW.tIn (dat D_law_h 11 rfl) h (by decide) (by decide) rfl rfl kk
theorem LH_10 {Γ : GA} {S0 : AS} {uc us : Nat} {i x9 : Int} {σ : SG} (h : w32 x9 = 10) (kk : LW Γ S0 uc us 628 (lS i) [] σ) : LW Γ S0 uc us 40 (lS i) [vI x9] σ :=
  AW.tIn (dat D_law_h 11 rfl) h (by decide) (by decide) rfl rfl kk
theorem LH_11 {Γ : GA} {S0 : AS} {uc us : Nat} {i x9 : Int} {σ : SG} (h : w32 x9 = 11) (kk : LW Γ S0 uc us 696 (lS i) [] σ) : LW Γ S0 uc us 40 (lS i) [vI x9] σ :=
  AW.tIn (dat D_law_h 11 rfl) h (by decide) (by decide) rfl rfl kk
theorem LH_12 {Γ : GA} {S0 : AS} {uc us : Nat} {i x9 : Int} {σ : SG} (h : w32 x9 = 12) (kk : LW Γ S0 uc us 721 (lS i) [] σ) : LW Γ S0 uc us 40 (lS i) [vI x9] σ :=
  AW.tIn (dat D_law_h 11 rfl) h (by decide) (by decide) rfl rfl kk
theorem LH_13 {Γ : GA} {S0 : AS} {uc us : Nat} {i x9 : Int} {σ : SG} (h : w32 x9 = 13) (kk : LW Γ S0 uc us 813 (lS i) [] σ) : LW Γ S0 uc us 40 (lS i) [vI x9] σ :=
  AW.tIn (dat D_law_h 11 rfl) h (by decide) (by decide) rfl rfl kk
theorem LH_14 {Γ : GA} {S0 : AS} {uc us : Nat} {i x9 : Int} {σ : SG} (h : w32 x9 = 14) (kk : LW Γ S0 uc us 881 (lS i) [] σ) : LW Γ S0 uc us 40 (lS i) [vI x9] σ :=
  AW.tIn (dat D_law_h 11 rfl) h (by decide) (by decide) rfl rfl kk
theorem LH_15 {Γ : GA} {S0 : AS} {uc us : Nat} {i x9 : Int} {σ : SG} (h : w32 x9 = 15) (kk : LW Γ S0 uc us 937 (lS i) [] σ) : LW Γ S0 uc us 40 (lS i) [vI x9] σ :=
  AW.tIn (dat D_law_h 11 rfl) h (by decide) (by decide) rfl rfl kk
theorem LH_16 {Γ : GA} {S0 : AS} {uc us : Nat} {i x9 : Int} {σ : SG} (h : w32 x9 = 16) (kk : LW Γ S0 uc us 1017 (lS i) [] σ) : LW Γ S0 uc us 40 (lS i) [vI x9] σ :=
  AW.tIn (dat D_law_h 11 rfl) h (by decide) (by decide) rfl rfl kk
theorem LH_17 {Γ : GA} {S0 : AS} {uc us : Nat} {i x9 : Int} {σ : SG} (h : w32 x9 = 17) (kk : LW Γ S0 uc us 1121 (lS i) [] σ) : LW Γ S0 uc us 40 (lS i) [vI x9] σ :=
  AW.tIn (dat D_law_h 11 rfl) h (by decide) (by decide) rfl rfl kk
theorem LH_18 {Γ : GA} {S0 : AS} {uc us : Nat} {i x9 : Int} {σ : SG} (h : w32 x9 = 18) (kk : LW Γ S0 uc us 1177 (lS i) [] σ) : LW Γ S0 uc us 40 (lS i) [vI x9] σ :=
  AW.tIn (dat D_law_h 11 rfl) h (by decide) (by decide) rfl rfl kk
theorem LH_19 {Γ : GA} {S0 : AS} {uc us : Nat} {i x9 : Int} {σ : SG} (h : w32 x9 = 19) (kk : LW Γ S0 uc us 1233 (lS i) [] σ) : LW Γ S0 uc us 40 (lS i) [vI x9] σ :=
  AW.tIn (dat D_law_h 11 rfl) h (by decide) (by decide) rfl rfl kk
theorem LH_20 {Γ : GA} {S0 : AS} {uc us : Nat} {i x9 : Int} {σ : SG} (h : w32 x9 = 20) (kk : LW Γ S0 uc us 1301 (lS i) [] σ) : LW Γ S0 uc us 40 (lS i) [vI x9] σ :=
  AW.tIn (dat D_law_h 11 rfl) h (by decide) (by decide) rfl rfl kk
theorem LH_21 {Γ : GA} {S0 : AS} {uc us : Nat} {i x9 : Int} {σ : SG} (h : w32 x9 = 21) (kk : LW Γ S0 uc us 1369 (lS i) [] σ) : LW Γ S0 uc us 40 (lS i) [vI x9] σ :=
  AW.tIn (dat D_law_h 11 rfl) h (by decide) (by decide) rfl rfl kk
theorem LH_22 {Γ : GA} {S0 : AS} {uc us : Nat} {i x9 : Int} {σ : SG} (h : w32 x9 = 22) (kk : LW Γ S0 uc us 1394 (lS i) [] σ) : LW Γ S0 uc us 40 (lS i) [vI x9] σ :=
  AW.tIn (dat D_law_h 11 rfl) h (by decide) (by decide) rfl rfl kk
theorem LH_23 {Γ : GA} {S0 : AS} {uc us : Nat} {i x9 : Int} {σ : SG} (h : w32 x9 = 23) (kk : LW Γ S0 uc us 1473 (lS i) [] σ) : LW Γ S0 uc us 40 (lS i) [vI x9] σ :=
  AW.tIn (dat D_law_h 11 rfl) h (by decide) (by decide) rfl rfl kk
theorem LH_24 {Γ : GA} {S0 : AS} {uc us : Nat} {i x9 : Int} {σ : SG} (h : w32 x9 = 24) (kk : LW Γ S0 uc us 1553 (lS i) [] σ) : LW Γ S0 uc us 40 (lS i) [vI x9] σ :=
  AW.tIn (dat D_law_h 11 rfl) h (by decide) (by decide) rfl rfl kk
theorem LH_25 {Γ : GA} {S0 : AS} {uc us : Nat} {i x9 : Int} {σ : SG} (h : w32 x9 = 25) (kk : LW Γ S0 uc us 1621 (lS i) [] σ) : LW Γ S0 uc us 40 (lS i) [vI x9] σ :=
  AW.tIn (dat D_law_h 11 rfl) h (by decide) (by decide) rfl rfl kk
theorem LH_26 {Γ : GA} {S0 : AS} {uc us : Nat} {i x9 : Int} {σ : SG} (h : w32 x9 = 26) (kk : LW Γ S0 uc us 1689 (lS i) [] σ) : LW Γ S0 uc us 40 (lS i) [vI x9] σ :=
  AW.tIn (dat D_law_h 11 rfl) h (by decide) (by decide) rfl rfl kk
theorem LH_27 {Γ : GA} {S0 : AS} {uc us : Nat} {i x9 : Int} {σ : SG} (h : w32 x9 = 27) (kk : LW Γ S0 uc us 1769 (lS i) [] σ) : LW Γ S0 uc us 40 (lS i) [vI x9] σ :=
  AW.tIn (dat D_law_h 11 rfl) h (by decide) (by decide) rfl rfl kk
