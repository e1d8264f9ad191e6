/-! THE CONSTRUCTORS (written by wip/whole/gen/kgen.py) -/
theorem rf_z {row : List Nat} {A : List Nat} (h : row.zipIdx.all (fun q => q.1 == 0 || A.contains q.2) = true) : ∀ j, j ∉ A → row.getD j 0 = 0 := by
  intro j hj
  rw [List.getD_eq_getElem?_getD]
  cases hr : row[j]? with
  | none => rfl
  | some v =>
    have hm : (v, j) ∈ row.zipIdx := by
      rw [List.mem_iff_getElem?]
      exact ⟨j, by simp [hr]⟩
    have q := List.all_eq_true.mp h _ hm
    simp only [Bool.or_eq_true, beq_iff_eq, List.contains_iff_mem] at q
    rcases q with q | q
    · exact q
    · exact absurd q hj
theorem ext_nowN {p : Program} {s : State} {m : MethodId} {args : Array Value} {meth : Method} {c : Code} {cc : ByteArray} {nL : Nat} {own : String} {D : va_G} {E : Nat → ClassId} {cl : List vw_C} {Ext : State → Prop} {A : Nat → Prop} (C : CX p s m args meth c cc nL own D E cl Ext A) : Ext s := C.2.2.2.2.2.2.2 s (State.WarmedH.refl s) (Nat.le_refl _) (fun _ _ _ => rfl)
theorem ho_nin2 {n k j : Nat} {A : List Nat} {h0 : List (Nat × Nat)} (h : k ≠ n) (hh : (k, j) ∉ h0) : (k, j) ∉ HO n A h0 := by
  intro q
  rcases List.mem_append.mp q with q | q
  · obtain ⟨i, -, e⟩ := List.mem_map.mp q
    exact h (congrArg Prod.fst e).symm
  · exact hh q
theorem n_perm {p : Program} {l : Launch} {e : Env} {R : Room} {s : State} {m : MethodId} {args : Array Value} {below : List Frame} {meth : Method} {c : Code} {nL : Nat} {D : va_G} {E : Nat → ClassId} {cl : List vw_C} {sh : Shp} {b n ce sl : Nat} {Rf : Nat → Nat → Nat} {Q : State → Prop} {M : Mem} {pc : Nat} {lv : List (Nat × Value)} {st : List Value} {hol hol' : List (Nat × Nat)}
    (h : ∀ q, q ∈ hol ↔ q ∈ hol') (kk : WN p l e R s m args below meth c nL D E cl sh b Q n (Rfh Rf hol') M ce sl pc lv st) : WN p l e R s m args below meth c nL D E cl sh b Q n (Rfh Rf hol) M ce sl pc lv st := by
  have e1 : Rfh Rf hol = Rfh Rf hol' := by
    funext k j
    unfold Rfh
    by_cases hq : (k, j) ∈ hol
    · rw [if_pos hq, if_pos ((h _).mp hq)]
    · rw [if_neg hq, if_neg (fun z => hq ((h _).mpr z))]
  rw [e1]
  exact kk
def xNest : List Cond := [Cond.methodLinkNest "ThrownVoices" 11 ⟨"ThrownVoices$Tape", "<init>", "()V"⟩ "ThrownVoices", Cond.methodLinkNest "ThrownVoices" 18 ⟨"ThrownVoices$Reader", "<init>", "()V"⟩ "ThrownVoices", Cond.methodLinkNest "ThrownVoices$Reader" 11 ⟨"ThrownVoices$Town", "<init>", "()V"⟩ "ThrownVoices", Cond.methodLinkNest "ThrownVoices$Town" 38 ⟨"ThrownVoices$Rules", "<init>", "()V"⟩ "ThrownVoices", Cond.methodLinkNest "ThrownVoices$Reader" 24 ⟨"ThrownVoices$Tokens", "<init>", "()V"⟩ "ThrownVoices", Cond.methodLinkNest "ThrownVoices" 25 ⟨"ThrownVoices$Town", "<init>", "()V"⟩ "ThrownVoices"]
theorem ko_RX11_3 : Cond.methodLink RX11 3 Lib.objectInit ∈ gws := gw 149 (by decide +kernel) (by decide +kernel)
theorem xo_i : Cond.instanceMethod Lib.objectInit ∈ gws := gw 150 (by decide +kernel) (by decide +kernel)
theorem xo_c : Cond.code Lib.objectInit ⟨#[0xb1]⟩ 1 none ∈ gws := gwc 151 (by decide +kernel) (by decide +kernel)
theorem nl_RX11_9 : NL vwCl RX11 9 7 xK_Tape 2 := ⟨RX7, TX7, tyX7, rfl, rfl, x_lays7, tyX7_ok, by decide +kernel, gw 152 (by decide +kernel) (by decide +kernel), gw 153 (by decide +kernel) (by decide +kernel), gw 124 (by decide +kernel) (by decide +kernel)⟩
theorem ko_RX7_3 : Cond.methodLink RX7 3 Lib.objectInit ∈ gws := gw 157 (by decide +kernel) (by decide +kernel)
theorem xA_int : Cond.arrayClass .int ∈ gws := gw 172 (by decide +kernel) (by decide +kernel)
theorem fk_RX7_9 : FL vwCl RX7 9 7 0 := ⟨RX7, TX7, 2, rfl, by decide, x_lays7, gw 158 (by decide +kernel) (by decide +kernel)⟩
theorem kf_RX7_0 : FWF vwCl RX7 7 0 (.array .int) := ⟨RX7, TX7, 2, rfl, by decide +kernel, by decide +kernel, by decide +kernel⟩
theorem dX7_init_0 : decode cX7_init 0 = .ok (.aload_n 0, 1) := by decide +kernel
theorem dX7_init_1 : decode cX7_init 1 = .ok (.invokespecial 3, 3) := by decide +kernel
theorem dX7_init_4 : decode cX7_init 4 = .ok (.aload_n 0, 1) := by decide +kernel
theorem dX7_init_5 : decode cX7_init 5 = .ok (.sipush 1600, 3) := by decide +kernel
theorem dX7_init_8 : decode cX7_init 8 = .ok (.newarray .int, 2) := by decide +kernel
theorem dX7_init_10 : decode cX7_init 10 = .ok (.putfield 9, 3) := by decide +kernel
theorem dX7_init_13 : decode cX7_init 13 = .ok (.return_, 1) := by decide +kernel
set_option maxHeartbeats 8000000 in
set_option maxRecDepth 40000 in
theorem k_xTape (l : Launch) {h0 : List (Nat × Nat)} (hh : ∀ q ∈ h0, q.1 < 1) {M : Mem} (hM : ∀ k, 2 ≤ k → ∀ j, M k j = 0) : CtN l yX7_init cX7_init 1 1 12 vwCl xSh (NExt xNest) (fun b => [vR b 1]) 2 3 (Rfh xRf (HO 1 [0] h0)) (Rfh xRf h0) M M 1 1600 := by
  refine CtN_of (fun A => NExt_ok xNest A) (by decide) rfl (fun b => Nat.le_of_ble_eq_true rfl) ?_
  intro p e s m args below meth c D E b C hr hin hz0
  refine (show WN p l e (mkN 1 1 1600 12) s m args below meth c 1 D E vwCl xSh b (MQ below (QN D vwCl E xSh b 3 (Rfh xRf h0) M) args s 1 1600 (fun q => b ≤ q)) 2 (Rfh xRf (HO 1 [0] h0)) M 0 0 0 [(0, vR b 1)] [] from ?_)
  refine n_aload_n (pc := 0) C 0 rfl rfl dX7_init_0 ?_
  refine n_objInit (pc := 1) C ko_RX7_3 xo_i xo_c (Nat.le_of_ble_eq_true rfl) (Nat.le_of_ble_eq_true rfl) dX7_init_1 ?_
  refine n_aload_n (pc := 4) C 0 rfl rfl dX7_init_4 ?_
  refine n_sipush (pc := 5) (j := 1600) C (by decide +kernel) dX7_init_5 ?_
  refine n_newa (pc := 8) (n := 2) (t := 0) (L := 1600) (atype := .int) C rfl (Or.inl ⟨rfl, rfl⟩) xA_int x_s2 (fun j => hM 2 (by omega) j) (by decide) rfl ⟨by omega, by omega⟩ (Nat.le_of_ble_eq_true rfl) (Nat.le_of_ble_eq_true rfl) dX7_init_8 ?_
  refine n_putR (pc := 10) (hol := HO 1 [] h0) C hin fk_RX7_9 x_ft7 kf_RX7_0 x_s1 (by omega) x_kTape_0 (fun _ => rfl) (fun _ => rfl) (ho_nin (by decide) hh) x_r1_0 dX7_init_10 ?_
  exact n_vret (pc := 13) C hr dX7_init_13
theorem kj_RX11_11 : CLJ xNest RX11 11 yX7_init "ThrownVoices" cX7_init 1 0 := ⟨by decide +kernel, gw 155 (by decide +kernel) (by decide +kernel), rfl, gw 124 (by decide +kernel) (by decide +kernel), gwc 156 (by decide +kernel) (by decide +kernel), ⟨by decide +kernel, by decide +kernel⟩, by decide +kernel⟩
theorem fk_RX11_12 : FL vwCl RX11 12 10 0 := ⟨RX11, TX11, 11, rfl, by decide, x_lays11, gw 537 (by decide +kernel) (by decide +kernel)⟩
theorem kf_RX11_0 : FWF vwCl RX11 10 0 (.object "ThrownVoices$Tape") := ⟨RX11, TX11, 11, rfl, by decide +kernel, by decide +kernel, by decide +kernel⟩
theorem nl_RX11_16 : NL vwCl RX11 16 4 xK_Reader 7 := ⟨RX4, TX4, tyX4, rfl, rfl, x_lays4, tyX4_ok, by decide +kernel, gw 173 (by decide +kernel) (by decide +kernel), gw 174 (by decide +kernel) (by decide +kernel), gw 125 (by decide +kernel) (by decide +kernel)⟩
theorem ko_RX4_3 : Cond.methodLink RX4 3 Lib.objectInit ∈ gws := gw 178 (by decide +kernel) (by decide +kernel)
theorem nl_RX4_9 : NL vwCl RX4 9 9 xK_Town 13 := ⟨RX9, TX9, tyX9, rfl, rfl, x_lays9, tyX9_ok, by decide +kernel, gw 179 (by decide +kernel) (by decide +kernel), gw 180 (by decide +kernel) (by decide +kernel), gw 126 (by decide +kernel) (by decide +kernel)⟩
theorem ko_RX9_3 : Cond.methodLink RX9 3 Lib.objectInit ∈ gws := gw 184 (by decide +kernel) (by decide +kernel)
theorem fk_RX9_9 : FL vwCl RX9 9 9 4 := ⟨RX9, TX9, 13, rfl, by decide, x_lays9, gw 231 (by decide +kernel) (by decide +kernel)⟩
theorem kf_RX9_4 : FWF vwCl RX9 9 4 (.array .int) := ⟨RX9, TX9, 13, rfl, by decide +kernel, by decide +kernel, by decide +kernel⟩
theorem fk_RX9_15 : FL vwCl RX9 15 9 5 := ⟨RX9, TX9, 13, rfl, by decide, x_lays9, gw 234 (by decide +kernel) (by decide +kernel)⟩
theorem kf_RX9_5 : FWF vwCl RX9 9 5 (.array .int) := ⟨RX9, TX9, 13, rfl, by decide +kernel, by decide +kernel, by decide +kernel⟩
theorem fk_RX9_18 : FL vwCl RX9 18 9 6 := ⟨RX9, TX9, 13, rfl, by decide, x_lays9, gw 237 (by decide +kernel) (by decide +kernel)⟩
theorem kf_RX9_6 : FWF vwCl RX9 9 6 (.array .int) := ⟨RX9, TX9, 13, rfl, by decide +kernel, by decide +kernel, by decide +kernel⟩
theorem fk_RX9_21 : FL vwCl RX9 21 9 7 := ⟨RX9, TX9, 13, rfl, by decide, x_lays9, gw 240 (by decide +kernel) (by decide +kernel)⟩
theorem kf_RX9_7 : FWF vwCl RX9 9 7 (.array .int) := ⟨RX9, TX9, 13, rfl, by decide +kernel, by decide +kernel, by decide +kernel⟩
theorem fk_RX9_24 : FL vwCl RX9 24 9 8 := ⟨RX9, TX9, 13, rfl, by decide, x_lays9, gw 243 (by decide +kernel) (by decide +kernel)⟩
theorem kf_RX9_8 : FWF vwCl RX9 9 8 (.array .int) := ⟨RX9, TX9, 13, rfl, by decide +kernel, by decide +kernel, by decide +kernel⟩
theorem fk_RX9_27 : FL vwCl RX9 27 9 9 := ⟨RX9, TX9, 13, rfl, by decide, x_lays9, gw 246 (by decide +kernel) (by decide +kernel)⟩
theorem kf_RX9_9 : FWF vwCl RX9 9 9 (.array .int) := ⟨RX9, TX9, 13, rfl, by decide +kernel, by decide +kernel, by decide +kernel⟩
theorem fk_RX9_30 : FL vwCl RX9 30 9 10 := ⟨RX9, TX9, 13, rfl, by decide, x_lays9, gw 249 (by decide +kernel) (by decide +kernel)⟩
theorem kf_RX9_10 : FWF vwCl RX9 9 10 (.array .int) := ⟨RX9, TX9, 13, rfl, by decide +kernel, by decide +kernel, by decide +kernel⟩
theorem fk_RX9_33 : FL vwCl RX9 33 9 11 := ⟨RX9, TX9, 13, rfl, by decide, x_lays9, gw 252 (by decide +kernel) (by decide +kernel)⟩
theorem kf_RX9_11 : FWF vwCl RX9 9 11 (.array .int) := ⟨RX9, TX9, 13, rfl, by decide +kernel, by decide +kernel, by decide +kernel⟩
theorem nl_RX9_36 : NL vwCl RX9 36 5 xK_Rules 6 := ⟨RX5, TX5, tyX5, rfl, rfl, x_lays5, tyX5_ok, by decide +kernel, gw 185 (by decide +kernel) (by decide +kernel), gw 186 (by decide +kernel) (by decide +kernel), gw 127 (by decide +kernel) (by decide +kernel)⟩
theorem x_zI_Rules_all : ∀ th, th ∈ xI_Rules → (xRfL.getD th []).zipIdx.all (fun q => q.1 == 0 || ([0, 1, 2, 3, 4] : List Nat).contains q.2) = true := by decide +kernel
theorem x_zI_Rules {th : Nat} (h : th ∈ xI_Rules) : ∀ j, j ∉ ([0, 1, 2, 3, 4] : List Nat) → xRf th j = 0 := rf_z (row := xRfL.getD th []) (x_zI_Rules_all th h)
theorem ko_RX5_3 : Cond.methodLink RX5 3 Lib.objectInit ∈ gws := gw 190 (by decide +kernel) (by decide +kernel)
theorem fk_RX5_11 : FL vwCl RX5 11 5 0 := ⟨RX5, TX5, 6, rfl, by decide, x_lays5, gw 191 (by decide +kernel) (by decide +kernel)⟩
theorem kf_RX5_0 : FWF vwCl RX5 5 0 (.array .int) := ⟨RX5, TX5, 6, rfl, by decide +kernel, by decide +kernel, by decide +kernel⟩
theorem fk_RX5_17 : FL vwCl RX5 17 5 1 := ⟨RX5, TX5, 6, rfl, by decide, x_lays5, gw 193 (by decide +kernel) (by decide +kernel)⟩
theorem kf_RX5_1 : FWF vwCl RX5 5 1 (.array .int) := ⟨RX5, TX5, 6, rfl, by decide +kernel, by decide +kernel, by decide +kernel⟩
theorem fk_RX5_20 : FL vwCl RX5 20 5 2 := ⟨RX5, TX5, 6, rfl, by decide, x_lays5, gw 194 (by decide +kernel) (by decide +kernel)⟩
theorem kf_RX5_2 : FWF vwCl RX5 5 2 (.array .int) := ⟨RX5, TX5, 6, rfl, by decide +kernel, by decide +kernel, by decide +kernel⟩
theorem fk_RX5_23 : FL vwCl RX5 23 5 3 := ⟨RX5, TX5, 6, rfl, by decide, x_lays5, gw 195 (by decide +kernel) (by decide +kernel)⟩
theorem kf_RX5_3 : FWF vwCl RX5 5 3 (.array .int) := ⟨RX5, TX5, 6, rfl, by decide +kernel, by decide +kernel, by decide +kernel⟩
theorem fk_RX5_26 : FL vwCl RX5 26 5 4 := ⟨RX5, TX5, 6, rfl, by decide, x_lays5, gw 196 (by decide +kernel) (by decide +kernel)⟩
theorem kf_RX5_4 : FWF vwCl RX5 5 4 (.array .int) := ⟨RX5, TX5, 6, rfl, by decide +kernel, by decide +kernel, by decide +kernel⟩
theorem dX5_init_0 : decode cX5_init 0 = .ok (.aload_n 0, 1) := by decide +kernel
theorem dX5_init_1 : decode cX5_init 1 = .ok (.invokespecial 3, 3) := by decide +kernel
theorem dX5_init_4 : decode cX5_init 4 = .ok (.aload_n 0, 1) := by decide +kernel
theorem dX5_init_5 : decode cX5_init 5 = .ok (.bipush 23, 2) := by decide +kernel
theorem dX5_init_7 : decode cX5_init 7 = .ok (.newarray .int, 2) := by decide +kernel
theorem dX5_init_9 : decode cX5_init 9 = .ok (.putfield 11, 3) := by decide +kernel
theorem dX5_init_12 : decode cX5_init 12 = .ok (.aload_n 0, 1) := by decide +kernel
theorem dX5_init_13 : decode cX5_init 13 = .ok (.sipush 1600, 3) := by decide +kernel
theorem dX5_init_16 : decode cX5_init 16 = .ok (.newarray .int, 2) := by decide +kernel
theorem dX5_init_18 : decode cX5_init 18 = .ok (.putfield 17, 3) := by decide +kernel
theorem dX5_init_21 : decode cX5_init 21 = .ok (.aload_n 0, 1) := by decide +kernel
theorem dX5_init_22 : decode cX5_init 22 = .ok (.iconst 3, 1) := by decide +kernel
theorem dX5_init_23 : decode cX5_init 23 = .ok (.newarray .int, 2) := by decide +kernel
theorem dX5_init_25 : decode cX5_init 25 = .ok (.putfield 20, 3) := by decide +kernel
theorem dX5_init_28 : decode cX5_init 28 = .ok (.aload_n 0, 1) := by decide +kernel
theorem dX5_init_29 : decode cX5_init 29 = .ok (.iconst 3, 1) := by decide +kernel
theorem dX5_init_30 : decode cX5_init 30 = .ok (.newarray .int, 2) := by decide +kernel
theorem dX5_init_32 : decode cX5_init 32 = .ok (.putfield 23, 3) := by decide +kernel
theorem dX5_init_35 : decode cX5_init 35 = .ok (.aload_n 0, 1) := by decide +kernel
theorem dX5_init_36 : decode cX5_init 36 = .ok (.bipush 64, 2) := by decide +kernel
theorem dX5_init_38 : decode cX5_init 38 = .ok (.newarray .int, 2) := by decide +kernel
theorem dX5_init_40 : decode cX5_init 40 = .ok (.putfield 26, 3) := by decide +kernel
theorem dX5_init_43 : decode cX5_init 43 = .ok (.return_, 1) := by decide +kernel
set_option maxHeartbeats 8000000 in
set_option maxRecDepth 40000 in
theorem k_xRules (l : Launch) {th : Nat} (hth : th ∈ xI_Rules) {h0 : List (Nat × Nat)} (hh : ∀ q ∈ h0, q.1 < th) {M : Mem} (hM : ∀ k, (th + 1) ≤ k → ∀ j, M k j = 0) : CtN l yX5_init cX5_init 1 1 12 vwCl xSh (NExt xNest) (fun b => [vR b th]) (th + 1) (th + 6) (Rfh xRf (HO th [0, 1, 2, 3, 4] h0)) (Rfh xRf h0) M M 5 1693 := by
  refine CtN_of (fun A => NExt_ok xNest A) (by decide) rfl (fun b => Nat.le_of_ble_eq_true rfl) ?_
  intro p e s m args below meth c D E b C hr hin hz0
  refine (show WN p l e (mkN 1 5 1693 12) s m args below meth c 1 D E vwCl xSh b (MQ below (QN D vwCl E xSh b (th + 6) (Rfh xRf h0) M) args s 5 1693 (fun q => b ≤ q)) (th + 1) (Rfh xRf (HO th [0, 1, 2, 3, 4] h0)) M 0 0 0 [(0, vR b th)] [] from ?_)
  refine n_aload_n (pc := 0) C 0 rfl rfl dX5_init_0 ?_
  refine n_objInit (pc := 1) C ko_RX5_3 xo_i xo_c (Nat.le_of_ble_eq_true rfl) (Nat.le_of_ble_eq_true rfl) dX5_init_1 ?_
  refine n_aload_n (pc := 4) C 0 rfl rfl dX5_init_4 ?_
  refine n_bipush (pc := 5) (j := 23) C (by decide +kernel) dX5_init_5 ?_
  refine n_newa (pc := 7) (n := (th + 1)) (t := 0) (L := 23) (atype := .int) C rfl (Or.inl ⟨rfl, rfl⟩) xA_int (x_aI_Rules_0 hth) (fun j => hM (th + 1) (by omega) j) (by decide) rfl ⟨by omega, by omega⟩ (Nat.le_of_ble_eq_true rfl) (Nat.le_of_ble_eq_true rfl) dX5_init_7 ?_
  refine n_putR (pc := 9) (hol := HO th [1, 2, 3, 4] h0) C hin fk_RX5_11 x_ft5 kf_RX5_0 (x_sI_Rules hth) (by omega) x_kRules_0 (fun _ => rfl) (fun _ => rfl) (ho_nin (by decide) hh) (x_rI_Rules_0 hth) dX5_init_9 ?_
  refine n_aload_n (pc := 12) C 0 rfl rfl dX5_init_12 ?_
  refine n_sipush (pc := 13) (j := 1600) C (by decide +kernel) dX5_init_13 ?_
  refine n_newa (pc := 16) (n := (th + 2)) (t := 0) (L := 1600) (atype := .int) C rfl (Or.inl ⟨rfl, rfl⟩) xA_int (x_aI_Rules_1 hth) (fun j => hM (th + 2) (by omega) j) (by decide) rfl ⟨by omega, by omega⟩ (Nat.le_of_ble_eq_true rfl) (Nat.le_of_ble_eq_true rfl) dX5_init_16 ?_
  refine n_putR (pc := 18) (hol := HO th [2, 3, 4] h0) C hin fk_RX5_17 x_ft5 kf_RX5_1 (x_sI_Rules hth) (by omega) x_kRules_1 (fun _ => rfl) (fun _ => rfl) (ho_nin (by decide) hh) (x_rI_Rules_1 hth) dX5_init_18 ?_
  refine n_aload_n (pc := 21) C 0 rfl rfl dX5_init_21 ?_
  refine n_iconst (pc := 22) C dX5_init_22 ?_
  refine n_newa (pc := 23) (n := (th + 3)) (t := 0) (L := 3) (atype := .int) C rfl (Or.inl ⟨rfl, rfl⟩) xA_int (x_aI_Rules_2 hth) (fun j => hM (th + 3) (by omega) j) (by decide) rfl ⟨by omega, by omega⟩ (Nat.le_of_ble_eq_true rfl) (Nat.le_of_ble_eq_true rfl) dX5_init_23 ?_
  refine n_putR (pc := 25) (hol := HO th [3, 4] h0) C hin fk_RX5_20 x_ft5 kf_RX5_2 (x_sI_Rules hth) (by omega) x_kRules_2 (fun _ => rfl) (fun _ => rfl) (ho_nin (by decide) hh) (x_rI_Rules_2 hth) dX5_init_25 ?_
  refine n_aload_n (pc := 28) C 0 rfl rfl dX5_init_28 ?_
  refine n_iconst (pc := 29) C dX5_init_29 ?_
  refine n_newa (pc := 30) (n := (th + 4)) (t := 0) (L := 3) (atype := .int) C rfl (Or.inl ⟨rfl, rfl⟩) xA_int (x_aI_Rules_3 hth) (fun j => hM (th + 4) (by omega) j) (by decide) rfl ⟨by omega, by omega⟩ (Nat.le_of_ble_eq_true rfl) (Nat.le_of_ble_eq_true rfl) dX5_init_30 ?_
  refine n_putR (pc := 32) (hol := HO th [4] h0) C hin fk_RX5_23 x_ft5 kf_RX5_3 (x_sI_Rules hth) (by omega) x_kRules_3 (fun _ => rfl) (fun _ => rfl) (ho_nin (by decide) hh) (x_rI_Rules_3 hth) dX5_init_32 ?_
  refine n_aload_n (pc := 35) C 0 rfl rfl dX5_init_35 ?_
  refine n_bipush (pc := 36) (j := 64) C (by decide +kernel) dX5_init_36 ?_
  refine n_newa (pc := 38) (n := (th + 5)) (t := 0) (L := 64) (atype := .int) C rfl (Or.inl ⟨rfl, rfl⟩) xA_int (x_aI_Rules_4 hth) (fun j => hM (th + 5) (by omega) j) (by decide) rfl ⟨by omega, by omega⟩ (Nat.le_of_ble_eq_true rfl) (Nat.le_of_ble_eq_true rfl) dX5_init_38 ?_
  refine n_putR (pc := 40) (hol := HO th [] h0) C hin fk_RX5_26 x_ft5 kf_RX5_4 (x_sI_Rules hth) (by omega) x_kRules_4 (fun _ => rfl) (fun _ => rfl) (ho_nin (by decide) hh) (x_rI_Rules_4 hth) dX5_init_40 ?_
  exact n_vret (pc := 43) C hr dX5_init_43
theorem kj_RX9_38 : CLJ xNest RX9 38 yX5_init "ThrownVoices" cX5_init 1 0 := ⟨by decide +kernel, gw 188 (by decide +kernel) (by decide +kernel), rfl, gw 127 (by decide +kernel) (by decide +kernel), gwc 189 (by decide +kernel) (by decide +kernel), ⟨by decide +kernel, by decide +kernel⟩, by decide +kernel⟩
theorem fk_RX9_39 : FL vwCl RX9 39 9 12 := ⟨RX9, TX9, 13, rfl, by decide, x_lays9, gw 257 (by decide +kernel) (by decide +kernel)⟩
theorem kf_RX9_12 : FWF vwCl RX9 9 12 (.object "ThrownVoices$Rules") := ⟨RX9, TX9, 13, rfl, by decide +kernel, by decide +kernel, by decide +kernel⟩
theorem dX9_init_0 : decode cX9_init 0 = .ok (.aload_n 0, 1) := by decide +kernel
theorem dX9_init_1 : decode cX9_init 1 = .ok (.invokespecial 3, 3) := by decide +kernel
theorem dX9_init_4 : decode cX9_init 4 = .ok (.aload_n 0, 1) := by decide +kernel
theorem dX9_init_5 : decode cX9_init 5 = .ok (.bipush 7, 2) := by decide +kernel
theorem dX9_init_7 : decode cX9_init 7 = .ok (.newarray .int, 2) := by decide +kernel
theorem dX9_init_9 : decode cX9_init 9 = .ok (.putfield 9, 3) := by decide +kernel
theorem dX9_init_12 : decode cX9_init 12 = .ok (.aload_n 0, 1) := by decide +kernel
theorem dX9_init_13 : decode cX9_init 13 = .ok (.bipush 7, 2) := by decide +kernel
theorem dX9_init_15 : decode cX9_init 15 = .ok (.newarray .int, 2) := by decide +kernel
theorem dX9_init_17 : decode cX9_init 17 = .ok (.putfield 15, 3) := by decide +kernel
theorem dX9_init_20 : decode cX9_init 20 = .ok (.aload_n 0, 1) := by decide +kernel
theorem dX9_init_21 : decode cX9_init 21 = .ok (.bipush 8, 2) := by decide +kernel
theorem dX9_init_23 : decode cX9_init 23 = .ok (.newarray .int, 2) := by decide +kernel
theorem dX9_init_25 : decode cX9_init 25 = .ok (.putfield 18, 3) := by decide +kernel
theorem dX9_init_28 : decode cX9_init 28 = .ok (.aload_n 0, 1) := by decide +kernel
theorem dX9_init_29 : decode cX9_init 29 = .ok (.bipush 8, 2) := by decide +kernel
theorem dX9_init_31 : decode cX9_init 31 = .ok (.newarray .int, 2) := by decide +kernel
theorem dX9_init_33 : decode cX9_init 33 = .ok (.putfield 21, 3) := by decide +kernel
theorem dX9_init_36 : decode cX9_init 36 = .ok (.aload_n 0, 1) := by decide +kernel
theorem dX9_init_37 : decode cX9_init 37 = .ok (.bipush 8, 2) := by decide +kernel
theorem dX9_init_39 : decode cX9_init 39 = .ok (.newarray .int, 2) := by decide +kernel
theorem dX9_init_41 : decode cX9_init 41 = .ok (.putfield 24, 3) := by decide +kernel
theorem dX9_init_44 : decode cX9_init 44 = .ok (.aload_n 0, 1) := by decide +kernel
theorem dX9_init_45 : decode cX9_init 45 = .ok (.bipush 12, 2) := by decide +kernel
theorem dX9_init_47 : decode cX9_init 47 = .ok (.newarray .int, 2) := by decide +kernel
theorem dX9_init_49 : decode cX9_init 49 = .ok (.putfield 27, 3) := by decide +kernel
theorem dX9_init_52 : decode cX9_init 52 = .ok (.aload_n 0, 1) := by decide +kernel
theorem dX9_init_53 : decode cX9_init 53 = .ok (.bipush 12, 2) := by decide +kernel
theorem dX9_init_55 : decode cX9_init 55 = .ok (.newarray .int, 2) := by decide +kernel
theorem dX9_init_57 : decode cX9_init 57 = .ok (.putfield 30, 3) := by decide +kernel
theorem dX9_init_60 : decode cX9_init 60 = .ok (.aload_n 0, 1) := by decide +kernel
theorem dX9_init_61 : decode cX9_init 61 = .ok (.bipush 12, 2) := by decide +kernel
theorem dX9_init_63 : decode cX9_init 63 = .ok (.newarray .int, 2) := by decide +kernel
theorem dX9_init_65 : decode cX9_init 65 = .ok (.putfield 33, 3) := by decide +kernel
theorem dX9_init_68 : decode cX9_init 68 = .ok (.aload_n 0, 1) := by decide +kernel
theorem dX9_init_69 : decode cX9_init 69 = .ok (.new 36, 3) := by decide +kernel
theorem dX9_init_72 : decode cX9_init 72 = .ok (.dup, 1) := by decide +kernel
theorem dX9_init_73 : decode cX9_init 73 = .ok (.invokespecial 38, 3) := by decide +kernel
theorem dX9_init_76 : decode cX9_init 76 = .ok (.putfield 39, 3) := by decide +kernel
theorem dX9_init_79 : decode cX9_init 79 = .ok (.return_, 1) := by decide +kernel
set_option maxHeartbeats 8000000 in
set_option maxRecDepth 40000 in
theorem k_xTown (l : Launch) {th : Nat} (hth : th ∈ xI_Town) {h0 : List (Nat × Nat)} (hh : ∀ q ∈ h0, q.1 < th) {M : Mem} (hM : ∀ k, (th + 1) ≤ k → ∀ j, M k j = 0) : CtN l yX9_init cX9_init 1 2 32 vwCl xSh (NExt xNest) (fun b => [vR b th]) (th + 1) (th + 15) (Rfh xRf (HO th [4, 5, 6, 7, 8, 9, 10, 11, 12] h0)) (Rfh xRf h0) M M 14 1773 := by
  refine CtN_of (fun A => NExt_ok xNest A) (by decide) rfl (fun b => Nat.le_of_ble_eq_true rfl) ?_
  intro p e s m args below meth c D E b C hr hin hz0
  refine (show WN p l e (mkN 2 14 1773 32) s m args below meth c 1 D E vwCl xSh b (MQ below (QN D vwCl E xSh b (th + 15) (Rfh xRf h0) M) args s 14 1773 (fun q => b ≤ q)) (th + 1) (Rfh xRf (HO th [4, 5, 6, 7, 8, 9, 10, 11, 12] h0)) M 0 0 0 [(0, vR b th)] [] from ?_)
  refine n_aload_n (pc := 0) C 0 rfl rfl dX9_init_0 ?_
  refine n_objInit (pc := 1) C ko_RX9_3 xo_i xo_c (Nat.le_of_ble_eq_true rfl) (Nat.le_of_ble_eq_true rfl) dX9_init_1 ?_
  refine n_aload_n (pc := 4) C 0 rfl rfl dX9_init_4 ?_
  refine n_bipush (pc := 5) (j := 7) C (by decide +kernel) dX9_init_5 ?_
  refine n_newa (pc := 7) (n := (th + 1)) (t := 0) (L := 7) (atype := .int) C rfl (Or.inl ⟨rfl, rfl⟩) xA_int (x_aI_Town_4 hth) (fun j => hM (th + 1) (by omega) j) (by decide) rfl ⟨by omega, by omega⟩ (Nat.le_of_ble_eq_true rfl) (Nat.le_of_ble_eq_true rfl) dX9_init_7 ?_
  refine n_putR (pc := 9) (hol := HO th [5, 6, 7, 8, 9, 10, 11, 12] h0) C hin fk_RX9_9 x_ft9 kf_RX9_4 (x_sI_Town hth) (by omega) x_kTown_4 (fun _ => rfl) (fun _ => rfl) (ho_nin (by decide) hh) (x_rI_Town_4 hth) dX9_init_9 ?_
  refine n_aload_n (pc := 12) C 0 rfl rfl dX9_init_12 ?_
  refine n_bipush (pc := 13) (j := 7) C (by decide +kernel) dX9_init_13 ?_
  refine n_newa (pc := 15) (n := (th + 2)) (t := 0) (L := 7) (atype := .int) C rfl (Or.inl ⟨rfl, rfl⟩) xA_int (x_aI_Town_5 hth) (fun j => hM (th + 2) (by omega) j) (by decide) rfl ⟨by omega, by omega⟩ (Nat.le_of_ble_eq_true rfl) (Nat.le_of_ble_eq_true rfl) dX9_init_15 ?_
  refine n_putR (pc := 17) (hol := HO th [6, 7, 8, 9, 10, 11, 12] h0) C hin fk_RX9_15 x_ft9 kf_RX9_5 (x_sI_Town hth) (by omega) x_kTown_5 (fun _ => rfl) (fun _ => rfl) (ho_nin (by decide) hh) (x_rI_Town_5 hth) dX9_init_17 ?_
  refine n_aload_n (pc := 20) C 0 rfl rfl dX9_init_20 ?_
  refine n_bipush (pc := 21) (j := 8) C (by decide +kernel) dX9_init_21 ?_
  refine n_newa (pc := 23) (n := (th + 3)) (t := 0) (L := 8) (atype := .int) C rfl (Or.inl ⟨rfl, rfl⟩) xA_int (x_aI_Town_6 hth) (fun j => hM (th + 3) (by omega) j) (by decide) rfl ⟨by omega, by omega⟩ (Nat.le_of_ble_eq_true rfl) (Nat.le_of_ble_eq_true rfl) dX9_init_23 ?_
  refine n_putR (pc := 25) (hol := HO th [7, 8, 9, 10, 11, 12] h0) C hin fk_RX9_18 x_ft9 kf_RX9_6 (x_sI_Town hth) (by omega) x_kTown_6 (fun _ => rfl) (fun _ => rfl) (ho_nin (by decide) hh) (x_rI_Town_6 hth) dX9_init_25 ?_
  refine n_aload_n (pc := 28) C 0 rfl rfl dX9_init_28 ?_
  refine n_bipush (pc := 29) (j := 8) C (by decide +kernel) dX9_init_29 ?_
  refine n_newa (pc := 31) (n := (th + 4)) (t := 0) (L := 8) (atype := .int) C rfl (Or.inl ⟨rfl, rfl⟩) xA_int (x_aI_Town_7 hth) (fun j => hM (th + 4) (by omega) j) (by decide) rfl ⟨by omega, by omega⟩ (Nat.le_of_ble_eq_true rfl) (Nat.le_of_ble_eq_true rfl) dX9_init_31 ?_
  refine n_putR (pc := 33) (hol := HO th [8, 9, 10, 11, 12] h0) C hin fk_RX9_21 x_ft9 kf_RX9_7 (x_sI_Town hth) (by omega) x_kTown_7 (fun _ => rfl) (fun _ => rfl) (ho_nin (by decide) hh) (x_rI_Town_7 hth) dX9_init_33 ?_
  refine n_aload_n (pc := 36) C 0 rfl rfl dX9_init_36 ?_
  refine n_bipush (pc := 37) (j := 8) C (by decide +kernel) dX9_init_37 ?_
  refine n_newa (pc := 39) (n := (th + 5)) (t := 0) (L := 8) (atype := .int) C rfl (Or.inl ⟨rfl, rfl⟩) xA_int (x_aI_Town_8 hth) (fun j => hM (th + 5) (by omega) j) (by decide) rfl ⟨by omega, by omega⟩ (Nat.le_of_ble_eq_true rfl) (Nat.le_of_ble_eq_true rfl) dX9_init_39 ?_
  refine n_putR (pc := 41) (hol := HO th [9, 10, 11, 12] h0) C hin fk_RX9_24 x_ft9 kf_RX9_8 (x_sI_Town hth) (by omega) x_kTown_8 (fun _ => rfl) (fun _ => rfl) (ho_nin (by decide) hh) (x_rI_Town_8 hth) dX9_init_41 ?_
  refine n_aload_n (pc := 44) C 0 rfl rfl dX9_init_44 ?_
  refine n_bipush (pc := 45) (j := 12) C (by decide +kernel) dX9_init_45 ?_
  refine n_newa (pc := 47) (n := (th + 6)) (t := 0) (L := 12) (atype := .int) C rfl (Or.inl ⟨rfl, rfl⟩) xA_int (x_aI_Town_9 hth) (fun j => hM (th + 6) (by omega) j) (by decide) rfl ⟨by omega, by omega⟩ (Nat.le_of_ble_eq_true rfl) (Nat.le_of_ble_eq_true rfl) dX9_init_47 ?_
  refine n_putR (pc := 49) (hol := HO th [10, 11, 12] h0) C hin fk_RX9_27 x_ft9 kf_RX9_9 (x_sI_Town hth) (by omega) x_kTown_9 (fun _ => rfl) (fun _ => rfl) (ho_nin (by decide) hh) (x_rI_Town_9 hth) dX9_init_49 ?_
  refine n_aload_n (pc := 52) C 0 rfl rfl dX9_init_52 ?_
  refine n_bipush (pc := 53) (j := 12) C (by decide +kernel) dX9_init_53 ?_
  refine n_newa (pc := 55) (n := (th + 7)) (t := 0) (L := 12) (atype := .int) C rfl (Or.inl ⟨rfl, rfl⟩) xA_int (x_aI_Town_10 hth) (fun j => hM (th + 7) (by omega) j) (by decide) rfl ⟨by omega, by omega⟩ (Nat.le_of_ble_eq_true rfl) (Nat.le_of_ble_eq_true rfl) dX9_init_55 ?_
  refine n_putR (pc := 57) (hol := HO th [11, 12] h0) C hin fk_RX9_30 x_ft9 kf_RX9_10 (x_sI_Town hth) (by omega) x_kTown_10 (fun _ => rfl) (fun _ => rfl) (ho_nin (by decide) hh) (x_rI_Town_10 hth) dX9_init_57 ?_
  refine n_aload_n (pc := 60) C 0 rfl rfl dX9_init_60 ?_
  refine n_bipush (pc := 61) (j := 12) C (by decide +kernel) dX9_init_61 ?_
  refine n_newa (pc := 63) (n := (th + 8)) (t := 0) (L := 12) (atype := .int) C rfl (Or.inl ⟨rfl, rfl⟩) xA_int (x_aI_Town_11 hth) (fun j => hM (th + 8) (by omega) j) (by decide) rfl ⟨by omega, by omega⟩ (Nat.le_of_ble_eq_true rfl) (Nat.le_of_ble_eq_true rfl) dX9_init_63 ?_
  refine n_putR (pc := 65) (hol := HO th [12] h0) C hin fk_RX9_33 x_ft9 kf_RX9_11 (x_sI_Town hth) (by omega) x_kTown_11 (fun _ => rfl) (fun _ => rfl) (ho_nin (by decide) hh) (x_rI_Town_11 hth) dX9_init_65 ?_
  refine n_aload_n (pc := 68) C 0 rfl rfl dX9_init_68 ?_
  refine n_newH [0, 1, 2, 3, 4] (pc := 69) (n := (th + 9)) C nl_RX9_36 (x_sI_Rules (x_oI_Town_12 hth)) (x_zI_Rules (x_oI_Town_12 hth)) (fun j => hM (th + 9) (by omega) j) ⟨by omega, by omega⟩ (Nat.le_of_ble_eq_true rfl) (Nat.le_of_ble_eq_true rfl) dX9_init_69 ?_
  refine n_dup (pc := 72) C rfl dX9_init_72 ?_
  refine n_callJ (pc := 73) (rest := [vR b (th + 9), vR b th]) C [] (k_xRules l (x_oI_Town_12 hth) (ho_lt hh (by omega)) (fun k hk j => hM k (by omega) j)) kj_RX9_38 rfl rfl ⟨by omega, by omega⟩ ⟨(Nat.le_of_ble_eq_true rfl), (Nat.le_of_ble_eq_true rfl)⟩ (Nat.le_of_ble_eq_true rfl) (Nat.le_of_ble_eq_true rfl) (Nat.le_of_ble_eq_true rfl) rfl dX9_init_73 ?_
  refine n_putR (pc := 76) (hol := HO th [] h0) C hin fk_RX9_39 x_ft9 kf_RX9_12 (x_sI_Town hth) (by omega) x_kTown_12 (fun _ => rfl) (fun _ => rfl) (ho_nin (by decide) hh) (x_rI_Town_12 hth) dX9_init_76 ?_
  exact n_vret (pc := 79) C hr dX9_init_79
theorem kj_RX4_11 : CLJ xNest RX4 11 yX9_init "ThrownVoices" cX9_init 1 0 := ⟨by decide +kernel, gw 182 (by decide +kernel) (by decide +kernel), rfl, gw 126 (by decide +kernel) (by decide +kernel), gwc 183 (by decide +kernel) (by decide +kernel), ⟨by decide +kernel, by decide +kernel⟩, by decide +kernel⟩
theorem fk_RX4_12 : FL vwCl RX4 12 4 0 := ⟨RX4, TX4, 7, rfl, by decide, x_lays4, gw 322 (by decide +kernel) (by decide +kernel)⟩
theorem kf_RX4_0 : FWF vwCl RX4 4 0 (.object "ThrownVoices$Town") := ⟨RX4, TX4, 7, rfl, by decide +kernel, by decide +kernel, by decide +kernel⟩
theorem fk_RX4_18 : FL vwCl RX4 18 4 2 := ⟨RX4, TX4, 7, rfl, by decide, x_lays4, gw 326 (by decide +kernel) (by decide +kernel)⟩
theorem nl_RX4_22 : NL vwCl RX4 22 8 xK_Tokens 8 := ⟨RX8, TX8, tyX8, rfl, rfl, x_lays8, tyX8_ok, by decide +kernel, gw 287 (by decide +kernel) (by decide +kernel), gw 288 (by decide +kernel) (by decide +kernel), gw 128 (by decide +kernel) (by decide +kernel)⟩
theorem ko_RX8_3 : Cond.methodLink RX8 3 Lib.objectInit ∈ gws := gw 292 (by decide +kernel) (by decide +kernel)
theorem fk_RX8_9 : FL vwCl RX8 9 8 0 := ⟨RX8, TX8, 8, rfl, by decide, x_lays8, gw 293 (by decide +kernel) (by decide +kernel)⟩
theorem kf_RX8_0 : FWF vwCl RX8 8 0 (.array .int) := ⟨RX8, TX8, 8, rfl, by decide +kernel, by decide +kernel, by decide +kernel⟩
theorem fk_RX8_15 : FL vwCl RX8 15 8 1 := ⟨RX8, TX8, 8, rfl, by decide, x_lays8, gw 295 (by decide +kernel) (by decide +kernel)⟩
theorem kf_RX8_1 : FWF vwCl RX8 8 1 (.array .int) := ⟨RX8, TX8, 8, rfl, by decide +kernel, by decide +kernel, by decide +kernel⟩
theorem fk_RX8_18 : FL vwCl RX8 18 8 2 := ⟨RX8, TX8, 8, rfl, by decide, x_lays8, gw 297 (by decide +kernel) (by decide +kernel)⟩
theorem kf_RX8_2 : FWF vwCl RX8 8 2 (.array .int) := ⟨RX8, TX8, 8, rfl, by decide +kernel, by decide +kernel, by decide +kernel⟩
theorem dX8_init_0 : decode cX8_init 0 = .ok (.aload_n 0, 1) := by decide +kernel
theorem dX8_init_1 : decode cX8_init 1 = .ok (.invokespecial 3, 3) := by decide +kernel
theorem dX8_init_4 : decode cX8_init 4 = .ok (.aload_n 0, 1) := by decide +kernel
theorem dX8_init_5 : decode cX8_init 5 = .ok (.sipush 1601, 3) := by decide +kernel
theorem dX8_init_8 : decode cX8_init 8 = .ok (.newarray .int, 2) := by decide +kernel
theorem dX8_init_10 : decode cX8_init 10 = .ok (.putfield 9, 3) := by decide +kernel
theorem dX8_init_13 : decode cX8_init 13 = .ok (.aload_n 0, 1) := by decide +kernel
theorem dX8_init_14 : decode cX8_init 14 = .ok (.sipush 1601, 3) := by decide +kernel
theorem dX8_init_17 : decode cX8_init 17 = .ok (.newarray .int, 2) := by decide +kernel
theorem dX8_init_19 : decode cX8_init 19 = .ok (.putfield 15, 3) := by decide +kernel
theorem dX8_init_22 : decode cX8_init 22 = .ok (.aload_n 0, 1) := by decide +kernel
theorem dX8_init_23 : decode cX8_init 23 = .ok (.sipush 1601, 3) := by decide +kernel
theorem dX8_init_26 : decode cX8_init 26 = .ok (.newarray .int, 2) := by decide +kernel
theorem dX8_init_28 : decode cX8_init 28 = .ok (.putfield 18, 3) := by decide +kernel
theorem dX8_init_31 : decode cX8_init 31 = .ok (.return_, 1) := by decide +kernel
set_option maxHeartbeats 8000000 in
set_option maxRecDepth 40000 in
theorem k_xTokens (l : Launch) {h0 : List (Nat × Nat)} (hh : ∀ q ∈ h0, q.1 < 19) {M : Mem} (hM : ∀ k, 20 ≤ k → ∀ j, M k j = 0) : CtN l yX8_init cX8_init 1 1 12 vwCl xSh (NExt xNest) (fun b => [vR b 19]) 20 23 (Rfh xRf (HO 19 [0, 1, 2] h0)) (Rfh xRf h0) M M 3 4803 := by
  refine CtN_of (fun A => NExt_ok xNest A) (by decide) rfl (fun b => Nat.le_of_ble_eq_true rfl) ?_
  intro p e s m args below meth c D E b C hr hin hz0
  refine (show WN p l e (mkN 1 3 4803 12) s m args below meth c 1 D E vwCl xSh b (MQ below (QN D vwCl E xSh b 23 (Rfh xRf h0) M) args s 3 4803 (fun q => b ≤ q)) 20 (Rfh xRf (HO 19 [0, 1, 2] h0)) M 0 0 0 [(0, vR b 19)] [] from ?_)
  refine n_aload_n (pc := 0) C 0 rfl rfl dX8_init_0 ?_
  refine n_objInit (pc := 1) C ko_RX8_3 xo_i xo_c (Nat.le_of_ble_eq_true rfl) (Nat.le_of_ble_eq_true rfl) dX8_init_1 ?_
  refine n_aload_n (pc := 4) C 0 rfl rfl dX8_init_4 ?_
  refine n_sipush (pc := 5) (j := 1601) C (by decide +kernel) dX8_init_5 ?_
  refine n_newa (pc := 8) (n := 20) (t := 0) (L := 1601) (atype := .int) C rfl (Or.inl ⟨rfl, rfl⟩) xA_int x_s20 (fun j => hM 20 (by omega) j) (by decide) rfl ⟨by omega, by omega⟩ (Nat.le_of_ble_eq_true rfl) (Nat.le_of_ble_eq_true rfl) dX8_init_8 ?_
  refine n_putR (pc := 10) (hol := HO 19 [1, 2] h0) C hin fk_RX8_9 x_ft8 kf_RX8_0 x_s19 (by omega) x_kTokens_0 (fun _ => rfl) (fun _ => rfl) (ho_nin (by decide) hh) x_r19_0 dX8_init_10 ?_
  refine n_aload_n (pc := 13) C 0 rfl rfl dX8_init_13 ?_
  refine n_sipush (pc := 14) (j := 1601) C (by decide +kernel) dX8_init_14 ?_
  refine n_newa (pc := 17) (n := 21) (t := 0) (L := 1601) (atype := .int) C rfl (Or.inl ⟨rfl, rfl⟩) xA_int x_s21 (fun j => hM 21 (by omega) j) (by decide) rfl ⟨by omega, by omega⟩ (Nat.le_of_ble_eq_true rfl) (Nat.le_of_ble_eq_true rfl) dX8_init_17 ?_
  refine n_putR (pc := 19) (hol := HO 19 [2] h0) C hin fk_RX8_15 x_ft8 kf_RX8_1 x_s19 (by omega) x_kTokens_1 (fun _ => rfl) (fun _ => rfl) (ho_nin (by decide) hh) x_r19_1 dX8_init_19 ?_
  refine n_aload_n (pc := 22) C 0 rfl rfl dX8_init_22 ?_
  refine n_sipush (pc := 23) (j := 1601) C (by decide +kernel) dX8_init_23 ?_
  refine n_newa (pc := 26) (n := 22) (t := 0) (L := 1601) (atype := .int) C rfl (Or.inl ⟨rfl, rfl⟩) xA_int x_s22 (fun j => hM 22 (by omega) j) (by decide) rfl ⟨by omega, by omega⟩ (Nat.le_of_ble_eq_true rfl) (Nat.le_of_ble_eq_true rfl) dX8_init_26 ?_
  refine n_putR (pc := 28) (hol := HO 19 [] h0) C hin fk_RX8_18 x_ft8 kf_RX8_2 x_s19 (by omega) x_kTokens_2 (fun _ => rfl) (fun _ => rfl) (ho_nin (by decide) hh) x_r19_2 dX8_init_28 ?_
  exact n_vret (pc := 31) C hr dX8_init_31
theorem kj_RX4_24 : CLJ xNest RX4 24 yX8_init "ThrownVoices" cX8_init 1 0 := ⟨by decide +kernel, gw 290 (by decide +kernel) (by decide +kernel), rfl, gw 128 (by decide +kernel) (by decide +kernel), gwc 291 (by decide +kernel) (by decide +kernel), ⟨by decide +kernel, by decide +kernel⟩, by decide +kernel⟩
theorem fk_RX4_25 : FL vwCl RX4 25 4 3 := ⟨RX4, TX4, 7, rfl, by decide, x_lays4, gw 328 (by decide +kernel) (by decide +kernel)⟩
theorem kf_RX4_3 : FWF vwCl RX4 4 3 (.object "ThrownVoices$Tokens") := ⟨RX4, TX4, 7, rfl, by decide +kernel, by decide +kernel, by decide +kernel⟩
theorem dX4_init_0 : decode cX4_init 0 = .ok (.aload_n 0, 1) := by decide +kernel
theorem dX4_init_1 : decode cX4_init 1 = .ok (.invokespecial 3, 3) := by decide +kernel
theorem dX4_init_4 : decode cX4_init 4 = .ok (.aload_n 0, 1) := by decide +kernel
theorem dX4_init_5 : decode cX4_init 5 = .ok (.new 9, 3) := by decide +kernel
theorem dX4_init_8 : decode cX4_init 8 = .ok (.dup, 1) := by decide +kernel
theorem dX4_init_9 : decode cX4_init 9 = .ok (.invokespecial 11, 3) := by decide +kernel
theorem dX4_init_12 : decode cX4_init 12 = .ok (.putfield 12, 3) := by decide +kernel
theorem dX4_init_15 : decode cX4_init 15 = .ok (.aload_n 0, 1) := by decide +kernel
theorem dX4_init_16 : decode cX4_init 16 = .ok (.iconst (-1), 1) := by decide +kernel
theorem dX4_init_17 : decode cX4_init 17 = .ok (.putfield 18, 3) := by decide +kernel
theorem dX4_init_20 : decode cX4_init 20 = .ok (.aload_n 0, 1) := by decide +kernel
theorem dX4_init_21 : decode cX4_init 21 = .ok (.new 22, 3) := by decide +kernel
theorem dX4_init_24 : decode cX4_init 24 = .ok (.dup, 1) := by decide +kernel
theorem dX4_init_25 : decode cX4_init 25 = .ok (.invokespecial 24, 3) := by decide +kernel
theorem dX4_init_28 : decode cX4_init 28 = .ok (.putfield 25, 3) := by decide +kernel
theorem dX4_init_31 : decode cX4_init 31 = .ok (.return_, 1) := by decide +kernel
set_option maxHeartbeats 8000000 in
set_option maxRecDepth 40000 in
theorem k_xReader (l : Launch) {h0 : List (Nat × Nat)} (hh : ∀ q ∈ h0, q.1 < 3) {M : Mem} (hM : ∀ k, 4 ≤ k → ∀ j, M k j = 0) : CtN l yX4_init cX4_init 1 3 52 vwCl xSh (NExt xNest) (fun b => [vR b 3]) 4 23 (Rfh xRf (HO 3 [0, 3] h0)) (Rfh xRf h0) M (upM M 3 2 (-1)) 19 6597 := by
  refine CtN_of (fun A => NExt_ok xNest A) (by decide) rfl (fun b => Nat.le_of_ble_eq_true rfl) ?_
  intro p e s m args below meth c D E b C hr hin hz0
  refine (show WN p l e (mkN 3 19 6597 52) s m args below meth c 1 D E vwCl xSh b (MQ below (QN D vwCl E xSh b 23 (Rfh xRf h0) (upM M 3 2 (-1))) args s 19 6597 (fun q => b ≤ q)) 4 (Rfh xRf (HO 3 [0, 3] h0)) M 0 0 0 [(0, vR b 3)] [] from ?_)
  refine n_aload_n (pc := 0) C 0 rfl rfl dX4_init_0 ?_
  refine n_objInit (pc := 1) C ko_RX4_3 xo_i xo_c (Nat.le_of_ble_eq_true rfl) (Nat.le_of_ble_eq_true rfl) dX4_init_1 ?_
  refine n_aload_n (pc := 4) C 0 rfl rfl dX4_init_4 ?_
  refine n_newH [4, 5, 6, 7, 8, 9, 10, 11, 12] (pc := 5) (n := 4) C nl_RX4_9 x_s4 (rf_z (row := xRfL.getD 4 []) (by decide +kernel)) (fun j => hM 4 (by omega) j) ⟨by omega, by omega⟩ (Nat.le_of_ble_eq_true rfl) (Nat.le_of_ble_eq_true rfl) dX4_init_5 ?_
  refine n_dup (pc := 8) C rfl dX4_init_8 ?_
  refine n_callJ (pc := 9) (rest := [vR b 4, vR b 3]) C [] (k_xTown l x_m4 (ho_lt hh (by omega)) (fun k hk j => hM k (by omega) j)) kj_RX4_11 rfl rfl ⟨by omega, by omega⟩ ⟨(Nat.le_of_ble_eq_true rfl), (Nat.le_of_ble_eq_true rfl)⟩ (Nat.le_of_ble_eq_true rfl) (Nat.le_of_ble_eq_true rfl) (Nat.le_of_ble_eq_true rfl) rfl dX4_init_9 ?_
  refine n_putR (pc := 12) (hol := HO 3 [3] h0) C hin fk_RX4_12 x_ft4 kf_RX4_0 x_s3 (by omega) x_kReader_0 (fun _ => rfl) (fun _ => rfl) (ho_nin (by decide) hh) x_r3_0 dX4_init_12 ?_
  refine n_aload_n (pc := 15) C 0 rfl rfl dX4_init_15 ?_
  refine n_iconst (pc := 16) C dX4_init_16 ?_
  refine n_putI (pc := 17) C fk_RX4_18 x_ft4 x_w4_2 x_s3 (by omega) x_kReader_2 dX4_init_17 ?_
  refine n_aload_n (pc := 20) C 0 rfl rfl dX4_init_20 ?_
  refine n_newH [0, 1, 2] (pc := 21) (n := 19) C nl_RX4_22 x_s19 (rf_z (row := xRfL.getD 19 []) (by decide +kernel)) (fun j => (up_z (N1 := 19) hM (by omega) (by omega)) 19 (by omega) j) ⟨by omega, by omega⟩ (Nat.le_of_ble_eq_true rfl) (Nat.le_of_ble_eq_true rfl) dX4_init_21 ?_
  refine n_dup (pc := 24) C rfl dX4_init_24 ?_
  refine n_callJ (pc := 25) (rest := [vR b 19, vR b 3]) C [] (k_xTokens l  (ho_lt hh (by omega)) (fun k hk j => (up_z (N1 := 19) hM (by omega) (by omega)) k (by omega) j)) kj_RX4_24 rfl rfl ⟨by omega, by omega⟩ ⟨(Nat.le_of_ble_eq_true rfl), (Nat.le_of_ble_eq_true rfl)⟩ (Nat.le_of_ble_eq_true rfl) (Nat.le_of_ble_eq_true rfl) (Nat.le_of_ble_eq_true rfl) rfl dX4_init_25 ?_
  refine n_putR (pc := 28) (hol := HO 3 [] h0) C hin fk_RX4_25 x_ft4 kf_RX4_3 x_s3 (by omega) x_kReader_3 (fun _ => rfl) (fun _ => rfl) (ho_nin (by decide) hh) x_r3_3 dX4_init_28 ?_
  exact n_vret (pc := 31) C hr dX4_init_31
theorem kj_RX11_18 : CLJ xNest RX11 18 yX4_init "ThrownVoices" cX4_init 1 0 := ⟨by decide +kernel, gw 176 (by decide +kernel) (by decide +kernel), rfl, gw 125 (by decide +kernel) (by decide +kernel), gwc 177 (by decide +kernel) (by decide +kernel), ⟨by decide +kernel, by decide +kernel⟩, by decide +kernel⟩
theorem fk_RX11_19 : FL vwCl RX11 19 10 1 := ⟨RX11, TX11, 11, rfl, by decide, x_lays11, gw 538 (by decide +kernel) (by decide +kernel)⟩
theorem kf_RX11_1 : FWF vwCl RX11 10 1 (.object "ThrownVoices$Reader") := ⟨RX11, TX11, 11, rfl, by decide +kernel, by decide +kernel, by decide +kernel⟩
theorem nl_RX11_23 : NL vwCl RX11 23 9 xK_Town 13 := ⟨RX9, TX9, tyX9, rfl, rfl, x_lays9, tyX9_ok, by decide +kernel, gw 347 (by decide +kernel) (by decide +kernel), gw 180 (by decide +kernel) (by decide +kernel), gw 126 (by decide +kernel) (by decide +kernel)⟩
theorem kj_RX11_25 : CLJ xNest RX11 25 yX9_init "ThrownVoices" cX9_init 1 0 := ⟨by decide +kernel, gw 182 (by decide +kernel) (by decide +kernel), rfl, gw 126 (by decide +kernel) (by decide +kernel), gwc 183 (by decide +kernel) (by decide +kernel), ⟨by decide +kernel, by decide +kernel⟩, by decide +kernel⟩
theorem fk_RX11_26 : FL vwCl RX11 26 10 2 := ⟨RX11, TX11, 11, rfl, by decide, x_lays11, gw 539 (by decide +kernel) (by decide +kernel)⟩
theorem kf_RX11_2 : FWF vwCl RX11 10 2 (.object "ThrownVoices$Town") := ⟨RX11, TX11, 11, rfl, by decide +kernel, by decide +kernel, by decide +kernel⟩
theorem nl_RX11_30 : NL vwCl RX11 30 6 xK_State 15 := ⟨RX6, TX6, tyX6, rfl, rfl, x_lays6, tyX6_ok, by decide +kernel, gw 349 (by decide +kernel) (by decide +kernel), gw 350 (by decide +kernel) (by decide +kernel), gw 129 (by decide +kernel) (by decide +kernel)⟩
theorem ko_RX6_3 : Cond.methodLink RX6 3 Lib.objectInit ∈ gws := gw 354 (by decide +kernel) (by decide +kernel)
theorem fk_RX6_9 : FL vwCl RX6 9 6 0 := ⟨RX6, TX6, 15, rfl, by decide, x_lays6, gw 355 (by decide +kernel) (by decide +kernel)⟩
theorem kf_RX6_0 : FWF vwCl RX6 6 0 (.array .int) := ⟨RX6, TX6, 15, rfl, by decide +kernel, by decide +kernel, by decide +kernel⟩
theorem fk_RX6_15 : FL vwCl RX6 15 6 1 := ⟨RX6, TX6, 15, rfl, by decide, x_lays6, gw 359 (by decide +kernel) (by decide +kernel)⟩
theorem kf_RX6_1 : FWF vwCl RX6 6 1 (.array .int) := ⟨RX6, TX6, 15, rfl, by decide +kernel, by decide +kernel, by decide +kernel⟩
theorem fk_RX6_18 : FL vwCl RX6 18 6 2 := ⟨RX6, TX6, 15, rfl, by decide, x_lays6, gw 362 (by decide +kernel) (by decide +kernel)⟩
theorem kf_RX6_2 : FWF vwCl RX6 6 2 (.array .int) := ⟨RX6, TX6, 15, rfl, by decide +kernel, by decide +kernel, by decide +kernel⟩
theorem fk_RX6_21 : FL vwCl RX6 21 6 3 := ⟨RX6, TX6, 15, rfl, by decide, x_lays6, gw 365 (by decide +kernel) (by decide +kernel)⟩
theorem kf_RX6_3 : FWF vwCl RX6 6 3 (.array .int) := ⟨RX6, TX6, 15, rfl, by decide +kernel, by decide +kernel, by decide +kernel⟩
theorem fk_RX6_24 : FL vwCl RX6 24 6 4 := ⟨RX6, TX6, 15, rfl, by decide, x_lays6, gw 370 (by decide +kernel) (by decide +kernel)⟩
theorem kf_RX6_4 : FWF vwCl RX6 6 4 (.array .int) := ⟨RX6, TX6, 15, rfl, by decide +kernel, by decide +kernel, by decide +kernel⟩
theorem fk_RX6_27 : FL vwCl RX6 27 6 5 := ⟨RX6, TX6, 15, rfl, by decide, x_lays6, gw 373 (by decide +kernel) (by decide +kernel)⟩
theorem kf_RX6_5 : FWF vwCl RX6 6 5 (.array .int) := ⟨RX6, TX6, 15, rfl, by decide +kernel, by decide +kernel, by decide +kernel⟩
theorem fk_RX6_30 : FL vwCl RX6 30 6 6 := ⟨RX6, TX6, 15, rfl, by decide, x_lays6, gw 376 (by decide +kernel) (by decide +kernel)⟩
theorem kf_RX6_6 : FWF vwCl RX6 6 6 (.array .int) := ⟨RX6, TX6, 15, rfl, by decide +kernel, by decide +kernel, by decide +kernel⟩
theorem fk_RX6_33 : FL vwCl RX6 33 6 7 := ⟨RX6, TX6, 15, rfl, by decide, x_lays6, gw 380 (by decide +kernel) (by decide +kernel)⟩
theorem kf_RX6_7 : FWF vwCl RX6 6 7 (.array .int) := ⟨RX6, TX6, 15, rfl, by decide +kernel, by decide +kernel, by decide +kernel⟩
theorem fk_RX6_36 : FL vwCl RX6 36 6 8 := ⟨RX6, TX6, 15, rfl, by decide, x_lays6, gw 383 (by decide +kernel) (by decide +kernel)⟩
theorem kf_RX6_8 : FWF vwCl RX6 6 8 (.array .int) := ⟨RX6, TX6, 15, rfl, by decide +kernel, by decide +kernel, by decide +kernel⟩
theorem fk_RX6_39 : FL vwCl RX6 39 6 9 := ⟨RX6, TX6, 15, rfl, by decide, x_lays6, gw 386 (by decide +kernel) (by decide +kernel)⟩
theorem kf_RX6_9 : FWF vwCl RX6 6 9 (.array .int) := ⟨RX6, TX6, 15, rfl, by decide +kernel, by decide +kernel, by decide +kernel⟩
theorem fk_RX6_42 : FL vwCl RX6 42 6 10 := ⟨RX6, TX6, 15, rfl, by decide, x_lays6, gw 388 (by decide +kernel) (by decide +kernel)⟩
theorem kf_RX6_10 : FWF vwCl RX6 6 10 (.array .int) := ⟨RX6, TX6, 15, rfl, by decide +kernel, by decide +kernel, by decide +kernel⟩
theorem fk_RX6_45 : FL vwCl RX6 45 6 11 := ⟨RX6, TX6, 15, rfl, by decide, x_lays6, gw 390 (by decide +kernel) (by decide +kernel)⟩
theorem kf_RX6_11 : FWF vwCl RX6 6 11 (.array .int) := ⟨RX6, TX6, 15, rfl, by decide +kernel, by decide +kernel, by decide +kernel⟩
theorem fk_RX6_48 : FL vwCl RX6 48 6 14 := ⟨RX6, TX6, 15, rfl, by decide, x_lays6, gw 398 (by decide +kernel) (by decide +kernel)⟩
theorem kf_RX6_14 : FWF vwCl RX6 6 14 (.object "ThrownVoices$Town") := ⟨RX6, TX6, 15, rfl, by decide +kernel, by decide +kernel, by decide +kernel⟩
theorem dX6_init_0 : decode cX6_init 0 = .ok (.aload_n 0, 1) := by decide +kernel
theorem dX6_init_1 : decode cX6_init 1 = .ok (.invokespecial 3, 3) := by decide +kernel
theorem dX6_init_4 : decode cX6_init 4 = .ok (.aload_n 0, 1) := by decide +kernel
theorem dX6_init_5 : decode cX6_init 5 = .ok (.bipush 7, 2) := by decide +kernel
theorem dX6_init_7 : decode cX6_init 7 = .ok (.newarray .int, 2) := by decide +kernel
theorem dX6_init_9 : decode cX6_init 9 = .ok (.putfield 9, 3) := by decide +kernel
theorem dX6_init_12 : decode cX6_init 12 = .ok (.aload_n 0, 1) := by decide +kernel
theorem dX6_init_13 : decode cX6_init 13 = .ok (.bipush 7, 2) := by decide +kernel
theorem dX6_init_15 : decode cX6_init 15 = .ok (.newarray .int, 2) := by decide +kernel
theorem dX6_init_17 : decode cX6_init 17 = .ok (.putfield 15, 3) := by decide +kernel
theorem dX6_init_20 : decode cX6_init 20 = .ok (.aload_n 0, 1) := by decide +kernel
theorem dX6_init_21 : decode cX6_init 21 = .ok (.bipush 7, 2) := by decide +kernel
theorem dX6_init_23 : decode cX6_init 23 = .ok (.newarray .int, 2) := by decide +kernel
theorem dX6_init_25 : decode cX6_init 25 = .ok (.putfield 18, 3) := by decide +kernel
theorem dX6_init_28 : decode cX6_init 28 = .ok (.aload_n 0, 1) := by decide +kernel
theorem dX6_init_29 : decode cX6_init 29 = .ok (.bipush 12, 2) := by decide +kernel
theorem dX6_init_31 : decode cX6_init 31 = .ok (.newarray .int, 2) := by decide +kernel
theorem dX6_init_33 : decode cX6_init 33 = .ok (.putfield 21, 3) := by decide +kernel
theorem dX6_init_36 : decode cX6_init 36 = .ok (.aload_n 0, 1) := by decide +kernel
theorem dX6_init_37 : decode cX6_init 37 = .ok (.bipush 12, 2) := by decide +kernel
theorem dX6_init_39 : decode cX6_init 39 = .ok (.newarray .int, 2) := by decide +kernel
theorem dX6_init_41 : decode cX6_init 41 = .ok (.putfield 24, 3) := by decide +kernel
theorem dX6_init_44 : decode cX6_init 44 = .ok (.aload_n 0, 1) := by decide +kernel
theorem dX6_init_45 : decode cX6_init 45 = .ok (.bipush 12, 2) := by decide +kernel
theorem dX6_init_47 : decode cX6_init 47 = .ok (.newarray .int, 2) := by decide +kernel
theorem dX6_init_49 : decode cX6_init 49 = .ok (.putfield 27, 3) := by decide +kernel
theorem dX6_init_52 : decode cX6_init 52 = .ok (.aload_n 0, 1) := by decide +kernel
theorem dX6_init_53 : decode cX6_init 53 = .ok (.bipush 12, 2) := by decide +kernel
theorem dX6_init_55 : decode cX6_init 55 = .ok (.newarray .int, 2) := by decide +kernel
theorem dX6_init_57 : decode cX6_init 57 = .ok (.putfield 30, 3) := by decide +kernel
theorem dX6_init_60 : decode cX6_init 60 = .ok (.aload_n 0, 1) := by decide +kernel
theorem dX6_init_61 : decode cX6_init 61 = .ok (.bipush 12, 2) := by decide +kernel
theorem dX6_init_63 : decode cX6_init 63 = .ok (.newarray .int, 2) := by decide +kernel
theorem dX6_init_65 : decode cX6_init 65 = .ok (.putfield 33, 3) := by decide +kernel
theorem dX6_init_68 : decode cX6_init 68 = .ok (.aload_n 0, 1) := by decide +kernel
theorem dX6_init_69 : decode cX6_init 69 = .ok (.bipush 12, 2) := by decide +kernel
theorem dX6_init_71 : decode cX6_init 71 = .ok (.newarray .int, 2) := by decide +kernel
theorem dX6_init_73 : decode cX6_init 73 = .ok (.putfield 36, 3) := by decide +kernel
theorem dX6_init_76 : decode cX6_init 76 = .ok (.aload_n 0, 1) := by decide +kernel
theorem dX6_init_77 : decode cX6_init 77 = .ok (.bipush 12, 2) := by decide +kernel
theorem dX6_init_79 : decode cX6_init 79 = .ok (.newarray .int, 2) := by decide +kernel
theorem dX6_init_81 : decode cX6_init 81 = .ok (.putfield 39, 3) := by decide +kernel
theorem dX6_init_84 : decode cX6_init 84 = .ok (.aload_n 0, 1) := by decide +kernel
theorem dX6_init_85 : decode cX6_init 85 = .ok (.bipush 12, 2) := by decide +kernel
theorem dX6_init_87 : decode cX6_init 87 = .ok (.newarray .int, 2) := by decide +kernel
theorem dX6_init_89 : decode cX6_init 89 = .ok (.putfield 42, 3) := by decide +kernel
theorem dX6_init_92 : decode cX6_init 92 = .ok (.aload_n 0, 1) := by decide +kernel
theorem dX6_init_93 : decode cX6_init 93 = .ok (.bipush 12, 2) := by decide +kernel
theorem dX6_init_95 : decode cX6_init 95 = .ok (.newarray .int, 2) := by decide +kernel
theorem dX6_init_97 : decode cX6_init 97 = .ok (.putfield 45, 3) := by decide +kernel
theorem dX6_init_100 : decode cX6_init 100 = .ok (.aload_n 0, 1) := by decide +kernel
theorem dX6_init_101 : decode cX6_init 101 = .ok (.aload_n 1, 1) := by decide +kernel
theorem dX6_init_102 : decode cX6_init 102 = .ok (.putfield 48, 3) := by decide +kernel
theorem dX6_init_105 : decode cX6_init 105 = .ok (.return_, 1) := by decide +kernel
set_option maxHeartbeats 8000000 in
set_option maxRecDepth 40000 in
theorem k_xState (l : Launch) {th : Nat} (hth : th ∈ xI_State) {h0 : List (Nat × Nat)} (hh : ∀ q ∈ h0, q.1 < th) {M : Mem} (hM : ∀ k, (th + 1) ≤ k → ∀ j, M k j = 0) : CtN l yX6_init cX6_init 2 1 12 vwCl xSh (NExt xNest) (fun b => [vR b th, vR b 23]) (th + 1) (th + 13) (Rfh xRf (HO th [0, 1, 2, 3, 4, 5, 6, 7, 8, 9, 10, 11, 14] h0)) (Rfh xRf h0) M M 12 129 := by
  refine CtN_of (fun A => NExt_ok xNest A) (by decide) rfl (fun b => Nat.le_of_ble_eq_true rfl) ?_
  intro p e s m args below meth c D E b C hr hin hz0
  refine (show WN p l e (mkN 1 12 129 12) s m args below meth c 2 D E vwCl xSh b (MQ below (QN D vwCl E xSh b (th + 13) (Rfh xRf h0) M) args s 12 129 (fun q => b ≤ q)) (th + 1) (Rfh xRf (HO th [0, 1, 2, 3, 4, 5, 6, 7, 8, 9, 10, 11, 14] h0)) M 0 0 0 [(0, vR b th), (1, vR b 23)] [] from ?_)
  refine n_aload_n (pc := 0) C 0 rfl rfl dX6_init_0 ?_
  refine n_objInit (pc := 1) C ko_RX6_3 xo_i xo_c (Nat.le_of_ble_eq_true rfl) (Nat.le_of_ble_eq_true rfl) dX6_init_1 ?_
  refine n_aload_n (pc := 4) C 0 rfl rfl dX6_init_4 ?_
  refine n_bipush (pc := 5) (j := 7) C (by decide +kernel) dX6_init_5 ?_
  refine n_newa (pc := 7) (n := (th + 1)) (t := 0) (L := 7) (atype := .int) C rfl (Or.inl ⟨rfl, rfl⟩) xA_int (x_aI_State_0 hth) (fun j => hM (th + 1) (by omega) j) (by decide) rfl ⟨by omega, by omega⟩ (Nat.le_of_ble_eq_true rfl) (Nat.le_of_ble_eq_true rfl) dX6_init_7 ?_
  refine n_putR (pc := 9) (hol := HO th [1, 2, 3, 4, 5, 6, 7, 8, 9, 10, 11, 14] h0) C hin fk_RX6_9 x_ft6 kf_RX6_0 (x_sI_State hth) (by omega) x_kState_0 (fun _ => rfl) (fun _ => rfl) (ho_nin (by decide) hh) (x_rI_State_0 hth) dX6_init_9 ?_
  refine n_aload_n (pc := 12) C 0 rfl rfl dX6_init_12 ?_
  refine n_bipush (pc := 13) (j := 7) C (by decide +kernel) dX6_init_13 ?_
  refine n_newa (pc := 15) (n := (th + 2)) (t := 0) (L := 7) (atype := .int) C rfl (Or.inl ⟨rfl, rfl⟩) xA_int (x_aI_State_1 hth) (fun j => hM (th + 2) (by omega) j) (by decide) rfl ⟨by omega, by omega⟩ (Nat.le_of_ble_eq_true rfl) (Nat.le_of_ble_eq_true rfl) dX6_init_15 ?_
  refine n_putR (pc := 17) (hol := HO th [2, 3, 4, 5, 6, 7, 8, 9, 10, 11, 14] h0) C hin fk_RX6_15 x_ft6 kf_RX6_1 (x_sI_State hth) (by omega) x_kState_1 (fun _ => rfl) (fun _ => rfl) (ho_nin (by decide) hh) (x_rI_State_1 hth) dX6_init_17 ?_
  refine n_aload_n (pc := 20) C 0 rfl rfl dX6_init_20 ?_
  refine n_bipush (pc := 21) (j := 7) C (by decide +kernel) dX6_init_21 ?_
  refine n_newa (pc := 23) (n := (th + 3)) (t := 0) (L := 7) (atype := .int) C rfl (Or.inl ⟨rfl, rfl⟩) xA_int (x_aI_State_2 hth) (fun j => hM (th + 3) (by omega) j) (by decide) rfl ⟨by omega, by omega⟩ (Nat.le_of_ble_eq_true rfl) (Nat.le_of_ble_eq_true rfl) dX6_init_23 ?_
  refine n_putR (pc := 25) (hol := HO th [3, 4, 5, 6, 7, 8, 9, 10, 11, 14] h0) C hin fk_RX6_18 x_ft6 kf_RX6_2 (x_sI_State hth) (by omega) x_kState_2 (fun _ => rfl) (fun _ => rfl) (ho_nin (by decide) hh) (x_rI_State_2 hth) dX6_init_25 ?_
  refine n_aload_n (pc := 28) C 0 rfl rfl dX6_init_28 ?_
  refine n_bipush (pc := 29) (j := 12) C (by decide +kernel) dX6_init_29 ?_
  refine n_newa (pc := 31) (n := (th + 4)) (t := 0) (L := 12) (atype := .int) C rfl (Or.inl ⟨rfl, rfl⟩) xA_int (x_aI_State_3 hth) (fun j => hM (th + 4) (by omega) j) (by decide) rfl ⟨by omega, by omega⟩ (Nat.le_of_ble_eq_true rfl) (Nat.le_of_ble_eq_true rfl) dX6_init_31 ?_
  refine n_putR (pc := 33) (hol := HO th [4, 5, 6, 7, 8, 9, 10, 11, 14] h0) C hin fk_RX6_21 x_ft6 kf_RX6_3 (x_sI_State hth) (by omega) x_kState_3 (fun _ => rfl) (fun _ => rfl) (ho_nin (by decide) hh) (x_rI_State_3 hth) dX6_init_33 ?_
  refine n_aload_n (pc := 36) C 0 rfl rfl dX6_init_36 ?_
  refine n_bipush (pc := 37) (j := 12) C (by decide +kernel) dX6_init_37 ?_
  refine n_newa (pc := 39) (n := (th + 5)) (t := 0) (L := 12) (atype := .int) C rfl (Or.inl ⟨rfl, rfl⟩) xA_int (x_aI_State_4 hth) (fun j => hM (th + 5) (by omega) j) (by decide) rfl ⟨by omega, by omega⟩ (Nat.le_of_ble_eq_true rfl) (Nat.le_of_ble_eq_true rfl) dX6_init_39 ?_
  refine n_putR (pc := 41) (hol := HO th [5, 6, 7, 8, 9, 10, 11, 14] h0) C hin fk_RX6_24 x_ft6 kf_RX6_4 (x_sI_State hth) (by omega) x_kState_4 (fun _ => rfl) (fun _ => rfl) (ho_nin (by decide) hh) (x_rI_State_4 hth) dX6_init_41 ?_
  refine n_aload_n (pc := 44) C 0 rfl rfl dX6_init_44 ?_
  refine n_bipush (pc := 45) (j := 12) C (by decide +kernel) dX6_init_45 ?_
  refine n_newa (pc := 47) (n := (th + 6)) (t := 0) (L := 12) (atype := .int) C rfl (Or.inl ⟨rfl, rfl⟩) xA_int (x_aI_State_5 hth) (fun j => hM (th + 6) (by omega) j) (by decide) rfl ⟨by omega, by omega⟩ (Nat.le_of_ble_eq_true rfl) (Nat.le_of_ble_eq_true rfl) dX6_init_47 ?_
  refine n_putR (pc := 49) (hol := HO th [6, 7, 8, 9, 10, 11, 14] h0) C hin fk_RX6_27 x_ft6 kf_RX6_5 (x_sI_State hth) (by omega) x_kState_5 (fun _ => rfl) (fun _ => rfl) (ho_nin (by decide) hh) (x_rI_State_5 hth) dX6_init_49 ?_
  refine n_aload_n (pc := 52) C 0 rfl rfl dX6_init_52 ?_
  refine n_bipush (pc := 53) (j := 12) C (by decide +kernel) dX6_init_53 ?_
  refine n_newa (pc := 55) (n := (th + 7)) (t := 0) (L := 12) (atype := .int) C rfl (Or.inl ⟨rfl, rfl⟩) xA_int (x_aI_State_6 hth) (fun j => hM (th + 7) (by omega) j) (by decide) rfl ⟨by omega, by omega⟩ (Nat.le_of_ble_eq_true rfl) (Nat.le_of_ble_eq_true rfl) dX6_init_55 ?_
  refine n_putR (pc := 57) (hol := HO th [7, 8, 9, 10, 11, 14] h0) C hin fk_RX6_30 x_ft6 kf_RX6_6 (x_sI_State hth) (by omega) x_kState_6 (fun _ => rfl) (fun _ => rfl) (ho_nin (by decide) hh) (x_rI_State_6 hth) dX6_init_57 ?_
  refine n_aload_n (pc := 60) C 0 rfl rfl dX6_init_60 ?_
  refine n_bipush (pc := 61) (j := 12) C (by decide +kernel) dX6_init_61 ?_
  refine n_newa (pc := 63) (n := (th + 8)) (t := 0) (L := 12) (atype := .int) C rfl (Or.inl ⟨rfl, rfl⟩) xA_int (x_aI_State_7 hth) (fun j => hM (th + 8) (by omega) j) (by decide) rfl ⟨by omega, by omega⟩ (Nat.le_of_ble_eq_true rfl) (Nat.le_of_ble_eq_true rfl) dX6_init_63 ?_
  refine n_putR (pc := 65) (hol := HO th [8, 9, 10, 11, 14] h0) C hin fk_RX6_33 x_ft6 kf_RX6_7 (x_sI_State hth) (by omega) x_kState_7 (fun _ => rfl) (fun _ => rfl) (ho_nin (by decide) hh) (x_rI_State_7 hth) dX6_init_65 ?_
  refine n_aload_n (pc := 68) C 0 rfl rfl dX6_init_68 ?_
  refine n_bipush (pc := 69) (j := 12) C (by decide +kernel) dX6_init_69 ?_
  refine n_newa (pc := 71) (n := (th + 9)) (t := 0) (L := 12) (atype := .int) C rfl (Or.inl ⟨rfl, rfl⟩) xA_int (x_aI_State_8 hth) (fun j => hM (th + 9) (by omega) j) (by decide) rfl ⟨by omega, by omega⟩ (Nat.le_of_ble_eq_true rfl) (Nat.le_of_ble_eq_true rfl) dX6_init_71 ?_
  refine n_putR (pc := 73) (hol := HO th [9, 10, 11, 14] h0) C hin fk_RX6_36 x_ft6 kf_RX6_8 (x_sI_State hth) (by omega) x_kState_8 (fun _ => rfl) (fun _ => rfl) (ho_nin (by decide) hh) (x_rI_State_8 hth) dX6_init_73 ?_
  refine n_aload_n (pc := 76) C 0 rfl rfl dX6_init_76 ?_
  refine n_bipush (pc := 77) (j := 12) C (by decide +kernel) dX6_init_77 ?_
  refine n_newa (pc := 79) (n := (th + 10)) (t := 0) (L := 12) (atype := .int) C rfl (Or.inl ⟨rfl, rfl⟩) xA_int (x_aI_State_9 hth) (fun j => hM (th + 10) (by omega) j) (by decide) rfl ⟨by omega, by omega⟩ (Nat.le_of_ble_eq_true rfl) (Nat.le_of_ble_eq_true rfl) dX6_init_79 ?_
  refine n_putR (pc := 81) (hol := HO th [10, 11, 14] h0) C hin fk_RX6_39 x_ft6 kf_RX6_9 (x_sI_State hth) (by omega) x_kState_9 (fun _ => rfl) (fun _ => rfl) (ho_nin (by decide) hh) (x_rI_State_9 hth) dX6_init_81 ?_
  refine n_aload_n (pc := 84) C 0 rfl rfl dX6_init_84 ?_
  refine n_bipush (pc := 85) (j := 12) C (by decide +kernel) dX6_init_85 ?_
  refine n_newa (pc := 87) (n := (th + 11)) (t := 0) (L := 12) (atype := .int) C rfl (Or.inl ⟨rfl, rfl⟩) xA_int (x_aI_State_10 hth) (fun j => hM (th + 11) (by omega) j) (by decide) rfl ⟨by omega, by omega⟩ (Nat.le_of_ble_eq_true rfl) (Nat.le_of_ble_eq_true rfl) dX6_init_87 ?_
  refine n_putR (pc := 89) (hol := HO th [11, 14] h0) C hin fk_RX6_42 x_ft6 kf_RX6_10 (x_sI_State hth) (by omega) x_kState_10 (fun _ => rfl) (fun _ => rfl) (ho_nin (by decide) hh) (x_rI_State_10 hth) dX6_init_89 ?_
  refine n_aload_n (pc := 92) C 0 rfl rfl dX6_init_92 ?_
  refine n_bipush (pc := 93) (j := 12) C (by decide +kernel) dX6_init_93 ?_
  refine n_newa (pc := 95) (n := (th + 12)) (t := 0) (L := 12) (atype := .int) C rfl (Or.inl ⟨rfl, rfl⟩) xA_int (x_aI_State_11 hth) (fun j => hM (th + 12) (by omega) j) (by decide) rfl ⟨by omega, by omega⟩ (Nat.le_of_ble_eq_true rfl) (Nat.le_of_ble_eq_true rfl) dX6_init_95 ?_
  refine n_putR (pc := 97) (hol := HO th [14] h0) C hin fk_RX6_45 x_ft6 kf_RX6_11 (x_sI_State hth) (by omega) x_kState_11 (fun _ => rfl) (fun _ => rfl) (ho_nin (by decide) hh) (x_rI_State_11 hth) dX6_init_97 ?_
  refine n_aload_n (pc := 100) C 0 rfl rfl dX6_init_100 ?_
  refine n_aload_n (pc := 101) C 1 rfl rfl dX6_init_101 ?_
  refine n_putR (pc := 102) (hol := HO th [] h0) C hin fk_RX6_48 x_ft6 kf_RX6_14 (x_sI_State hth) (by omega) x_kState_14 (fun _ => rfl) (fun _ => rfl) (ho_nin (by decide) hh) (x_rI_State_14 hth) dX6_init_102 ?_
  exact n_vret (pc := 105) C hr dX6_init_105
theorem ki_RX11_32 : CLI RX11 32 yX6_init cX6_init 2 1 := ⟨gw 351 (by decide +kernel) (by decide +kernel), gw 352 (by decide +kernel) (by decide +kernel), rfl, gw 129 (by decide +kernel) (by decide +kernel), gwc 353 (by decide +kernel) (by decide +kernel), ⟨by decide +kernel, by decide +kernel⟩, by decide +kernel⟩
theorem fk_RX11_35 : FL vwCl RX11 35 10 3 := ⟨RX11, TX11, 11, rfl, by decide, x_lays11, gw 540 (by decide +kernel) (by decide +kernel)⟩
theorem kf_RX11_3 : FWF vwCl RX11 10 3 (.object "ThrownVoices$State") := ⟨RX11, TX11, 11, rfl, by decide +kernel, by decide +kernel, by decide +kernel⟩
theorem fk_RX11_39 : FL vwCl RX11 39 10 4 := ⟨RX11, TX11, 11, rfl, by decide, x_lays11, gw 541 (by decide +kernel) (by decide +kernel)⟩
theorem kf_RX11_4 : FWF vwCl RX11 10 4 (.object "ThrownVoices$State") := ⟨RX11, TX11, 11, rfl, by decide +kernel, by decide +kernel, by decide +kernel⟩
theorem nl_RX11_42 : NL vwCl RX11 42 2 xK_Past 3 := ⟨RX2, TX2, tyX2, rfl, rfl, x_lays2, tyX2_ok, by decide +kernel, gw 430 (by decide +kernel) (by decide +kernel), gw 431 (by decide +kernel) (by decide +kernel), gw 130 (by decide +kernel) (by decide +kernel)⟩
theorem ko_RX2_1 : Cond.methodLink RX2 1 Lib.objectInit ∈ gws := gw 435 (by decide +kernel) (by decide +kernel)
theorem kc_RX2_9 : Cond.classLink RX2 9 "ThrownVoices$State" ∈ gws := gw 436 (by decide +kernel) (by decide +kernel)
theorem fk_RX2_11 : FL vwCl RX2 11 2 1 := ⟨RX2, TX2, 3, rfl, by decide, x_lays2, gw 441 (by decide +kernel) (by decide +kernel)⟩
theorem kf_RX2_1 : FWF vwCl RX2 2 1 (.array (.object "ThrownVoices$State")) := ⟨RX2, TX2, 3, rfl, by decide +kernel, by decide +kernel, by decide +kernel⟩
theorem nl_RX2_9 : NL vwCl RX2 9 6 xK_State 15 := ⟨RX6, TX6, tyX6, rfl, rfl, x_lays6, tyX6_ok, by decide +kernel, gw 436 (by decide +kernel) (by decide +kernel), gw 350 (by decide +kernel) (by decide +kernel), gw 129 (by decide +kernel) (by decide +kernel)⟩
theorem ki_RX2_15 : CLI RX2 15 yX6_init cX6_init 2 1 := ⟨gw 438 (by decide +kernel) (by decide +kernel), gw 352 (by decide +kernel) (by decide +kernel), rfl, gw 129 (by decide +kernel) (by decide +kernel), gwc 353 (by decide +kernel) (by decide +kernel), ⟨by decide +kernel, by decide +kernel⟩, by decide +kernel⟩
theorem dX2_init_0 : decode cX2_init 0 = .ok (.aload_n 0, 1) := by decide +kernel
theorem dX2_init_1 : decode cX2_init 1 = .ok (.invokespecial 1, 3) := by decide +kernel
theorem dX2_init_4 : decode cX2_init 4 = .ok (.aload_n 0, 1) := by decide +kernel
theorem dX2_init_5 : decode cX2_init 5 = .ok (.bipush 20, 2) := by decide +kernel
theorem dX2_init_7 : decode cX2_init 7 = .ok (.anewarray 9, 3) := by decide +kernel
theorem dX2_init_10 : decode cX2_init 10 = .ok (.putfield 11, 3) := by decide +kernel
theorem dX2_init_13 : decode cX2_init 13 = .ok (.iconst 0, 1) := by decide +kernel
theorem dX2_init_14 : decode cX2_init 14 = .ok (.istore_n 2, 1) := by decide +kernel
theorem dX2_init_15 : decode cX2_init 15 = .ok (.iload_n 2, 1) := by decide +kernel
theorem dX2_init_16 : decode cX2_init 16 = .ok (.bipush 20, 2) := by decide +kernel
theorem dX2_init_18 : decode cX2_init 18 = .ok (.if_icmp .ge 23, 3) := by decide +kernel
theorem dX2_init_21 : decode cX2_init 21 = .ok (.aload_n 0, 1) := by decide +kernel
theorem dX2_init_22 : decode cX2_init 22 = .ok (.getfield 11, 3) := by decide +kernel
theorem dX2_init_25 : decode cX2_init 25 = .ok (.iload_n 2, 1) := by decide +kernel
theorem dX2_init_26 : decode cX2_init 26 = .ok (.new 9, 3) := by decide +kernel
theorem dX2_init_29 : decode cX2_init 29 = .ok (.dup, 1) := by decide +kernel
theorem dX2_init_30 : decode cX2_init 30 = .ok (.aload_n 1, 1) := by decide +kernel
theorem dX2_init_31 : decode cX2_init 31 = .ok (.invokespecial 15, 3) := by decide +kernel
theorem dX2_init_34 : decode cX2_init 34 = .ok (.aastore, 1) := by decide +kernel
theorem dX2_init_35 : decode cX2_init 35 = .ok (.iinc 2 1, 3) := by decide +kernel
theorem dX2_init_38 : decode cX2_init 38 = .ok (.goto (-23), 3) := by decide +kernel
theorem dX2_init_41 : decode cX2_init 41 = .ok (.return_, 1) := by decide +kernel
set_option maxHeartbeats 8000000 in
set_option maxRecDepth 40000 in
theorem k_xPast (l : Launch) {h0 : List (Nat × Nat)} (hh : ∀ q ∈ h0, q.1 < 64) {M : Mem} (hM : ∀ k, 65 ≤ k → ∀ j, M k j = 0) : CtN l yX2_init cX2_init 3 2 33 vwCl xSh (NExt xNest) (fun b => [vR b 64, vR b 23]) 65 326 (Rfh xRf (HO 64 [1] h0)) (Rfh xRf h0) M M 261 2900 := by
  refine CtN_of (fun A => NExt_ok xNest A) (by decide) rfl (fun b => Nat.le_of_ble_eq_true rfl) ?_
  intro p e s m args below meth c D E b C hr hin hz0
  refine (show WN p l e (mkN 2 261 2900 33) s m args below meth c 3 D E vwCl xSh b (MQ below (QN D vwCl E xSh b 326 (Rfh xRf h0) M) args s 261 2900 (fun q => b ≤ q)) 65 (Rfh xRf (HO 64 [1] h0)) M 0 0 0 [(0, vR b 64), (1, vR b 23)] [] from ?_)
  refine n_aload_n (pc := 0) C 0 rfl rfl dX2_init_0 ?_
  refine n_objInit (pc := 1) C ko_RX2_1 xo_i xo_c (Nat.le_of_ble_eq_true rfl) (Nat.le_of_ble_eq_true rfl) dX2_init_1 ?_
  refine n_aload_n (pc := 4) C 0 rfl rfl dX2_init_4 ?_
  refine n_bipush (pc := 5) (j := 20) C (by decide +kernel) dX2_init_5 ?_
  refine n_anewH [0, 1, 2, 3, 4, 5, 6, 7, 8, 9, 10, 11, 12, 13, 14, 15, 16, 17, 18, 19] (pc := 7) (n := 65) (t := 4) (L := 20) C kc_RX2_9 (va_AO.use (ext_nowN C).2.1) (fun _ => rfl) x_s65 (rf_z (row := xRfL.getD 65 []) (by decide +kernel)) (by decide) rfl ⟨by omega, by omega⟩ (Nat.le_of_ble_eq_true rfl) (Nat.le_of_ble_eq_true rfl) dX2_init_7 ?_
  refine n_perm (hol' := (64, 1) :: HO 65 [0, 1, 2, 3, 4, 5, 6, 7, 8, 9, 10, 11, 12, 13, 14, 15, 16, 17, 18, 19] (HO 64 [] h0)) (fun q => ho_swap q) ?_
  refine n_putR (pc := 10) (hol := HO 65 [0, 1, 2, 3, 4, 5, 6, 7, 8, 9, 10, 11, 12, 13, 14, 15, 16, 17, 18, 19] (HO 64 [] h0)) C hin fk_RX2_11 x_ft2 kf_RX2_1 x_s64 (by omega) x_kPast_1 (fun _ => rfl) (fun _ => rfl) (ho_nin2 (by decide) (ho_nin (by decide) hh)) x_r64_1 dX2_init_10 ?_
  refine n_iconst (pc := 13) C dX2_init_13 ?_
  refine n_istore_n (pc := 14) (lv' := [(2, vI 0), (0, vR b 64), (1, vR b 23)]) C rfl dX2_init_14 (by decide) rfl ?_
  refine n_iload_n (pc := 15) C 0 rfl rfl dX2_init_15 ?_
  refine n_bipush (pc := 16) (j := 20) C (by decide +kernel) dX2_init_16 ?_
  refine n_icmp_ge (pc := 18) (tgt := 41) (α := Unit) (f := none) (g := some ()) (r := ()) C (if_neg (by decide +kernel)) dX2_init_18 (by decide) (fun _ z => nomatch z) (fun _ _ => ?_)
  refine n_aload_n (pc := 21) C 1 rfl rfl dX2_init_21 ?_
  refine n_getR (pc := 22) (r := 65) C fk_RX2_11 x_s64 (by omega) x_kPast_1 ((Rfh_hd (ho_nin2 (by decide) (ho_nin (A := []) (by decide) hh))).2.2.trans x_r64_1) dX2_init_22 ?_
  refine n_iload_n (pc := 25) C 0 rfl rfl dX2_init_25 ?_
  refine n_newH [0, 1, 2, 3, 4, 5, 6, 7, 8, 9, 10, 11, 14] (pc := 26) (n := 66) C nl_RX2_9 x_s66 (rf_z (row := xRfL.getD 66 []) (by decide +kernel)) (fun j => hM 66 (by omega) j) ⟨by omega, by omega⟩ (Nat.le_of_ble_eq_true rfl) (Nat.le_of_ble_eq_true rfl) dX2_init_26 ?_
  refine n_dup (pc := 29) C rfl dX2_init_29 ?_
  refine n_aload_n (pc := 30) C 2 rfl rfl dX2_init_30 ?_
  refine n_callI (pc := 31) (rest := [vR b 66, vI 0, vR b 65]) C (NExt_ok _ _) [vR b 23] (k_xState l x_m66 (ho_lt (ho_le hh (by omega)) (by omega)) (fun k hk j => hM k (by omega) j)) ki_RX2_15 rfl rfl ⟨by omega, by omega⟩ ⟨(Nat.le_of_ble_eq_true rfl), (Nat.le_of_ble_eq_true rfl)⟩ (Nat.le_of_ble_eq_true rfl) (Nat.le_of_ble_eq_true rfl) (Nat.le_of_ble_eq_true rfl) rfl dX2_init_31 ?_
  refine n_aast (pc := 34) (t := 4) (hol := HO 65 [1, 2, 3, 4, 5, 6, 7, 8, 9, 10, 11, 12, 13, 14, 15, 16, 17, 18, 19] (HO 64 [] h0)) C (fun _ => rfl) x_s65 (by omega) (by decide) x_s66 (by omega) rfl ⟨by decide, by decide⟩ rfl (ho_nin (by decide) (ho_le hh (by omega))) (x_qr65 (i := 0) (by decide)) dX2_init_34 ?_
  refine n_iinc (pc := 35) (lv' := [(2, vI 1), (0, vR b 64), (1, vR b 23)]) C 0 rfl dX2_init_35 (by decide) rfl ?_
  refine n_goto (pc := 38) (tgt := 15) C dX2_init_38 (by decide) ?_
  refine n_iload_n (pc := 15) C 0 rfl rfl dX2_init_15 ?_
  refine n_bipush (pc := 16) (j := 20) C (by decide +kernel) dX2_init_16 ?_
  refine n_icmp_ge (pc := 18) (tgt := 41) (α := Unit) (f := none) (g := some ()) (r := ()) C (if_neg (by decide +kernel)) dX2_init_18 (by decide) (fun _ z => nomatch z) (fun _ _ => ?_)
  refine n_aload_n (pc := 21) C 1 rfl rfl dX2_init_21 ?_
  refine n_getR (pc := 22) (r := 65) C fk_RX2_11 x_s64 (by omega) x_kPast_1 ((Rfh_hd (ho_nin2 (by decide) (ho_nin (A := []) (by decide) hh))).2.2.trans x_r64_1) dX2_init_22 ?_
  refine n_iload_n (pc := 25) C 0 rfl rfl dX2_init_25 ?_
  refine n_newH [0, 1, 2, 3, 4, 5, 6, 7, 8, 9, 10, 11, 14] (pc := 26) (n := 79) C nl_RX2_9 x_s79 (rf_z (row := xRfL.getD 79 []) (by decide +kernel)) (fun j => hM 79 (by omega) j) ⟨by omega, by omega⟩ (Nat.le_of_ble_eq_true rfl) (Nat.le_of_ble_eq_true rfl) dX2_init_26 ?_
  refine n_dup (pc := 29) C rfl dX2_init_29 ?_
  refine n_aload_n (pc := 30) C 2 rfl rfl dX2_init_30 ?_
  refine n_callI (pc := 31) (rest := [vR b 79, vI 1, vR b 65]) C (NExt_ok _ _) [vR b 23] (k_xState l x_m79 (ho_lt (ho_le hh (by omega)) (by omega)) (fun k hk j => hM k (by omega) j)) ki_RX2_15 rfl rfl ⟨by omega, by omega⟩ ⟨(Nat.le_of_ble_eq_true rfl), (Nat.le_of_ble_eq_true rfl)⟩ (Nat.le_of_ble_eq_true rfl) (Nat.le_of_ble_eq_true rfl) (Nat.le_of_ble_eq_true rfl) rfl dX2_init_31 ?_
  refine n_aast (pc := 34) (t := 4) (hol := HO 65 [2, 3, 4, 5, 6, 7, 8, 9, 10, 11, 12, 13, 14, 15, 16, 17, 18, 19] (HO 64 [] h0)) C (fun _ => rfl) x_s65 (by omega) (by decide) x_s79 (by omega) rfl ⟨by decide, by decide⟩ rfl (ho_nin (by decide) (ho_le hh (by omega))) (x_qr65 (i := 1) (by decide)) dX2_init_34 ?_
  refine n_iinc (pc := 35) (lv' := [(2, vI 2), (0, vR b 64), (1, vR b 23)]) C 0 rfl dX2_init_35 (by decide) rfl ?_
  refine n_goto (pc := 38) (tgt := 15) C dX2_init_38 (by decide) ?_
  refine n_iload_n (pc := 15) C 0 rfl rfl dX2_init_15 ?_
  refine n_bipush (pc := 16) (j := 20) C (by decide +kernel) dX2_init_16 ?_
  refine n_icmp_ge (pc := 18) (tgt := 41) (α := Unit) (f := none) (g := some ()) (r := ()) C (if_neg (by decide +kernel)) dX2_init_18 (by decide) (fun _ z => nomatch z) (fun _ _ => ?_)
  refine n_aload_n (pc := 21) C 1 rfl rfl dX2_init_21 ?_
  refine n_getR (pc := 22) (r := 65) C fk_RX2_11 x_s64 (by omega) x_kPast_1 ((Rfh_hd (ho_nin2 (by decide) (ho_nin (A := []) (by decide) hh))).2.2.trans x_r64_1) dX2_init_22 ?_
  refine n_iload_n (pc := 25) C 0 rfl rfl dX2_init_25 ?_
  refine n_newH [0, 1, 2, 3, 4, 5, 6, 7, 8, 9, 10, 11, 14] (pc := 26) (n := 92) C nl_RX2_9 x_s92 (rf_z (row := xRfL.getD 92 []) (by decide +kernel)) (fun j => hM 92 (by omega) j) ⟨by omega, by omega⟩ (Nat.le_of_ble_eq_true rfl) (Nat.le_of_ble_eq_true rfl) dX2_init_26 ?_
  refine n_dup (pc := 29) C rfl dX2_init_29 ?_
  refine n_aload_n (pc := 30) C 2 rfl rfl dX2_init_30 ?_
  refine n_callI (pc := 31) (rest := [vR b 92, vI 2, vR b 65]) C (NExt_ok _ _) [vR b 23] (k_xState l x_m92 (ho_lt (ho_le hh (by omega)) (by omega)) (fun k hk j => hM k (by omega) j)) ki_RX2_15 rfl rfl ⟨by omega, by omega⟩ ⟨(Nat.le_of_ble_eq_true rfl), (Nat.le_of_ble_eq_true rfl)⟩ (Nat.le_of_ble_eq_true rfl) (Nat.le_of_ble_eq_true rfl) (Nat.le_of_ble_eq_true rfl) rfl dX2_init_31 ?_
  refine n_aast (pc := 34) (t := 4) (hol := HO 65 [3, 4, 5, 6, 7, 8, 9, 10, 11, 12, 13, 14, 15, 16, 17, 18, 19] (HO 64 [] h0)) C (fun _ => rfl) x_s65 (by omega) (by decide) x_s92 (by omega) rfl ⟨by decide, by decide⟩ rfl (ho_nin (by decide) (ho_le hh (by omega))) (x_qr65 (i := 2) (by decide)) dX2_init_34 ?_
  refine n_iinc (pc := 35) (lv' := [(2, vI 3), (0, vR b 64), (1, vR b 23)]) C 0 rfl dX2_init_35 (by decide) rfl ?_
  refine n_goto (pc := 38) (tgt := 15) C dX2_init_38 (by decide) ?_
  refine n_iload_n (pc := 15) C 0 rfl rfl dX2_init_15 ?_
  refine n_bipush (pc := 16) (j := 20) C (by decide +kernel) dX2_init_16 ?_
  refine n_icmp_ge (pc := 18) (tgt := 41) (α := Unit) (f := none) (g := some ()) (r := ()) C (if_neg (by decide +kernel)) dX2_init_18 (by decide) (fun _ z => nomatch z) (fun _ _ => ?_)
  refine n_aload_n (pc := 21) C 1 rfl rfl dX2_init_21 ?_
  refine n_getR (pc := 22) (r := 65) C fk_RX2_11 x_s64 (by omega) x_kPast_1 ((Rfh_hd (ho_nin2 (by decide) (ho_nin (A := []) (by decide) hh))).2.2.trans x_r64_1) dX2_init_22 ?_
  refine n_iload_n (pc := 25) C 0 rfl rfl dX2_init_25 ?_
  refine n_newH [0, 1, 2, 3, 4, 5, 6, 7, 8, 9, 10, 11, 14] (pc := 26) (n := 105) C nl_RX2_9 x_s105 (rf_z (row := xRfL.getD 105 []) (by decide +kernel)) (fun j => hM 105 (by omega) j) ⟨by omega, by omega⟩ (Nat.le_of_ble_eq_true rfl) (Nat.le_of_ble_eq_true rfl) dX2_init_26 ?_
  refine n_dup (pc := 29) C rfl dX2_init_29 ?_
  refine n_aload_n (pc := 30) C 2 rfl rfl dX2_init_30 ?_
  refine n_callI (pc := 31) (rest := [vR b 105, vI 3, vR b 65]) C (NExt_ok _ _) [vR b 23] (k_xState l x_m105 (ho_lt (ho_le hh (by omega)) (by omega)) (fun k hk j => hM k (by omega) j)) ki_RX2_15 rfl rfl ⟨by omega, by omega⟩ ⟨(Nat.le_of_ble_eq_true rfl), (Nat.le_of_ble_eq_true rfl)⟩ (Nat.le_of_ble_eq_true rfl) (Nat.le_of_ble_eq_true rfl) (Nat.le_of_ble_eq_true rfl) rfl dX2_init_31 ?_
  refine n_aast (pc := 34) (t := 4) (hol := HO 65 [4, 5, 6, 7, 8, 9, 10, 11, 12, 13, 14, 15, 16, 17, 18, 19] (HO 64 [] h0)) C (fun _ => rfl) x_s65 (by omega) (by decide) x_s105 (by omega) rfl ⟨by decide, by decide⟩ rfl (ho_nin (by decide) (ho_le hh (by omega))) (x_qr65 (i := 3) (by decide)) dX2_init_34 ?_
  refine n_iinc (pc := 35) (lv' := [(2, vI 4), (0, vR b 64), (1, vR b 23)]) C 0 rfl dX2_init_35 (by decide) rfl ?_
  refine n_goto (pc := 38) (tgt := 15) C dX2_init_38 (by decide) ?_
  refine n_iload_n (pc := 15) C 0 rfl rfl dX2_init_15 ?_
  refine n_bipush (pc := 16) (j := 20) C (by decide +kernel) dX2_init_16 ?_
  refine n_icmp_ge (pc := 18) (tgt := 41) (α := Unit) (f := none) (g := some ()) (r := ()) C (if_neg (by decide +kernel)) dX2_init_18 (by decide) (fun _ z => nomatch z) (fun _ _ => ?_)
  refine n_aload_n (pc := 21) C 1 rfl rfl dX2_init_21 ?_
  refine n_getR (pc := 22) (r := 65) C fk_RX2_11 x_s64 (by omega) x_kPast_1 ((Rfh_hd (ho_nin2 (by decide) (ho_nin (A := []) (by decide) hh))).2.2.trans x_r64_1) dX2_init_22 ?_
  refine n_iload_n (pc := 25) C 0 rfl rfl dX2_init_25 ?_
  refine n_newH [0, 1, 2, 3, 4, 5, 6, 7, 8, 9, 10, 11, 14] (pc := 26) (n := 118) C nl_RX2_9 x_s118 (rf_z (row := xRfL.getD 118 []) (by decide +kernel)) (fun j => hM 118 (by omega) j) ⟨by omega, by omega⟩ (Nat.le_of_ble_eq_true rfl) (Nat.le_of_ble_eq_true rfl) dX2_init_26 ?_
  refine n_dup (pc := 29) C rfl dX2_init_29 ?_
  refine n_aload_n (pc := 30) C 2 rfl rfl dX2_init_30 ?_
  refine n_callI (pc := 31) (rest := [vR b 118, vI 4, vR b 65]) C (NExt_ok _ _) [vR b 23] (k_xState l x_m118 (ho_lt (ho_le hh (by omega)) (by omega)) (fun k hk j => hM k (by omega) j)) ki_RX2_15 rfl rfl ⟨by omega, by omega⟩ ⟨(Nat.le_of_ble_eq_true rfl), (Nat.le_of_ble_eq_true rfl)⟩ (Nat.le_of_ble_eq_true rfl) (Nat.le_of_ble_eq_true rfl) (Nat.le_of_ble_eq_true rfl) rfl dX2_init_31 ?_
  refine n_aast (pc := 34) (t := 4) (hol := HO 65 [5, 6, 7, 8, 9, 10, 11, 12, 13, 14, 15, 16, 17, 18, 19] (HO 64 [] h0)) C (fun _ => rfl) x_s65 (by omega) (by decide) x_s118 (by omega) rfl ⟨by decide, by decide⟩ rfl (ho_nin (by decide) (ho_le hh (by omega))) (x_qr65 (i := 4) (by decide)) dX2_init_34 ?_
  refine n_iinc (pc := 35) (lv' := [(2, vI 5), (0, vR b 64), (1, vR b 23)]) C 0 rfl dX2_init_35 (by decide) rfl ?_
  refine n_goto (pc := 38) (tgt := 15) C dX2_init_38 (by decide) ?_
  refine n_iload_n (pc := 15) C 0 rfl rfl dX2_init_15 ?_
  refine n_bipush (pc := 16) (j := 20) C (by decide +kernel) dX2_init_16 ?_
  refine n_icmp_ge (pc := 18) (tgt := 41) (α := Unit) (f := none) (g := some ()) (r := ()) C (if_neg (by decide +kernel)) dX2_init_18 (by decide) (fun _ z => nomatch z) (fun _ _ => ?_)
  refine n_aload_n (pc := 21) C 1 rfl rfl dX2_init_21 ?_
  refine n_getR (pc := 22) (r := 65) C fk_RX2_11 x_s64 (by omega) x_kPast_1 ((Rfh_hd (ho_nin2 (by decide) (ho_nin (A := []) (by decide) hh))).2.2.trans x_r64_1) dX2_init_22 ?_
  refine n_iload_n (pc := 25) C 0 rfl rfl dX2_init_25 ?_
  refine n_newH [0, 1, 2, 3, 4, 5, 6, 7, 8, 9, 10, 11, 14] (pc := 26) (n := 131) C nl_RX2_9 x_s131 (rf_z (row := xRfL.getD 131 []) (by decide +kernel)) (fun j => hM 131 (by omega) j) ⟨by omega, by omega⟩ (Nat.le_of_ble_eq_true rfl) (Nat.le_of_ble_eq_true rfl) dX2_init_26 ?_
  refine n_dup (pc := 29) C rfl dX2_init_29 ?_
  refine n_aload_n (pc := 30) C 2 rfl rfl dX2_init_30 ?_
  refine n_callI (pc := 31) (rest := [vR b 131, vI 5, vR b 65]) C (NExt_ok _ _) [vR b 23] (k_xState l x_m131 (ho_lt (ho_le hh (by omega)) (by omega)) (fun k hk j => hM k (by omega) j)) ki_RX2_15 rfl rfl ⟨by omega, by omega⟩ ⟨(Nat.le_of_ble_eq_true rfl), (Nat.le_of_ble_eq_true rfl)⟩ (Nat.le_of_ble_eq_true rfl) (Nat.le_of_ble_eq_true rfl) (Nat.le_of_ble_eq_true rfl) rfl dX2_init_31 ?_
  refine n_aast (pc := 34) (t := 4) (hol := HO 65 [6, 7, 8, 9, 10, 11, 12, 13, 14, 15, 16, 17, 18, 19] (HO 64 [] h0)) C (fun _ => rfl) x_s65 (by omega) (by decide) x_s131 (by omega) rfl ⟨by decide, by decide⟩ rfl (ho_nin (by decide) (ho_le hh (by omega))) (x_qr65 (i := 5) (by decide)) dX2_init_34 ?_
  refine n_iinc (pc := 35) (lv' := [(2, vI 6), (0, vR b 64), (1, vR b 23)]) C 0 rfl dX2_init_35 (by decide) rfl ?_
  refine n_goto (pc := 38) (tgt := 15) C dX2_init_38 (by decide) ?_
  refine n_iload_n (pc := 15) C 0 rfl rfl dX2_init_15 ?_
  refine n_bipush (pc := 16) (j := 20) C (by decide +kernel) dX2_init_16 ?_
  refine n_icmp_ge (pc := 18) (tgt := 41) (α := Unit) (f := none) (g := some ()) (r := ()) C (if_neg (by decide +kernel)) dX2_init_18 (by decide) (fun _ z => nomatch z) (fun _ _ => ?_)
  refine n_aload_n (pc := 21) C 1 rfl rfl dX2_init_21 ?_
  refine n_getR (pc := 22) (r := 65) C fk_RX2_11 x_s64 (by omega) x_kPast_1 ((Rfh_hd (ho_nin2 (by decide) (ho_nin (A := []) (by decide) hh))).2.2.trans x_r64_1) dX2_init_22 ?_
  refine n_iload_n (pc := 25) C 0 rfl rfl dX2_init_25 ?_
  refine n_newH [0, 1, 2, 3, 4, 5, 6, 7, 8, 9, 10, 11, 14] (pc := 26) (n := 144) C nl_RX2_9 x_s144 (rf_z (row := xRfL.getD 144 []) (by decide +kernel)) (fun j => hM 144 (by omega) j) ⟨by omega, by omega⟩ (Nat.le_of_ble_eq_true rfl) (Nat.le_of_ble_eq_true rfl) dX2_init_26 ?_
  refine n_dup (pc := 29) C rfl dX2_init_29 ?_
  refine n_aload_n (pc := 30) C 2 rfl rfl dX2_init_30 ?_
  refine n_callI (pc := 31) (rest := [vR b 144, vI 6, vR b 65]) C (NExt_ok _ _) [vR b 23] (k_xState l x_m144 (ho_lt (ho_le hh (by omega)) (by omega)) (fun k hk j => hM k (by omega) j)) ki_RX2_15 rfl rfl ⟨by omega, by omega⟩ ⟨(Nat.le_of_ble_eq_true rfl), (Nat.le_of_ble_eq_true rfl)⟩ (Nat.le_of_ble_eq_true rfl) (Nat.le_of_ble_eq_true rfl) (Nat.le_of_ble_eq_true rfl) rfl dX2_init_31 ?_
  refine n_aast (pc := 34) (t := 4) (hol := HO 65 [7, 8, 9, 10, 11, 12, 13, 14, 15, 16, 17, 18, 19] (HO 64 [] h0)) C (fun _ => rfl) x_s65 (by omega) (by decide) x_s144 (by omega) rfl ⟨by decide, by decide⟩ rfl (ho_nin (by decide) (ho_le hh (by omega))) (x_qr65 (i := 6) (by decide)) dX2_init_34 ?_
  refine n_iinc (pc := 35) (lv' := [(2, vI 7), (0, vR b 64), (1, vR b 23)]) C 0 rfl dX2_init_35 (by decide) rfl ?_
  refine n_goto (pc := 38) (tgt := 15) C dX2_init_38 (by decide) ?_
  refine n_iload_n (pc := 15) C 0 rfl rfl dX2_init_15 ?_
  refine n_bipush (pc := 16) (j := 20) C (by decide +kernel) dX2_init_16 ?_
  refine n_icmp_ge (pc := 18) (tgt := 41) (α := Unit) (f := none) (g := some ()) (r := ()) C (if_neg (by decide +kernel)) dX2_init_18 (by decide) (fun _ z => nomatch z) (fun _ _ => ?_)
  refine n_aload_n (pc := 21) C 1 rfl rfl dX2_init_21 ?_
  refine n_getR (pc := 22) (r := 65) C fk_RX2_11 x_s64 (by omega) x_kPast_1 ((Rfh_hd (ho_nin2 (by decide) (ho_nin (A := []) (by decide) hh))).2.2.trans x_r64_1) dX2_init_22 ?_
  refine n_iload_n (pc := 25) C 0 rfl rfl dX2_init_25 ?_
  refine n_newH [0, 1, 2, 3, 4, 5, 6, 7, 8, 9, 10, 11, 14] (pc := 26) (n := 157) C nl_RX2_9 x_s157 (rf_z (row := xRfL.getD 157 []) (by decide +kernel)) (fun j => hM 157 (by omega) j) ⟨by omega, by omega⟩ (Nat.le_of_ble_eq_true rfl) (Nat.le_of_ble_eq_true rfl) dX2_init_26 ?_
  refine n_dup (pc := 29) C rfl dX2_init_29 ?_
  refine n_aload_n (pc := 30) C 2 rfl rfl dX2_init_30 ?_
  refine n_callI (pc := 31) (rest := [vR b 157, vI 7, vR b 65]) C (NExt_ok _ _) [vR b 23] (k_xState l x_m157 (ho_lt (ho_le hh (by omega)) (by omega)) (fun k hk j => hM k (by omega) j)) ki_RX2_15 rfl rfl ⟨by omega, by omega⟩ ⟨(Nat.le_of_ble_eq_true rfl), (Nat.le_of_ble_eq_true rfl)⟩ (Nat.le_of_ble_eq_true rfl) (Nat.le_of_ble_eq_true rfl) (Nat.le_of_ble_eq_true rfl) rfl dX2_init_31 ?_
  refine n_aast (pc := 34) (t := 4) (hol := HO 65 [8, 9, 10, 11, 12, 13, 14, 15, 16, 17, 18, 19] (HO 64 [] h0)) C (fun _ => rfl) x_s65 (by omega) (by decide) x_s157 (by omega) rfl ⟨by decide, by decide⟩ rfl (ho_nin (by decide) (ho_le hh (by omega))) (x_qr65 (i := 7) (by decide)) dX2_init_34 ?_
  refine n_iinc (pc := 35) (lv' := [(2, vI 8), (0, vR b 64), (1, vR b 23)]) C 0 rfl dX2_init_35 (by decide) rfl ?_
  refine n_goto (pc := 38) (tgt := 15) C dX2_init_38 (by decide) ?_
  refine n_iload_n (pc := 15) C 0 rfl rfl dX2_init_15 ?_
  refine n_bipush (pc := 16) (j := 20) C (by decide +kernel) dX2_init_16 ?_
  refine n_icmp_ge (pc := 18) (tgt := 41) (α := Unit) (f := none) (g := some ()) (r := ()) C (if_neg (by decide +kernel)) dX2_init_18 (by decide) (fun _ z => nomatch z) (fun _ _ => ?_)
  refine n_aload_n (pc := 21) C 1 rfl rfl dX2_init_21 ?_
  refine n_getR (pc := 22) (r := 65) C fk_RX2_11 x_s64 (by omega) x_kPast_1 ((Rfh_hd (ho_nin2 (by decide) (ho_nin (A := []) (by decide) hh))).2.2.trans x_r64_1) dX2_init_22 ?_
  refine n_iload_n (pc := 25) C 0 rfl rfl dX2_init_25 ?_
  refine n_newH [0, 1, 2, 3, 4, 5, 6, 7, 8, 9, 10, 11, 14] (pc := 26) (n := 170) C nl_RX2_9 x_s170 (rf_z (row := xRfL.getD 170 []) (by decide +kernel)) (fun j => hM 170 (by omega) j) ⟨by omega, by omega⟩ (Nat.le_of_ble_eq_true rfl) (Nat.le_of_ble_eq_true rfl) dX2_init_26 ?_
  refine n_dup (pc := 29) C rfl dX2_init_29 ?_
  refine n_aload_n (pc := 30) C 2 rfl rfl dX2_init_30 ?_
  refine n_callI (pc := 31) (rest := [vR b 170, vI 8, vR b 65]) C (NExt_ok _ _) [vR b 23] (k_xState l x_m170 (ho_lt (ho_le hh (by omega)) (by omega)) (fun k hk j => hM k (by omega) j)) ki_RX2_15 rfl rfl ⟨by omega, by omega⟩ ⟨(Nat.le_of_ble_eq_true rfl), (Nat.le_of_ble_eq_true rfl)⟩ (Nat.le_of_ble_eq_true rfl) (Nat.le_of_ble_eq_true rfl) (Nat.le_of_ble_eq_true rfl) rfl dX2_init_31 ?_
  refine n_aast (pc := 34) (t := 4) (hol := HO 65 [9, 10, 11, 12, 13, 14, 15, 16, 17, 18, 19] (HO 64 [] h0)) C (fun _ => rfl) x_s65 (by omega) (by decide) x_s170 (by omega) rfl ⟨by decide, by decide⟩ rfl (ho_nin (by decide) (ho_le hh (by omega))) (x_qr65 (i := 8) (by decide)) dX2_init_34 ?_
  refine n_iinc (pc := 35) (lv' := [(2, vI 9), (0, vR b 64), (1, vR b 23)]) C 0 rfl dX2_init_35 (by decide) rfl ?_
  refine n_goto (pc := 38) (tgt := 15) C dX2_init_38 (by decide) ?_
  refine n_iload_n (pc := 15) C 0 rfl rfl dX2_init_15 ?_
  refine n_bipush (pc := 16) (j := 20) C (by decide +kernel) dX2_init_16 ?_
  refine n_icmp_ge (pc := 18) (tgt := 41) (α := Unit) (f := none) (g := some ()) (r := ()) C (if_neg (by decide +kernel)) dX2_init_18 (by decide) (fun _ z => nomatch z) (fun _ _ => ?_)
  refine n_aload_n (pc := 21) C 1 rfl rfl dX2_init_21 ?_
  refine n_getR (pc := 22) (r := 65) C fk_RX2_11 x_s64 (by omega) x_kPast_1 ((Rfh_hd (ho_nin2 (by decide) (ho_nin (A := []) (by decide) hh))).2.2.trans x_r64_1) dX2_init_22 ?_
  refine n_iload_n (pc := 25) C 0 rfl rfl dX2_init_25 ?_
  refine n_newH [0, 1, 2, 3, 4, 5, 6, 7, 8, 9, 10, 11, 14] (pc := 26) (n := 183) C nl_RX2_9 x_s183 (rf_z (row := xRfL.getD 183 []) (by decide +kernel)) (fun j => hM 183 (by omega) j) ⟨by omega, by omega⟩ (Nat.le_of_ble_eq_true rfl) (Nat.le_of_ble_eq_true rfl) dX2_init_26 ?_
  refine n_dup (pc := 29) C rfl dX2_init_29 ?_
  refine n_aload_n (pc := 30) C 2 rfl rfl dX2_init_30 ?_
  refine n_callI (pc := 31) (rest := [vR b 183, vI 9, vR b 65]) C (NExt_ok _ _) [vR b 23] (k_xState l x_m183 (ho_lt (ho_le hh (by omega)) (by omega)) (fun k hk j => hM k (by omega) j)) ki_RX2_15 rfl rfl ⟨by omega, by omega⟩ ⟨(Nat.le_of_ble_eq_true rfl), (Nat.le_of_ble_eq_true rfl)⟩ (Nat.le_of_ble_eq_true rfl) (Nat.le_of_ble_eq_true rfl) (Nat.le_of_ble_eq_true rfl) rfl dX2_init_31 ?_
  refine n_aast (pc := 34) (t := 4) (hol := HO 65 [10, 11, 12, 13, 14, 15, 16, 17, 18, 19] (HO 64 [] h0)) C (fun _ => rfl) x_s65 (by omega) (by decide) x_s183 (by omega) rfl ⟨by decide, by decide⟩ rfl (ho_nin (by decide) (ho_le hh (by omega))) (x_qr65 (i := 9) (by decide)) dX2_init_34 ?_
  refine n_iinc (pc := 35) (lv' := [(2, vI 10), (0, vR b 64), (1, vR b 23)]) C 0 rfl dX2_init_35 (by decide) rfl ?_
  refine n_goto (pc := 38) (tgt := 15) C dX2_init_38 (by decide) ?_
  refine n_iload_n (pc := 15) C 0 rfl rfl dX2_init_15 ?_
  refine n_bipush (pc := 16) (j := 20) C (by decide +kernel) dX2_init_16 ?_
  refine n_icmp_ge (pc := 18) (tgt := 41) (α := Unit) (f := none) (g := some ()) (r := ()) C (if_neg (by decide +kernel)) dX2_init_18 (by decide) (fun _ z => nomatch z) (fun _ _ => ?_)
  refine n_aload_n (pc := 21) C 1 rfl rfl dX2_init_21 ?_
  refine n_getR (pc := 22) (r := 65) C fk_RX2_11 x_s64 (by omega) x_kPast_1 ((Rfh_hd (ho_nin2 (by decide) (ho_nin (A := []) (by decide) hh))).2.2.trans x_r64_1) dX2_init_22 ?_
  refine n_iload_n (pc := 25) C 0 rfl rfl dX2_init_25 ?_
  refine n_newH [0, 1, 2, 3, 4, 5, 6, 7, 8, 9, 10, 11, 14] (pc := 26) (n := 196) C nl_RX2_9 x_s196 (rf_z (row := xRfL.getD 196 []) (by decide +kernel)) (fun j => hM 196 (by omega) j) ⟨by omega, by omega⟩ (Nat.le_of_ble_eq_true rfl) (Nat.le_of_ble_eq_true rfl) dX2_init_26 ?_
  refine n_dup (pc := 29) C rfl dX2_init_29 ?_
  refine n_aload_n (pc := 30) C 2 rfl rfl dX2_init_30 ?_
  refine n_callI (pc := 31) (rest := [vR b 196, vI 10, vR b 65]) C (NExt_ok _ _) [vR b 23] (k_xState l x_m196 (ho_lt (ho_le hh (by omega)) (by omega)) (fun k hk j => hM k (by omega) j)) ki_RX2_15 rfl rfl ⟨by omega, by omega⟩ ⟨(Nat.le_of_ble_eq_true rfl), (Nat.le_of_ble_eq_true rfl)⟩ (Nat.le_of_ble_eq_true rfl) (Nat.le_of_ble_eq_true rfl) (Nat.le_of_ble_eq_true rfl) rfl dX2_init_31 ?_
  refine n_aast (pc := 34) (t := 4) (hol := HO 65 [11, 12, 13, 14, 15, 16, 17, 18, 19] (HO 64 [] h0)) C (fun _ => rfl) x_s65 (by omega) (by decide) x_s196 (by omega) rfl ⟨by decide, by decide⟩ rfl (ho_nin (by decide) (ho_le hh (by omega))) (x_qr65 (i := 10) (by decide)) dX2_init_34 ?_
  refine n_iinc (pc := 35) (lv' := [(2, vI 11), (0, vR b 64), (1, vR b 23)]) C 0 rfl dX2_init_35 (by decide) rfl ?_
  refine n_goto (pc := 38) (tgt := 15) C dX2_init_38 (by decide) ?_
  refine n_iload_n (pc := 15) C 0 rfl rfl dX2_init_15 ?_
  refine n_bipush (pc := 16) (j := 20) C (by decide +kernel) dX2_init_16 ?_
  refine n_icmp_ge (pc := 18) (tgt := 41) (α := Unit) (f := none) (g := some ()) (r := ()) C (if_neg (by decide +kernel)) dX2_init_18 (by decide) (fun _ z => nomatch z) (fun _ _ => ?_)
  refine n_aload_n (pc := 21) C 1 rfl rfl dX2_init_21 ?_
  refine n_getR (pc := 22) (r := 65) C fk_RX2_11 x_s64 (by omega) x_kPast_1 ((Rfh_hd (ho_nin2 (by decide) (ho_nin (A := []) (by decide) hh))).2.2.trans x_r64_1) dX2_init_22 ?_
  refine n_iload_n (pc := 25) C 0 rfl rfl dX2_init_25 ?_
  refine n_newH [0, 1, 2, 3, 4, 5, 6, 7, 8, 9, 10, 11, 14] (pc := 26) (n := 209) C nl_RX2_9 x_s209 (rf_z (row := xRfL.getD 209 []) (by decide +kernel)) (fun j => hM 209 (by omega) j) ⟨by omega, by omega⟩ (Nat.le_of_ble_eq_true rfl) (Nat.le_of_ble_eq_true rfl) dX2_init_26 ?_
  refine n_dup (pc := 29) C rfl dX2_init_29 ?_
  refine n_aload_n (pc := 30) C 2 rfl rfl dX2_init_30 ?_
  refine n_callI (pc := 31) (rest := [vR b 209, vI 11, vR b 65]) C (NExt_ok _ _) [vR b 23] (k_xState l x_m209 (ho_lt (ho_le hh (by omega)) (by omega)) (fun k hk j => hM k (by omega) j)) ki_RX2_15 rfl rfl ⟨by omega, by omega⟩ ⟨(Nat.le_of_ble_eq_true rfl), (Nat.le_of_ble_eq_true rfl)⟩ (Nat.le_of_ble_eq_true rfl) (Nat.le_of_ble_eq_true rfl) (Nat.le_of_ble_eq_true rfl) rfl dX2_init_31 ?_
  refine n_aast (pc := 34) (t := 4) (hol := HO 65 [12, 13, 14, 15, 16, 17, 18, 19] (HO 64 [] h0)) C (fun _ => rfl) x_s65 (by omega) (by decide) x_s209 (by omega) rfl ⟨by decide, by decide⟩ rfl (ho_nin (by decide) (ho_le hh (by omega))) (x_qr65 (i := 11) (by decide)) dX2_init_34 ?_
  refine n_iinc (pc := 35) (lv' := [(2, vI 12), (0, vR b 64), (1, vR b 23)]) C 0 rfl dX2_init_35 (by decide) rfl ?_
  refine n_goto (pc := 38) (tgt := 15) C dX2_init_38 (by decide) ?_
  refine n_iload_n (pc := 15) C 0 rfl rfl dX2_init_15 ?_
  refine n_bipush (pc := 16) (j := 20) C (by decide +kernel) dX2_init_16 ?_
  refine n_icmp_ge (pc := 18) (tgt := 41) (α := Unit) (f := none) (g := some ()) (r := ()) C (if_neg (by decide +kernel)) dX2_init_18 (by decide) (fun _ z => nomatch z) (fun _ _ => ?_)
  refine n_aload_n (pc := 21) C 1 rfl rfl dX2_init_21 ?_
  refine n_getR (pc := 22) (r := 65) C fk_RX2_11 x_s64 (by omega) x_kPast_1 ((Rfh_hd (ho_nin2 (by decide) (ho_nin (A := []) (by decide) hh))).2.2.trans x_r64_1) dX2_init_22 ?_
  refine n_iload_n (pc := 25) C 0 rfl rfl dX2_init_25 ?_
  refine n_newH [0, 1, 2, 3, 4, 5, 6, 7, 8, 9, 10, 11, 14] (pc := 26) (n := 222) C nl_RX2_9 x_s222 (rf_z (row := xRfL.getD 222 []) (by decide +kernel)) (fun j => hM 222 (by omega) j) ⟨by omega, by omega⟩ (Nat.le_of_ble_eq_true rfl) (Nat.le_of_ble_eq_true rfl) dX2_init_26 ?_
  refine n_dup (pc := 29) C rfl dX2_init_29 ?_
  refine n_aload_n (pc := 30) C 2 rfl rfl dX2_init_30 ?_
  refine n_callI (pc := 31) (rest := [vR b 222, vI 12, vR b 65]) C (NExt_ok _ _) [vR b 23] (k_xState l x_m222 (ho_lt (ho_le hh (by omega)) (by omega)) (fun k hk j => hM k (by omega) j)) ki_RX2_15 rfl rfl ⟨by omega, by omega⟩ ⟨(Nat.le_of_ble_eq_true rfl), (Nat.le_of_ble_eq_true rfl)⟩ (Nat.le_of_ble_eq_true rfl) (Nat.le_of_ble_eq_true rfl) (Nat.le_of_ble_eq_true rfl) rfl dX2_init_31 ?_
  refine n_aast (pc := 34) (t := 4) (hol := HO 65 [13, 14, 15, 16, 17, 18, 19] (HO 64 [] h0)) C (fun _ => rfl) x_s65 (by omega) (by decide) x_s222 (by omega) rfl ⟨by decide, by decide⟩ rfl (ho_nin (by decide) (ho_le hh (by omega))) (x_qr65 (i := 12) (by decide)) dX2_init_34 ?_
  refine n_iinc (pc := 35) (lv' := [(2, vI 13), (0, vR b 64), (1, vR b 23)]) C 0 rfl dX2_init_35 (by decide) rfl ?_
  refine n_goto (pc := 38) (tgt := 15) C dX2_init_38 (by decide) ?_
  refine n_iload_n (pc := 15) C 0 rfl rfl dX2_init_15 ?_
  refine n_bipush (pc := 16) (j := 20) C (by decide +kernel) dX2_init_16 ?_
  refine n_icmp_ge (pc := 18) (tgt := 41) (α := Unit) (f := none) (g := some ()) (r := ()) C (if_neg (by decide +kernel)) dX2_init_18 (by decide) (fun _ z => nomatch z) (fun _ _ => ?_)
  refine n_aload_n (pc := 21) C 1 rfl rfl dX2_init_21 ?_
  refine n_getR (pc := 22) (r := 65) C fk_RX2_11 x_s64 (by omega) x_kPast_1 ((Rfh_hd (ho_nin2 (by decide) (ho_nin (A := []) (by decide) hh))).2.2.trans x_r64_1) dX2_init_22 ?_
  refine n_iload_n (pc := 25) C 0 rfl rfl dX2_init_25 ?_
  refine n_newH [0, 1, 2, 3, 4, 5, 6, 7, 8, 9, 10, 11, 14] (pc := 26) (n := 235) C nl_RX2_9 x_s235 (rf_z (row := xRfL.getD 235 []) (by decide +kernel)) (fun j => hM 235 (by omega) j) ⟨by omega, by omega⟩ (Nat.le_of_ble_eq_true rfl) (Nat.le_of_ble_eq_true rfl) dX2_init_26 ?_
  refine n_dup (pc := 29) C rfl dX2_init_29 ?_
  refine n_aload_n (pc := 30) C 2 rfl rfl dX2_init_30 ?_
  refine n_callI (pc := 31) (rest := [vR b 235, vI 13, vR b 65]) C (NExt_ok _ _) [vR b 23] (k_xState l x_m235 (ho_lt (ho_le hh (by omega)) (by omega)) (fun k hk j => hM k (by omega) j)) ki_RX2_15 rfl rfl ⟨by omega, by omega⟩ ⟨(Nat.le_of_ble_eq_true rfl), (Nat.le_of_ble_eq_true rfl)⟩ (Nat.le_of_ble_eq_true rfl) (Nat.le_of_ble_eq_true rfl) (Nat.le_of_ble_eq_true rfl) rfl dX2_init_31 ?_
  refine n_aast (pc := 34) (t := 4) (hol := HO 65 [14, 15, 16, 17, 18, 19] (HO 64 [] h0)) C (fun _ => rfl) x_s65 (by omega) (by decide) x_s235 (by omega) rfl ⟨by decide, by decide⟩ rfl (ho_nin (by decide) (ho_le hh (by omega))) (x_qr65 (i := 13) (by decide)) dX2_init_34 ?_
  refine n_iinc (pc := 35) (lv' := [(2, vI 14), (0, vR b 64), (1, vR b 23)]) C 0 rfl dX2_init_35 (by decide) rfl ?_
  refine n_goto (pc := 38) (tgt := 15) C dX2_init_38 (by decide) ?_
  refine n_iload_n (pc := 15) C 0 rfl rfl dX2_init_15 ?_
  refine n_bipush (pc := 16) (j := 20) C (by decide +kernel) dX2_init_16 ?_
  refine n_icmp_ge (pc := 18) (tgt := 41) (α := Unit) (f := none) (g := some ()) (r := ()) C (if_neg (by decide +kernel)) dX2_init_18 (by decide) (fun _ z => nomatch z) (fun _ _ => ?_)
  refine n_aload_n (pc := 21) C 1 rfl rfl dX2_init_21 ?_
  refine n_getR (pc := 22) (r := 65) C fk_RX2_11 x_s64 (by omega) x_kPast_1 ((Rfh_hd (ho_nin2 (by decide) (ho_nin (A := []) (by decide) hh))).2.2.trans x_r64_1) dX2_init_22 ?_
  refine n_iload_n (pc := 25) C 0 rfl rfl dX2_init_25 ?_
  refine n_newH [0, 1, 2, 3, 4, 5, 6, 7, 8, 9, 10, 11, 14] (pc := 26) (n := 248) C nl_RX2_9 x_s248 (rf_z (row := xRfL.getD 248 []) (by decide +kernel)) (fun j => hM 248 (by omega) j) ⟨by omega, by omega⟩ (Nat.le_of_ble_eq_true rfl) (Nat.le_of_ble_eq_true rfl) dX2_init_26 ?_
  refine n_dup (pc := 29) C rfl dX2_init_29 ?_
  refine n_aload_n (pc := 30) C 2 rfl rfl dX2_init_30 ?_
  refine n_callI (pc := 31) (rest := [vR b 248, vI 14, vR b 65]) C (NExt_ok _ _) [vR b 23] (k_xState l x_m248 (ho_lt (ho_le hh (by omega)) (by omega)) (fun k hk j => hM k (by omega) j)) ki_RX2_15 rfl rfl ⟨by omega, by omega⟩ ⟨(Nat.le_of_ble_eq_true rfl), (Nat.le_of_ble_eq_true rfl)⟩ (Nat.le_of_ble_eq_true rfl) (Nat.le_of_ble_eq_true rfl) (Nat.le_of_ble_eq_true rfl) rfl dX2_init_31 ?_
  refine n_aast (pc := 34) (t := 4) (hol := HO 65 [15, 16, 17, 18, 19] (HO 64 [] h0)) C (fun _ => rfl) x_s65 (by omega) (by decide) x_s248 (by omega) rfl ⟨by decide, by decide⟩ rfl (ho_nin (by decide) (ho_le hh (by omega))) (x_qr65 (i := 14) (by decide)) dX2_init_34 ?_
  refine n_iinc (pc := 35) (lv' := [(2, vI 15), (0, vR b 64), (1, vR b 23)]) C 0 rfl dX2_init_35 (by decide) rfl ?_
  refine n_goto (pc := 38) (tgt := 15) C dX2_init_38 (by decide) ?_
  refine n_iload_n (pc := 15) C 0 rfl rfl dX2_init_15 ?_
  refine n_bipush (pc := 16) (j := 20) C (by decide +kernel) dX2_init_16 ?_
  refine n_icmp_ge (pc := 18) (tgt := 41) (α := Unit) (f := none) (g := some ()) (r := ()) C (if_neg (by decide +kernel)) dX2_init_18 (by decide) (fun _ z => nomatch z) (fun _ _ => ?_)
  refine n_aload_n (pc := 21) C 1 rfl rfl dX2_init_21 ?_
  refine n_getR (pc := 22) (r := 65) C fk_RX2_11 x_s64 (by omega) x_kPast_1 ((Rfh_hd (ho_nin2 (by decide) (ho_nin (A := []) (by decide) hh))).2.2.trans x_r64_1) dX2_init_22 ?_
  refine n_iload_n (pc := 25) C 0 rfl rfl dX2_init_25 ?_
  refine n_newH [0, 1, 2, 3, 4, 5, 6, 7, 8, 9, 10, 11, 14] (pc := 26) (n := 261) C nl_RX2_9 x_s261 (rf_z (row := xRfL.getD 261 []) (by decide +kernel)) (fun j => hM 261 (by omega) j) ⟨by omega, by omega⟩ (Nat.le_of_ble_eq_true rfl) (Nat.le_of_ble_eq_true rfl) dX2_init_26 ?_
  refine n_dup (pc := 29) C rfl dX2_init_29 ?_
  refine n_aload_n (pc := 30) C 2 rfl rfl dX2_init_30 ?_
  refine n_callI (pc := 31) (rest := [vR b 261, vI 15, vR b 65]) C (NExt_ok _ _) [vR b 23] (k_xState l x_m261 (ho_lt (ho_le hh (by omega)) (by omega)) (fun k hk j => hM k (by omega) j)) ki_RX2_15 rfl rfl ⟨by omega, by omega⟩ ⟨(Nat.le_of_ble_eq_true rfl), (Nat.le_of_ble_eq_true rfl)⟩ (Nat.le_of_ble_eq_true rfl) (Nat.le_of_ble_eq_true rfl) (Nat.le_of_ble_eq_true rfl) rfl dX2_init_31 ?_
  refine n_aast (pc := 34) (t := 4) (hol := HO 65 [16, 17, 18, 19] (HO 64 [] h0)) C (fun _ => rfl) x_s65 (by omega) (by decide) x_s261 (by omega) rfl ⟨by decide, by decide⟩ rfl (ho_nin (by decide) (ho_le hh (by omega))) (x_qr65 (i := 15) (by decide)) dX2_init_34 ?_
  refine n_iinc (pc := 35) (lv' := [(2, vI 16), (0, vR b 64), (1, vR b 23)]) C 0 rfl dX2_init_35 (by decide) rfl ?_
  refine n_goto (pc := 38) (tgt := 15) C dX2_init_38 (by decide) ?_
  refine n_iload_n (pc := 15) C 0 rfl rfl dX2_init_15 ?_
  refine n_bipush (pc := 16) (j := 20) C (by decide +kernel) dX2_init_16 ?_
  refine n_icmp_ge (pc := 18) (tgt := 41) (α := Unit) (f := none) (g := some ()) (r := ()) C (if_neg (by decide +kernel)) dX2_init_18 (by decide) (fun _ z => nomatch z) (fun _ _ => ?_)
  refine n_aload_n (pc := 21) C 1 rfl rfl dX2_init_21 ?_
  refine n_getR (pc := 22) (r := 65) C fk_RX2_11 x_s64 (by omega) x_kPast_1 ((Rfh_hd (ho_nin2 (by decide) (ho_nin (A := []) (by decide) hh))).2.2.trans x_r64_1) dX2_init_22 ?_
  refine n_iload_n (pc := 25) C 0 rfl rfl dX2_init_25 ?_
  refine n_newH [0, 1, 2, 3, 4, 5, 6, 7, 8, 9, 10, 11, 14] (pc := 26) (n := 274) C nl_RX2_9 x_s274 (rf_z (row := xRfL.getD 274 []) (by decide +kernel)) (fun j => hM 274 (by omega) j) ⟨by omega, by omega⟩ (Nat.le_of_ble_eq_true rfl) (Nat.le_of_ble_eq_true rfl) dX2_init_26 ?_
  refine n_dup (pc := 29) C rfl dX2_init_29 ?_
  refine n_aload_n (pc := 30) C 2 rfl rfl dX2_init_30 ?_
  refine n_callI (pc := 31) (rest := [vR b 274, vI 16, vR b 65]) C (NExt_ok _ _) [vR b 23] (k_xState l x_m274 (ho_lt (ho_le hh (by omega)) (by omega)) (fun k hk j => hM k (by omega) j)) ki_RX2_15 rfl rfl ⟨by omega, by omega⟩ ⟨(Nat.le_of_ble_eq_true rfl), (Nat.le_of_ble_eq_true rfl)⟩ (Nat.le_of_ble_eq_true rfl) (Nat.le_of_ble_eq_true rfl) (Nat.le_of_ble_eq_true rfl) rfl dX2_init_31 ?_
  refine n_aast (pc := 34) (t := 4) (hol := HO 65 [17, 18, 19] (HO 64 [] h0)) C (fun _ => rfl) x_s65 (by omega) (by decide) x_s274 (by omega) rfl ⟨by decide, by decide⟩ rfl (ho_nin (by decide) (ho_le hh (by omega))) (x_qr65 (i := 16) (by decide)) dX2_init_34 ?_
  refine n_iinc (pc := 35) (lv' := [(2, vI 17), (0, vR b 64), (1, vR b 23)]) C 0 rfl dX2_init_35 (by decide) rfl ?_
  refine n_goto (pc := 38) (tgt := 15) C dX2_init_38 (by decide) ?_
  refine n_iload_n (pc := 15) C 0 rfl rfl dX2_init_15 ?_
  refine n_bipush (pc := 16) (j := 20) C (by decide +kernel) dX2_init_16 ?_
  refine n_icmp_ge (pc := 18) (tgt := 41) (α := Unit) (f := none) (g := some ()) (r := ()) C (if_neg (by decide +kernel)) dX2_init_18 (by decide) (fun _ z => nomatch z) (fun _ _ => ?_)
  refine n_aload_n (pc := 21) C 1 rfl rfl dX2_init_21 ?_
  refine n_getR (pc := 22) (r := 65) C fk_RX2_11 x_s64 (by omega) x_kPast_1 ((Rfh_hd (ho_nin2 (by decide) (ho_nin (A := []) (by decide) hh))).2.2.trans x_r64_1) dX2_init_22 ?_
  refine n_iload_n (pc := 25) C 0 rfl rfl dX2_init_25 ?_
  refine n_newH [0, 1, 2, 3, 4, 5, 6, 7, 8, 9, 10, 11, 14] (pc := 26) (n := 287) C nl_RX2_9 x_s287 (rf_z (row := xRfL.getD 287 []) (by decide +kernel)) (fun j => hM 287 (by omega) j) ⟨by omega, by omega⟩ (Nat.le_of_ble_eq_true rfl) (Nat.le_of_ble_eq_true rfl) dX2_init_26 ?_
  refine n_dup (pc := 29) C rfl dX2_init_29 ?_
  refine n_aload_n (pc := 30) C 2 rfl rfl dX2_init_30 ?_
  refine n_callI (pc := 31) (rest := [vR b 287, vI 17, vR b 65]) C (NExt_ok _ _) [vR b 23] (k_xState l x_m287 (ho_lt (ho_le hh (by omega)) (by omega)) (fun k hk j => hM k (by omega) j)) ki_RX2_15 rfl rfl ⟨by omega, by omega⟩ ⟨(Nat.le_of_ble_eq_true rfl), (Nat.le_of_ble_eq_true rfl)⟩ (Nat.le_of_ble_eq_true rfl) (Nat.le_of_ble_eq_true rfl) (Nat.le_of_ble_eq_true rfl) rfl dX2_init_31 ?_
  refine n_aast (pc := 34) (t := 4) (hol := HO 65 [18, 19] (HO 64 [] h0)) C (fun _ => rfl) x_s65 (by omega) (by decide) x_s287 (by omega) rfl ⟨by decide, by decide⟩ rfl (ho_nin (by decide) (ho_le hh (by omega))) (x_qr65 (i := 17) (by decide)) dX2_init_34 ?_
  refine n_iinc (pc := 35) (lv' := [(2, vI 18), (0, vR b 64), (1, vR b 23)]) C 0 rfl dX2_init_35 (by decide) rfl ?_
  refine n_goto (pc := 38) (tgt := 15) C dX2_init_38 (by decide) ?_
  refine n_iload_n (pc := 15) C 0 rfl rfl dX2_init_15 ?_
  refine n_bipush (pc := 16) (j := 20) C (by decide +kernel) dX2_init_16 ?_
  refine n_icmp_ge (pc := 18) (tgt := 41) (α := Unit) (f := none) (g := some ()) (r := ()) C (if_neg (by decide +kernel)) dX2_init_18 (by decide) (fun _ z => nomatch z) (fun _ _ => ?_)
  refine n_aload_n (pc := 21) C 1 rfl rfl dX2_init_21 ?_
  refine n_getR (pc := 22) (r := 65) C fk_RX2_11 x_s64 (by omega) x_kPast_1 ((Rfh_hd (ho_nin2 (by decide) (ho_nin (A := []) (by decide) hh))).2.2.trans x_r64_1) dX2_init_22 ?_
  refine n_iload_n (pc := 25) C 0 rfl rfl dX2_init_25 ?_
  refine n_newH [0, 1, 2, 3, 4, 5, 6, 7, 8, 9, 10, 11, 14] (pc := 26) (n := 300) C nl_RX2_9 x_s300 (rf_z (row := xRfL.getD 300 []) (by decide +kernel)) (fun j => hM 300 (by omega) j) ⟨by omega, by omega⟩ (Nat.le_of_ble_eq_true rfl) (Nat.le_of_ble_eq_true rfl) dX2_init_26 ?_
  refine n_dup (pc := 29) C rfl dX2_init_29 ?_
  refine n_aload_n (pc := 30) C 2 rfl rfl dX2_init_30 ?_
  refine n_callI (pc := 31) (rest := [vR b 300, vI 18, vR b 65]) C (NExt_ok _ _) [vR b 23] (k_xState l x_m300 (ho_lt (ho_le hh (by omega)) (by omega)) (fun k hk j => hM k (by omega) j)) ki_RX2_15 rfl rfl ⟨by omega, by omega⟩ ⟨(Nat.le_of_ble_eq_true rfl), (Nat.le_of_ble_eq_true rfl)⟩ (Nat.le_of_ble_eq_true rfl) (Nat.le_of_ble_eq_true rfl) (Nat.le_of_ble_eq_true rfl) rfl dX2_init_31 ?_
  refine n_aast (pc := 34) (t := 4) (hol := HO 65 [19] (HO 64 [] h0)) C (fun _ => rfl) x_s65 (by omega) (by decide) x_s300 (by omega) rfl ⟨by decide, by decide⟩ rfl (ho_nin (by decide) (ho_le hh (by omega))) (x_qr65 (i := 18) (by decide)) dX2_init_34 ?_
  refine n_iinc (pc := 35) (lv' := [(2, vI 19), (0, vR b 64), (1, vR b 23)]) C 0 rfl dX2_init_35 (by decide) rfl ?_
  refine n_goto (pc := 38) (tgt := 15) C dX2_init_38 (by decide) ?_
  refine n_iload_n (pc := 15) C 0 rfl rfl dX2_init_15 ?_
  refine n_bipush (pc := 16) (j := 20) C (by decide +kernel) dX2_init_16 ?_
  refine n_icmp_ge (pc := 18) (tgt := 41) (α := Unit) (f := none) (g := some ()) (r := ()) C (if_neg (by decide +kernel)) dX2_init_18 (by decide) (fun _ z => nomatch z) (fun _ _ => ?_)
  refine n_aload_n (pc := 21) C 1 rfl rfl dX2_init_21 ?_
  refine n_getR (pc := 22) (r := 65) C fk_RX2_11 x_s64 (by omega) x_kPast_1 ((Rfh_hd (ho_nin2 (by decide) (ho_nin (A := []) (by decide) hh))).2.2.trans x_r64_1) dX2_init_22 ?_
  refine n_iload_n (pc := 25) C 0 rfl rfl dX2_init_25 ?_
  refine n_newH [0, 1, 2, 3, 4, 5, 6, 7, 8, 9, 10, 11, 14] (pc := 26) (n := 313) C nl_RX2_9 x_s313 (rf_z (row := xRfL.getD 313 []) (by decide +kernel)) (fun j => hM 313 (by omega) j) ⟨by omega, by omega⟩ (Nat.le_of_ble_eq_true rfl) (Nat.le_of_ble_eq_true rfl) dX2_init_26 ?_
  refine n_dup (pc := 29) C rfl dX2_init_29 ?_
  refine n_aload_n (pc := 30) C 2 rfl rfl dX2_init_30 ?_
  refine n_callI (pc := 31) (rest := [vR b 313, vI 19, vR b 65]) C (NExt_ok _ _) [vR b 23] (k_xState l x_m313 (ho_lt (ho_le hh (by omega)) (by omega)) (fun k hk j => hM k (by omega) j)) ki_RX2_15 rfl rfl ⟨by omega, by omega⟩ ⟨(Nat.le_of_ble_eq_true rfl), (Nat.le_of_ble_eq_true rfl)⟩ (Nat.le_of_ble_eq_true rfl) (Nat.le_of_ble_eq_true rfl) (Nat.le_of_ble_eq_true rfl) rfl dX2_init_31 ?_
  refine n_aast (pc := 34) (t := 4) (hol := HO 65 [] (HO 64 [] h0)) C (fun _ => rfl) x_s65 (by omega) (by decide) x_s313 (by omega) rfl ⟨by decide, by decide⟩ rfl (ho_nin (by decide) (ho_le hh (by omega))) (x_qr65 (i := 19) (by decide)) dX2_init_34 ?_
  refine n_iinc (pc := 35) (lv' := [(2, vI 20), (0, vR b 64), (1, vR b 23)]) C 0 rfl dX2_init_35 (by decide) rfl ?_
  refine n_goto (pc := 38) (tgt := 15) C dX2_init_38 (by decide) ?_
  refine n_iload_n (pc := 15) C 0 rfl rfl dX2_init_15 ?_
  refine n_bipush (pc := 16) (j := 20) C (by decide +kernel) dX2_init_16 ?_
  refine n_icmp_ge (pc := 18) (tgt := 41) (α := Unit) (f := some ()) (g := none) (r := ()) C (if_pos (by decide +kernel)) dX2_init_18 (by decide) (fun _ _ => ?_) (fun _ z => nomatch z)
  exact n_vret (pc := 41) C hr dX2_init_41
theorem ki_RX11_44 : CLI RX11 44 yX2_init cX2_init 3 1 := ⟨gw 432 (by decide +kernel) (by decide +kernel), gw 433 (by decide +kernel) (by decide +kernel), rfl, gw 130 (by decide +kernel) (by decide +kernel), gwc 434 (by decide +kernel) (by decide +kernel), ⟨by decide +kernel, by decide +kernel⟩, by decide +kernel⟩
theorem fk_RX11_45 : FL vwCl RX11 45 10 5 := ⟨RX11, TX11, 11, rfl, by decide, x_lays11, gw 542 (by decide +kernel) (by decide +kernel)⟩
theorem kf_RX11_5 : FWF vwCl RX11 10 5 (.object "ThrownVoices$Past") := ⟨RX11, TX11, 11, rfl, by decide +kernel, by decide +kernel, by decide +kernel⟩
theorem nl_RX11_49 : NL vwCl RX11 49 1 xK_Matching 4 := ⟨RX1, TX1, tyX1, rfl, rfl, x_lays1, tyX1_ok, by decide +kernel, gw 450 (by decide +kernel) (by decide +kernel), gw 451 (by decide +kernel) (by decide +kernel), gw 131 (by decide +kernel) (by decide +kernel)⟩
theorem ko_RX1_3 : Cond.methodLink RX1 3 Lib.objectInit ∈ gws := gw 455 (by decide +kernel) (by decide +kernel)
theorem kc_RX1_9 : Cond.classLink RX1 9 ("[" ++ (FieldType.array .int).toString) ∈ gws := gw 456 (by decide +kernel) (by decide +kernel)
theorem fk_RX1_11 : FL vwCl RX1 11 1 2 := ⟨RX1, TX1, 4, rfl, by decide, x_lays1, gw 460 (by decide +kernel) (by decide +kernel)⟩
theorem kf_RX1_2 : FWF vwCl RX1 1 2 (.array (.array .int)) := ⟨RX1, TX1, 4, rfl, by decide +kernel, by decide +kernel, by decide +kernel⟩
theorem fk_RX1_16 : FL vwCl RX1 16 1 3 := ⟨RX1, TX1, 4, rfl, by decide, x_lays1, gw 461 (by decide +kernel) (by decide +kernel)⟩
theorem kf_RX1_3 : FWF vwCl RX1 1 3 (.array (.array .int)) := ⟨RX1, TX1, 4, rfl, by decide +kernel, by decide +kernel, by decide +kernel⟩
theorem fk_RX1_19 : FL vwCl RX1 19 1 0 := ⟨RX1, TX1, 4, rfl, by decide, x_lays1, gw 458 (by decide +kernel) (by decide +kernel)⟩
theorem kf_RX1_0 : FWF vwCl RX1 1 0 (.object "ThrownVoices$Town") := ⟨RX1, TX1, 4, rfl, by decide +kernel, by decide +kernel, by decide +kernel⟩
theorem fk_RX1_23 : FL vwCl RX1 23 1 1 := ⟨RX1, TX1, 4, rfl, by decide, x_lays1, gw 459 (by decide +kernel) (by decide +kernel)⟩
theorem kf_RX1_1 : FWF vwCl RX1 1 1 (.object "ThrownVoices$State") := ⟨RX1, TX1, 4, rfl, by decide +kernel, by decide +kernel, by decide +kernel⟩
theorem dX1_init_0 : decode cX1_init 0 = .ok (.aload_n 0, 1) := by decide +kernel
theorem dX1_init_1 : decode cX1_init 1 = .ok (.invokespecial 3, 3) := by decide +kernel
theorem dX1_init_4 : decode cX1_init 4 = .ok (.aload_n 0, 1) := by decide +kernel
theorem dX1_init_5 : decode cX1_init 5 = .ok (.bipush 13, 2) := by decide +kernel
theorem dX1_init_7 : decode cX1_init 7 = .ok (.sipush 128, 3) := by decide +kernel
theorem dX1_init_10 : decode cX1_init 10 = .ok (.multianewarray 9 2, 4) := by decide +kernel
theorem dX1_init_14 : decode cX1_init 14 = .ok (.putfield 11, 3) := by decide +kernel
theorem dX1_init_17 : decode cX1_init 17 = .ok (.aload_n 0, 1) := by decide +kernel
theorem dX1_init_18 : decode cX1_init 18 = .ok (.bipush 12, 2) := by decide +kernel
theorem dX1_init_20 : decode cX1_init 20 = .ok (.bipush 7, 2) := by decide +kernel
theorem dX1_init_22 : decode cX1_init 22 = .ok (.multianewarray 9 2, 4) := by decide +kernel
theorem dX1_init_26 : decode cX1_init 26 = .ok (.putfield 16, 3) := by decide +kernel
theorem dX1_init_29 : decode cX1_init 29 = .ok (.aload_n 0, 1) := by decide +kernel
theorem dX1_init_30 : decode cX1_init 30 = .ok (.aload_n 1, 1) := by decide +kernel
theorem dX1_init_31 : decode cX1_init 31 = .ok (.putfield 19, 3) := by decide +kernel
theorem dX1_init_34 : decode cX1_init 34 = .ok (.aload_n 0, 1) := by decide +kernel
theorem dX1_init_35 : decode cX1_init 35 = .ok (.aload_n 2, 1) := by decide +kernel
theorem dX1_init_36 : decode cX1_init 36 = .ok (.putfield 23, 3) := by decide +kernel
theorem dX1_init_39 : decode cX1_init 39 = .ok (.return_, 1) := by decide +kernel
set_option maxHeartbeats 8000000 in
set_option maxRecDepth 40000 in
theorem k_xMatching (l : Launch) {h0 : List (Nat × Nat)} (hh : ∀ q ∈ h0, q.1 < 326) {M : Mem} (hM : ∀ k, 327 ≤ k → ∀ j, M k j = 0) : CtN l yX1_init cX1_init 3 1 12 vwCl xSh (NExt xNest) (fun b => [vR b 326, vR b 23, vR b 38]) 327 354 (Rfh xRf (HO 326 [2, 3, 0, 1] h0)) (Rfh xRf h0) M M 27 1773 := by
  refine CtN_of (fun A => NExt_ok xNest A) (by decide) rfl (fun b => Nat.le_of_ble_eq_true rfl) ?_
  intro p e s m args below meth c D E b C hr hin hz0
  refine (show WN p l e (mkN 1 27 1773 12) s m args below meth c 3 D E vwCl xSh b (MQ below (QN D vwCl E xSh b 354 (Rfh xRf h0) M) args s 27 1773 (fun q => b ≤ q)) 327 (Rfh xRf (HO 326 [2, 3, 0, 1] h0)) M 0 0 0 [(0, vR b 326), (1, vR b 23), (2, vR b 38)] [] from ?_)
  refine n_aload_n (pc := 0) C 0 rfl rfl dX1_init_0 ?_
  refine n_objInit (pc := 1) C ko_RX1_3 xo_i xo_c (Nat.le_of_ble_eq_true rfl) (Nat.le_of_ble_eq_true rfl) dX1_init_1 ?_
  refine n_aload_n (pc := 4) C 0 rfl rfl dX1_init_4 ?_
  refine n_bipush (pc := 5) (j := 13) C (by decide +kernel) dX1_init_5 ?_
  refine n_sipush (pc := 7) (j := 128) C (by decide +kernel) dX1_init_7 ?_
  refine n_mna (pc := 10) (n := 327) (N := 13) (K := 128) C kc_RX1_9 (ext_nowN C).2.2 xA_int x_s327 (fun i hi => x_qs327 hi) (fun i hi => x_qr327 hi) (ho_lt hh (by omega)) (fun k hk j => hM k (by omega) j) (by decide) (by decide) rfl rfl ⟨by omega, by omega⟩ (Nat.le_of_ble_eq_true rfl) (Nat.le_of_ble_eq_true rfl) dX1_init_10 ?_
  refine n_putR (pc := 14) (hol := HO 326 [3, 0, 1] h0) C hin fk_RX1_11 x_ft1 kf_RX1_2 x_s326 (by omega) x_kMatching_2 (fun _ => rfl) (fun _ => rfl) (ho_nin (by decide) hh) x_r326_2 dX1_init_14 ?_
  refine n_aload_n (pc := 17) C 0 rfl rfl dX1_init_17 ?_
  refine n_bipush (pc := 18) (j := 12) C (by decide +kernel) dX1_init_18 ?_
  refine n_bipush (pc := 20) (j := 7) C (by decide +kernel) dX1_init_20 ?_
  refine n_mna (pc := 22) (n := 341) (N := 12) (K := 7) C kc_RX1_9 (ext_nowN C).2.2 xA_int x_s341 (fun i hi => x_qs341 hi) (fun i hi => x_qr341 hi) (ho_lt hh (by omega)) (fun k hk j => hM k (by omega) j) (by decide) (by decide) rfl rfl ⟨by omega, by omega⟩ (Nat.le_of_ble_eq_true rfl) (Nat.le_of_ble_eq_true rfl) dX1_init_22 ?_
  refine n_putR (pc := 26) (hol := HO 326 [0, 1] h0) C hin fk_RX1_16 x_ft1 kf_RX1_3 x_s326 (by omega) x_kMatching_3 (fun _ => rfl) (fun _ => rfl) (ho_nin (by decide) hh) x_r326_3 dX1_init_26 ?_
  refine n_aload_n (pc := 29) C 0 rfl rfl dX1_init_29 ?_
  refine n_aload_n (pc := 30) C 1 rfl rfl dX1_init_30 ?_
  refine n_putR (pc := 31) (hol := HO 326 [1] h0) C hin fk_RX1_19 x_ft1 kf_RX1_0 x_s326 (by omega) x_kMatching_0 (fun _ => rfl) (fun _ => rfl) (ho_nin (by decide) hh) x_r326_0 dX1_init_31 ?_
  refine n_aload_n (pc := 34) C 0 rfl rfl dX1_init_34 ?_
  refine n_aload_n (pc := 35) C 2 rfl rfl dX1_init_35 ?_
  refine n_putR (pc := 36) (hol := HO 326 [] h0) C hin fk_RX1_23 x_ft1 kf_RX1_1 x_s326 (by omega) x_kMatching_1 (fun _ => rfl) (fun _ => rfl) (ho_nin (by decide) hh) x_r326_1 dX1_init_36 ?_
  exact n_vret (pc := 39) C hr dX1_init_39
theorem ki_RX11_51 : CLI RX11 51 yX1_init cX1_init 3 2 := ⟨gw 452 (by decide +kernel) (by decide +kernel), gw 453 (by decide +kernel) (by decide +kernel), rfl, gw 131 (by decide +kernel) (by decide +kernel), gwc 454 (by decide +kernel) (by decide +kernel), ⟨by decide +kernel, by decide +kernel⟩, by decide +kernel⟩
theorem fk_RX11_54 : FL vwCl RX11 54 10 6 := ⟨RX11, TX11, 11, rfl, by decide, x_lays11, gw 543 (by decide +kernel) (by decide +kernel)⟩
theorem kf_RX11_6 : FWF vwCl RX11 10 6 (.object "ThrownVoices$Matching") := ⟨RX11, TX11, 11, rfl, by decide +kernel, by decide +kernel, by decide +kernel⟩
theorem nl_RX11_58 : NL vwCl RX11 58 0 xK_Heard 9 := ⟨RX0, TX0, tyX0, rfl, rfl, x_lays0, tyX0_ok, by decide +kernel, gw 471 (by decide +kernel) (by decide +kernel), gw 472 (by decide +kernel) (by decide +kernel), gw 132 (by decide +kernel) (by decide +kernel)⟩
theorem ko_RX0_3 : Cond.methodLink RX0 3 Lib.objectInit ∈ gws := gw 476 (by decide +kernel) (by decide +kernel)
theorem fk_RX0_11 : FL vwCl RX0 11 0 4 := ⟨RX0, TX0, 9, rfl, by decide, x_lays0, gw 483 (by decide +kernel) (by decide +kernel)⟩
theorem kf_RX0_4 : FWF vwCl RX0 0 4 (.array .int) := ⟨RX0, TX0, 9, rfl, by decide +kernel, by decide +kernel, by decide +kernel⟩
theorem fk_RX0_15 : FL vwCl RX0 15 0 5 := ⟨RX0, TX0, 9, rfl, by decide, x_lays0, gw 484 (by decide +kernel) (by decide +kernel)⟩
theorem kf_RX0_5 : FWF vwCl RX0 0 5 (.array .int) := ⟨RX0, TX0, 9, rfl, by decide +kernel, by decide +kernel, by decide +kernel⟩
theorem fk_RX0_18 : FL vwCl RX0 18 0 6 := ⟨RX0, TX0, 9, rfl, by decide, x_lays0, gw 485 (by decide +kernel) (by decide +kernel)⟩
theorem kf_RX0_6 : FWF vwCl RX0 0 6 (.array .int) := ⟨RX0, TX0, 9, rfl, by decide +kernel, by decide +kernel, by decide +kernel⟩
theorem kc_RX0_21 : Cond.classLink RX0 21 ("[" ++ (FieldType.array .int).toString) ∈ gws := gw 477 (by decide +kernel) (by decide +kernel)
theorem fk_RX0_23 : FL vwCl RX0 23 0 7 := ⟨RX0, TX0, 9, rfl, by decide, x_lays0, gw 486 (by decide +kernel) (by decide +kernel)⟩
theorem kf_RX0_7 : FWF vwCl RX0 0 7 (.array (.array .int)) := ⟨RX0, TX0, 9, rfl, by decide +kernel, by decide +kernel, by decide +kernel⟩
theorem fk_RX0_26 : FL vwCl RX0 26 0 8 := ⟨RX0, TX0, 9, rfl, by decide, x_lays0, gw 487 (by decide +kernel) (by decide +kernel)⟩
theorem kf_RX0_8 : FWF vwCl RX0 0 8 (.array .int) := ⟨RX0, TX0, 9, rfl, by decide +kernel, by decide +kernel, by decide +kernel⟩
theorem fk_RX0_29 : FL vwCl RX0 29 0 1 := ⟨RX0, TX0, 9, rfl, by decide, x_lays0, gw 480 (by decide +kernel) (by decide +kernel)⟩
theorem kf_RX0_1 : FWF vwCl RX0 0 1 (.object "ThrownVoices$Town") := ⟨RX0, TX0, 9, rfl, by decide +kernel, by decide +kernel, by decide +kernel⟩
theorem fk_RX0_33 : FL vwCl RX0 33 0 2 := ⟨RX0, TX0, 9, rfl, by decide, x_lays0, gw 481 (by decide +kernel) (by decide +kernel)⟩
theorem kf_RX0_2 : FWF vwCl RX0 0 2 (.object "ThrownVoices$State") := ⟨RX0, TX0, 9, rfl, by decide +kernel, by decide +kernel, by decide +kernel⟩
theorem fk_RX0_37 : FL vwCl RX0 37 0 3 := ⟨RX0, TX0, 9, rfl, by decide, x_lays0, gw 482 (by decide +kernel) (by decide +kernel)⟩
theorem kf_RX0_3 : FWF vwCl RX0 0 3 (.object "ThrownVoices$State") := ⟨RX0, TX0, 9, rfl, by decide +kernel, by decide +kernel, by decide +kernel⟩
theorem dX0_init_0 : decode cX0_init 0 = .ok (.aload_n 0, 1) := by decide +kernel
theorem dX0_init_1 : decode cX0_init 1 = .ok (.invokespecial 3, 3) := by decide +kernel
theorem dX0_init_4 : decode cX0_init 4 = .ok (.aload_n 0, 1) := by decide +kernel
theorem dX0_init_5 : decode cX0_init 5 = .ok (.bipush 16, 2) := by decide +kernel
theorem dX0_init_7 : decode cX0_init 7 = .ok (.newarray .int, 2) := by decide +kernel
theorem dX0_init_9 : decode cX0_init 9 = .ok (.putfield 11, 3) := by decide +kernel
theorem dX0_init_12 : decode cX0_init 12 = .ok (.aload_n 0, 1) := by decide +kernel
theorem dX0_init_13 : decode cX0_init 13 = .ok (.bipush 16, 2) := by decide +kernel
theorem dX0_init_15 : decode cX0_init 15 = .ok (.newarray .int, 2) := by decide +kernel
theorem dX0_init_17 : decode cX0_init 17 = .ok (.putfield 15, 3) := by decide +kernel
theorem dX0_init_20 : decode cX0_init 20 = .ok (.aload_n 0, 1) := by decide +kernel
theorem dX0_init_21 : decode cX0_init 21 = .ok (.bipush 16, 2) := by decide +kernel
theorem dX0_init_23 : decode cX0_init 23 = .ok (.newarray .int, 2) := by decide +kernel
theorem dX0_init_25 : decode cX0_init 25 = .ok (.putfield 18, 3) := by decide +kernel
theorem dX0_init_28 : decode cX0_init 28 = .ok (.aload_n 0, 1) := by decide +kernel
theorem dX0_init_29 : decode cX0_init 29 = .ok (.bipush 10, 2) := by decide +kernel
theorem dX0_init_31 : decode cX0_init 31 = .ok (.sipush 372, 3) := by decide +kernel
theorem dX0_init_34 : decode cX0_init 34 = .ok (.multianewarray 21 2, 4) := by decide +kernel
theorem dX0_init_38 : decode cX0_init 38 = .ok (.putfield 23, 3) := by decide +kernel
theorem dX0_init_41 : decode cX0_init 41 = .ok (.aload_n 0, 1) := by decide +kernel
theorem dX0_init_42 : decode cX0_init 42 = .ok (.bipush 8, 2) := by decide +kernel
theorem dX0_init_44 : decode cX0_init 44 = .ok (.newarray .int, 2) := by decide +kernel
theorem dX0_init_46 : decode cX0_init 46 = .ok (.putfield 26, 3) := by decide +kernel
theorem dX0_init_49 : decode cX0_init 49 = .ok (.aload_n 0, 1) := by decide +kernel
theorem dX0_init_50 : decode cX0_init 50 = .ok (.aload_n 1, 1) := by decide +kernel
theorem dX0_init_51 : decode cX0_init 51 = .ok (.putfield 29, 3) := by decide +kernel
theorem dX0_init_54 : decode cX0_init 54 = .ok (.aload_n 0, 1) := by decide +kernel
theorem dX0_init_55 : decode cX0_init 55 = .ok (.aload_n 2, 1) := by decide +kernel
theorem dX0_init_56 : decode cX0_init 56 = .ok (.putfield 33, 3) := by decide +kernel
theorem dX0_init_59 : decode cX0_init 59 = .ok (.aload_n 0, 1) := by decide +kernel
theorem dX0_init_60 : decode cX0_init 60 = .ok (.aload_n 3, 1) := by decide +kernel
theorem dX0_init_61 : decode cX0_init 61 = .ok (.putfield 37, 3) := by decide +kernel
theorem dX0_init_64 : decode cX0_init 64 = .ok (.return_, 1) := by decide +kernel
set_option maxHeartbeats 8000000 in
set_option maxRecDepth 40000 in
theorem k_xHeard (l : Launch) {h0 : List (Nat × Nat)} (hh : ∀ q ∈ h0, q.1 < 354) {M : Mem} (hM : ∀ k, 355 ≤ k → ∀ j, M k j = 0) : CtN l yX0_init cX0_init 4 1 12 vwCl xSh (NExt xNest) (fun b => [vR b 354, vR b 23, vR b 38, vR b 51]) 355 370 (Rfh xRf (HO 354 [4, 5, 6, 7, 8, 1, 2, 3] h0)) (Rfh xRf h0) M M 15 3786 := by
  refine CtN_of (fun A => NExt_ok xNest A) (by decide) rfl (fun b => Nat.le_of_ble_eq_true rfl) ?_
  intro p e s m args below meth c D E b C hr hin hz0
  refine (show WN p l e (mkN 1 15 3786 12) s m args below meth c 4 D E vwCl xSh b (MQ below (QN D vwCl E xSh b 370 (Rfh xRf h0) M) args s 15 3786 (fun q => b ≤ q)) 355 (Rfh xRf (HO 354 [4, 5, 6, 7, 8, 1, 2, 3] h0)) M 0 0 0 [(0, vR b 354), (1, vR b 23), (2, vR b 38), (3, vR b 51)] [] from ?_)
  refine n_aload_n (pc := 0) C 0 rfl rfl dX0_init_0 ?_
  refine n_objInit (pc := 1) C ko_RX0_3 xo_i xo_c (Nat.le_of_ble_eq_true rfl) (Nat.le_of_ble_eq_true rfl) dX0_init_1 ?_
  refine n_aload_n (pc := 4) C 0 rfl rfl dX0_init_4 ?_
  refine n_bipush (pc := 5) (j := 16) C (by decide +kernel) dX0_init_5 ?_
  refine n_newa (pc := 7) (n := 355) (t := 0) (L := 16) (atype := .int) C rfl (Or.inl ⟨rfl, rfl⟩) xA_int x_s355 (fun j => hM 355 (by omega) j) (by decide) rfl ⟨by omega, by omega⟩ (Nat.le_of_ble_eq_true rfl) (Nat.le_of_ble_eq_true rfl) dX0_init_7 ?_
  refine n_putR (pc := 9) (hol := HO 354 [5, 6, 7, 8, 1, 2, 3] h0) C hin fk_RX0_11 x_ft0 kf_RX0_4 x_s354 (by omega) x_kHeard_4 (fun _ => rfl) (fun _ => rfl) (ho_nin (by decide) hh) x_r354_4 dX0_init_9 ?_
  refine n_aload_n (pc := 12) C 0 rfl rfl dX0_init_12 ?_
  refine n_bipush (pc := 13) (j := 16) C (by decide +kernel) dX0_init_13 ?_
  refine n_newa (pc := 15) (n := 356) (t := 0) (L := 16) (atype := .int) C rfl (Or.inl ⟨rfl, rfl⟩) xA_int x_s356 (fun j => hM 356 (by omega) j) (by decide) rfl ⟨by omega, by omega⟩ (Nat.le_of_ble_eq_true rfl) (Nat.le_of_ble_eq_true rfl) dX0_init_15 ?_
  refine n_putR (pc := 17) (hol := HO 354 [6, 7, 8, 1, 2, 3] h0) C hin fk_RX0_15 x_ft0 kf_RX0_5 x_s354 (by omega) x_kHeard_5 (fun _ => rfl) (fun _ => rfl) (ho_nin (by decide) hh) x_r354_5 dX0_init_17 ?_
  refine n_aload_n (pc := 20) C 0 rfl rfl dX0_init_20 ?_
  refine n_bipush (pc := 21) (j := 16) C (by decide +kernel) dX0_init_21 ?_
  refine n_newa (pc := 23) (n := 357) (t := 0) (L := 16) (atype := .int) C rfl (Or.inl ⟨rfl, rfl⟩) xA_int x_s357 (fun j => hM 357 (by omega) j) (by decide) rfl ⟨by omega, by omega⟩ (Nat.le_of_ble_eq_true rfl) (Nat.le_of_ble_eq_true rfl) dX0_init_23 ?_
  refine n_putR (pc := 25) (hol := HO 354 [7, 8, 1, 2, 3] h0) C hin fk_RX0_18 x_ft0 kf_RX0_6 x_s354 (by omega) x_kHeard_6 (fun _ => rfl) (fun _ => rfl) (ho_nin (by decide) hh) x_r354_6 dX0_init_25 ?_
  refine n_aload_n (pc := 28) C 0 rfl rfl dX0_init_28 ?_
  refine n_bipush (pc := 29) (j := 10) C (by decide +kernel) dX0_init_29 ?_
  refine n_sipush (pc := 31) (j := 372) C (by decide +kernel) dX0_init_31 ?_
  refine n_mna (pc := 34) (n := 358) (N := 10) (K := 372) C kc_RX0_21 (ext_nowN C).2.2 xA_int x_s358 (fun i hi => x_qs358 hi) (fun i hi => x_qr358 hi) (ho_lt hh (by omega)) (fun k hk j => hM k (by omega) j) (by decide) (by decide) rfl rfl ⟨by omega, by omega⟩ (Nat.le_of_ble_eq_true rfl) (Nat.le_of_ble_eq_true rfl) dX0_init_34 ?_
  refine n_putR (pc := 38) (hol := HO 354 [8, 1, 2, 3] h0) C hin fk_RX0_23 x_ft0 kf_RX0_7 x_s354 (by omega) x_kHeard_7 (fun _ => rfl) (fun _ => rfl) (ho_nin (by decide) hh) x_r354_7 dX0_init_38 ?_
  refine n_aload_n (pc := 41) C 0 rfl rfl dX0_init_41 ?_
  refine n_bipush (pc := 42) (j := 8) C (by decide +kernel) dX0_init_42 ?_
  refine n_newa (pc := 44) (n := 369) (t := 0) (L := 8) (atype := .int) C rfl (Or.inl ⟨rfl, rfl⟩) xA_int x_s369 (fun j => hM 369 (by omega) j) (by decide) rfl ⟨by omega, by omega⟩ (Nat.le_of_ble_eq_true rfl) (Nat.le_of_ble_eq_true rfl) dX0_init_44 ?_
  refine n_putR (pc := 46) (hol := HO 354 [1, 2, 3] h0) C hin fk_RX0_26 x_ft0 kf_RX0_8 x_s354 (by omega) x_kHeard_8 (fun _ => rfl) (fun _ => rfl) (ho_nin (by decide) hh) x_r354_8 dX0_init_46 ?_
  refine n_aload_n (pc := 49) C 0 rfl rfl dX0_init_49 ?_
  refine n_aload_n (pc := 50) C 1 rfl rfl dX0_init_50 ?_
  refine n_putR (pc := 51) (hol := HO 354 [2, 3] h0) C hin fk_RX0_29 x_ft0 kf_RX0_1 x_s354 (by omega) x_kHeard_1 (fun _ => rfl) (fun _ => rfl) (ho_nin (by decide) hh) x_r354_1 dX0_init_51 ?_
  refine n_aload_n (pc := 54) C 0 rfl rfl dX0_init_54 ?_
  refine n_aload_n (pc := 55) C 2 rfl rfl dX0_init_55 ?_
  refine n_putR (pc := 56) (hol := HO 354 [3] h0) C hin fk_RX0_33 x_ft0 kf_RX0_2 x_s354 (by omega) x_kHeard_2 (fun _ => rfl) (fun _ => rfl) (ho_nin (by decide) hh) x_r354_2 dX0_init_56 ?_
  refine n_aload_n (pc := 59) C 0 rfl rfl dX0_init_59 ?_
  refine n_aload_n (pc := 60) C 3 rfl rfl dX0_init_60 ?_
  refine n_putR (pc := 61) (hol := HO 354 [] h0) C hin fk_RX0_37 x_ft0 kf_RX0_3 x_s354 (by omega) x_kHeard_3 (fun _ => rfl) (fun _ => rfl) (ho_nin (by decide) hh) x_r354_3 dX0_init_61 ?_
  exact n_vret (pc := 64) C hr dX0_init_64
theorem ki_RX11_60 : CLI RX11 60 yX0_init cX0_init 4 3 := ⟨gw 473 (by decide +kernel) (by decide +kernel), gw 474 (by decide +kernel) (by decide +kernel), rfl, gw 132 (by decide +kernel) (by decide +kernel), gwc 475 (by decide +kernel) (by decide +kernel), ⟨by decide +kernel, by decide +kernel⟩, by decide +kernel⟩
theorem fk_RX11_63 : FL vwCl RX11 63 10 7 := ⟨RX11, TX11, 11, rfl, by decide, x_lays11, gw 544 (by decide +kernel) (by decide +kernel)⟩
theorem kf_RX11_7 : FWF vwCl RX11 10 7 (.object "ThrownVoices$Heard") := ⟨RX11, TX11, 11, rfl, by decide +kernel, by decide +kernel, by decide +kernel⟩
theorem nl_RX11_67 : NL vwCl RX11 67 3 xK_Picture 7 := ⟨RX3, TX3, tyX3, rfl, rfl, x_lays3, tyX3_ok, by decide +kernel, gw 507 (by decide +kernel) (by decide +kernel), gw 508 (by decide +kernel) (by decide +kernel), gw 133 (by decide +kernel) (by decide +kernel)⟩
theorem ko_RX3_3 : Cond.methodLink RX3 3 Lib.objectInit ∈ gws := gw 512 (by decide +kernel) (by decide +kernel)
theorem fk_RX3_11 : FL vwCl RX3 11 3 0 := ⟨RX3, TX3, 7, rfl, by decide, x_lays3, gw 513 (by decide +kernel) (by decide +kernel)⟩
theorem kf_RX3_0 : FWF vwCl RX3 3 0 (.array .int) := ⟨RX3, TX3, 7, rfl, by decide +kernel, by decide +kernel, by decide +kernel⟩
theorem fk_RX3_15 : FL vwCl RX3 15 3 2 := ⟨RX3, TX3, 7, rfl, by decide, x_lays3, gw 517 (by decide +kernel) (by decide +kernel)⟩
theorem kf_RX3_2 : FWF vwCl RX3 3 2 (.object "ThrownVoices$Town") := ⟨RX3, TX3, 7, rfl, by decide +kernel, by decide +kernel, by decide +kernel⟩
theorem fk_RX3_19 : FL vwCl RX3 19 3 3 := ⟨RX3, TX3, 7, rfl, by decide, x_lays3, gw 518 (by decide +kernel) (by decide +kernel)⟩
theorem kf_RX3_3 : FWF vwCl RX3 3 3 (.object "ThrownVoices$State") := ⟨RX3, TX3, 7, rfl, by decide +kernel, by decide +kernel, by decide +kernel⟩
theorem fk_RX3_23 : FL vwCl RX3 23 3 4 := ⟨RX3, TX3, 7, rfl, by decide, x_lays3, gw 519 (by decide +kernel) (by decide +kernel)⟩
theorem kf_RX3_4 : FWF vwCl RX3 3 4 (.object "ThrownVoices$State") := ⟨RX3, TX3, 7, rfl, by decide +kernel, by decide +kernel, by decide +kernel⟩
theorem dX3_init_0 : decode cX3_init 0 = .ok (.aload_n 0, 1) := by decide +kernel
theorem dX3_init_1 : decode cX3_init 1 = .ok (.invokespecial 3, 3) := by decide +kernel
theorem dX3_init_4 : decode cX3_init 4 = .ok (.aload_n 0, 1) := by decide +kernel
theorem dX3_init_5 : decode cX3_init 5 = .ok (.bipush 108, 2) := by decide +kernel
theorem dX3_init_7 : decode cX3_init 7 = .ok (.newarray .int, 2) := by decide +kernel
theorem dX3_init_9 : decode cX3_init 9 = .ok (.putfield 11, 3) := by decide +kernel
theorem dX3_init_12 : decode cX3_init 12 = .ok (.aload_n 0, 1) := by decide +kernel
theorem dX3_init_13 : decode cX3_init 13 = .ok (.aload_n 1, 1) := by decide +kernel
theorem dX3_init_14 : decode cX3_init 14 = .ok (.putfield 15, 3) := by decide +kernel
theorem dX3_init_17 : decode cX3_init 17 = .ok (.aload_n 0, 1) := by decide +kernel
theorem dX3_init_18 : decode cX3_init 18 = .ok (.aload_n 2, 1) := by decide +kernel
theorem dX3_init_19 : decode cX3_init 19 = .ok (.putfield 19, 3) := by decide +kernel
theorem dX3_init_22 : decode cX3_init 22 = .ok (.aload_n 0, 1) := by decide +kernel
theorem dX3_init_23 : decode cX3_init 23 = .ok (.aload_n 3, 1) := by decide +kernel
theorem dX3_init_24 : decode cX3_init 24 = .ok (.putfield 23, 3) := by decide +kernel
theorem dX3_init_27 : decode cX3_init 27 = .ok (.return_, 1) := by decide +kernel
set_option maxHeartbeats 8000000 in
set_option maxRecDepth 40000 in
theorem k_xPicture (l : Launch) {h0 : List (Nat × Nat)} (hh : ∀ q ∈ h0, q.1 < 370) {M : Mem} (hM : ∀ k, 371 ≤ k → ∀ j, M k j = 0) : CtN l yX3_init cX3_init 4 1 12 vwCl xSh (NExt xNest) (fun b => [vR b 370, vR b 23, vR b 38, vR b 51]) 371 372 (Rfh xRf (HO 370 [0, 2, 3, 4] h0)) (Rfh xRf h0) M M 1 108 := by
  refine CtN_of (fun A => NExt_ok xNest A) (by decide) rfl (fun b => Nat.le_of_ble_eq_true rfl) ?_
  intro p e s m args below meth c D E b C hr hin hz0
  refine (show WN p l e (mkN 1 1 108 12) s m args below meth c 4 D E vwCl xSh b (MQ below (QN D vwCl E xSh b 372 (Rfh xRf h0) M) args s 1 108 (fun q => b ≤ q)) 371 (Rfh xRf (HO 370 [0, 2, 3, 4] h0)) M 0 0 0 [(0, vR b 370), (1, vR b 23), (2, vR b 38), (3, vR b 51)] [] from ?_)
  refine n_aload_n (pc := 0) C 0 rfl rfl dX3_init_0 ?_
  refine n_objInit (pc := 1) C ko_RX3_3 xo_i xo_c (Nat.le_of_ble_eq_true rfl) (Nat.le_of_ble_eq_true rfl) dX3_init_1 ?_
  refine n_aload_n (pc := 4) C 0 rfl rfl dX3_init_4 ?_
  refine n_bipush (pc := 5) (j := 108) C (by decide +kernel) dX3_init_5 ?_
  refine n_newa (pc := 7) (n := 371) (t := 0) (L := 108) (atype := .int) C rfl (Or.inl ⟨rfl, rfl⟩) xA_int x_s371 (fun j => hM 371 (by omega) j) (by decide) rfl ⟨by omega, by omega⟩ (Nat.le_of_ble_eq_true rfl) (Nat.le_of_ble_eq_true rfl) dX3_init_7 ?_
  refine n_putR (pc := 9) (hol := HO 370 [2, 3, 4] h0) C hin fk_RX3_11 x_ft3 kf_RX3_0 x_s370 (by omega) x_kPicture_0 (fun _ => rfl) (fun _ => rfl) (ho_nin (by decide) hh) x_r370_0 dX3_init_9 ?_
  refine n_aload_n (pc := 12) C 0 rfl rfl dX3_init_12 ?_
  refine n_aload_n (pc := 13) C 1 rfl rfl dX3_init_13 ?_
  refine n_putR (pc := 14) (hol := HO 370 [3, 4] h0) C hin fk_RX3_15 x_ft3 kf_RX3_2 x_s370 (by omega) x_kPicture_2 (fun _ => rfl) (fun _ => rfl) (ho_nin (by decide) hh) x_r370_2 dX3_init_14 ?_
  refine n_aload_n (pc := 17) C 0 rfl rfl dX3_init_17 ?_
  refine n_aload_n (pc := 18) C 2 rfl rfl dX3_init_18 ?_
  refine n_putR (pc := 19) (hol := HO 370 [4] h0) C hin fk_RX3_19 x_ft3 kf_RX3_3 x_s370 (by omega) x_kPicture_3 (fun _ => rfl) (fun _ => rfl) (ho_nin (by decide) hh) x_r370_3 dX3_init_19 ?_
  refine n_aload_n (pc := 22) C 0 rfl rfl dX3_init_22 ?_
  refine n_aload_n (pc := 23) C 3 rfl rfl dX3_init_23 ?_
  refine n_putR (pc := 24) (hol := HO 370 [] h0) C hin fk_RX3_23 x_ft3 kf_RX3_4 x_s370 (by omega) x_kPicture_4 (fun _ => rfl) (fun _ => rfl) (ho_nin (by decide) hh) x_r370_4 dX3_init_24 ?_
  exact n_vret (pc := 27) C hr dX3_init_27
theorem ki_RX11_69 : CLI RX11 69 yX3_init cX3_init 4 3 := ⟨gw 509 (by decide +kernel) (by decide +kernel), gw 510 (by decide +kernel) (by decide +kernel), rfl, gw 133 (by decide +kernel) (by decide +kernel), gwc 511 (by decide +kernel) (by decide +kernel), ⟨by decide +kernel, by decide +kernel⟩, by decide +kernel⟩
theorem fk_RX11_70 : FL vwCl RX11 70 10 8 := ⟨RX11, TX11, 11, rfl, by decide, x_lays11, gw 545 (by decide +kernel) (by decide +kernel)⟩
theorem kf_RX11_8 : FWF vwCl RX11 10 8 (.object "ThrownVoices$Picture") := ⟨RX11, TX11, 11, rfl, by decide +kernel, by decide +kernel, by decide +kernel⟩
theorem fk_RX11_74 : FL vwCl RX11 74 10 9 := ⟨RX11, TX11, 11, rfl, by decide, x_lays11, gw 546 (by decide +kernel) (by decide +kernel)⟩
theorem kf_RX11_9 : FWF vwCl RX11 10 9 (.array .int) := ⟨RX11, TX11, 11, rfl, by decide +kernel, by decide +kernel, by decide +kernel⟩
theorem fk_RX11_78 : FL vwCl RX11 78 10 10 := ⟨RX11, TX11, 11, rfl, by decide, x_lays11, gw 547 (by decide +kernel) (by decide +kernel)⟩
theorem dX11_init_0 : decode cX11_init 0 = .ok (.aload_n 0, 1) := by decide +kernel
theorem dX11_init_1 : decode cX11_init 1 = .ok (.invokespecial 3, 3) := by decide +kernel
theorem dX11_init_4 : decode cX11_init 4 = .ok (.aload_n 0, 1) := by decide +kernel
theorem dX11_init_5 : decode cX11_init 5 = .ok (.new 9, 3) := by decide +kernel
theorem dX11_init_8 : decode cX11_init 8 = .ok (.dup, 1) := by decide +kernel
theorem dX11_init_9 : decode cX11_init 9 = .ok (.invokespecial 11, 3) := by decide +kernel
theorem dX11_init_12 : decode cX11_init 12 = .ok (.putfield 12, 3) := by decide +kernel
theorem dX11_init_15 : decode cX11_init 15 = .ok (.aload_n 0, 1) := by decide +kernel
theorem dX11_init_16 : decode cX11_init 16 = .ok (.new 16, 3) := by decide +kernel
theorem dX11_init_19 : decode cX11_init 19 = .ok (.dup, 1) := by decide +kernel
theorem dX11_init_20 : decode cX11_init 20 = .ok (.invokespecial 18, 3) := by decide +kernel
theorem dX11_init_23 : decode cX11_init 23 = .ok (.putfield 19, 3) := by decide +kernel
theorem dX11_init_26 : decode cX11_init 26 = .ok (.aload_n 0, 1) := by decide +kernel
theorem dX11_init_27 : decode cX11_init 27 = .ok (.new 23, 3) := by decide +kernel
theorem dX11_init_30 : decode cX11_init 30 = .ok (.dup, 1) := by decide +kernel
theorem dX11_init_31 : decode cX11_init 31 = .ok (.invokespecial 25, 3) := by decide +kernel
theorem dX11_init_34 : decode cX11_init 34 = .ok (.putfield 26, 3) := by decide +kernel
theorem dX11_init_37 : decode cX11_init 37 = .ok (.aload_n 0, 1) := by decide +kernel
theorem dX11_init_38 : decode cX11_init 38 = .ok (.new 30, 3) := by decide +kernel
theorem dX11_init_41 : decode cX11_init 41 = .ok (.dup, 1) := by decide +kernel
theorem dX11_init_42 : decode cX11_init 42 = .ok (.aload_n 0, 1) := by decide +kernel
theorem dX11_init_43 : decode cX11_init 43 = .ok (.getfield 26, 3) := by decide +kernel
theorem dX11_init_46 : decode cX11_init 46 = .ok (.invokespecial 32, 3) := by decide +kernel
theorem dX11_init_49 : decode cX11_init 49 = .ok (.putfield 35, 3) := by decide +kernel
theorem dX11_init_52 : decode cX11_init 52 = .ok (.aload_n 0, 1) := by decide +kernel
theorem dX11_init_53 : decode cX11_init 53 = .ok (.new 30, 3) := by decide +kernel
theorem dX11_init_56 : decode cX11_init 56 = .ok (.dup, 1) := by decide +kernel
theorem dX11_init_57 : decode cX11_init 57 = .ok (.aload_n 0, 1) := by decide +kernel
theorem dX11_init_58 : decode cX11_init 58 = .ok (.getfield 26, 3) := by decide +kernel
theorem dX11_init_61 : decode cX11_init 61 = .ok (.invokespecial 32, 3) := by decide +kernel
theorem dX11_init_64 : decode cX11_init 64 = .ok (.putfield 39, 3) := by decide +kernel
theorem dX11_init_67 : decode cX11_init 67 = .ok (.aload_n 0, 1) := by decide +kernel
theorem dX11_init_68 : decode cX11_init 68 = .ok (.new 42, 3) := by decide +kernel
theorem dX11_init_71 : decode cX11_init 71 = .ok (.dup, 1) := by decide +kernel
theorem dX11_init_72 : decode cX11_init 72 = .ok (.aload_n 0, 1) := by decide +kernel
theorem dX11_init_73 : decode cX11_init 73 = .ok (.getfield 26, 3) := by decide +kernel
theorem dX11_init_76 : decode cX11_init 76 = .ok (.invokespecial 44, 3) := by decide +kernel
theorem dX11_init_79 : decode cX11_init 79 = .ok (.putfield 45, 3) := by decide +kernel
theorem dX11_init_82 : decode cX11_init 82 = .ok (.aload_n 0, 1) := by decide +kernel
theorem dX11_init_83 : decode cX11_init 83 = .ok (.new 49, 3) := by decide +kernel
theorem dX11_init_86 : decode cX11_init 86 = .ok (.dup, 1) := by decide +kernel
theorem dX11_init_87 : decode cX11_init 87 = .ok (.aload_n 0, 1) := by decide +kernel
theorem dX11_init_88 : decode cX11_init 88 = .ok (.getfield 26, 3) := by decide +kernel
theorem dX11_init_91 : decode cX11_init 91 = .ok (.aload_n 0, 1) := by decide +kernel
theorem dX11_init_92 : decode cX11_init 92 = .ok (.getfield 35, 3) := by decide +kernel
theorem dX11_init_95 : decode cX11_init 95 = .ok (.invokespecial 51, 3) := by decide +kernel
theorem dX11_init_98 : decode cX11_init 98 = .ok (.putfield 54, 3) := by decide +kernel
theorem dX11_init_101 : decode cX11_init 101 = .ok (.aload_n 0, 1) := by decide +kernel
theorem dX11_init_102 : decode cX11_init 102 = .ok (.new 58, 3) := by decide +kernel
theorem dX11_init_105 : decode cX11_init 105 = .ok (.dup, 1) := by decide +kernel
theorem dX11_init_106 : decode cX11_init 106 = .ok (.aload_n 0, 1) := by decide +kernel
theorem dX11_init_107 : decode cX11_init 107 = .ok (.getfield 26, 3) := by decide +kernel
theorem dX11_init_110 : decode cX11_init 110 = .ok (.aload_n 0, 1) := by decide +kernel
theorem dX11_init_111 : decode cX11_init 111 = .ok (.getfield 35, 3) := by decide +kernel
theorem dX11_init_114 : decode cX11_init 114 = .ok (.aload_n 0, 1) := by decide +kernel
theorem dX11_init_115 : decode cX11_init 115 = .ok (.getfield 39, 3) := by decide +kernel
theorem dX11_init_118 : decode cX11_init 118 = .ok (.invokespecial 60, 3) := by decide +kernel
theorem dX11_init_121 : decode cX11_init 121 = .ok (.putfield 63, 3) := by decide +kernel
theorem dX11_init_124 : decode cX11_init 124 = .ok (.aload_n 0, 1) := by decide +kernel
theorem dX11_init_125 : decode cX11_init 125 = .ok (.new 67, 3) := by decide +kernel
theorem dX11_init_128 : decode cX11_init 128 = .ok (.dup, 1) := by decide +kernel
theorem dX11_init_129 : decode cX11_init 129 = .ok (.aload_n 0, 1) := by decide +kernel
theorem dX11_init_130 : decode cX11_init 130 = .ok (.getfield 26, 3) := by decide +kernel
theorem dX11_init_133 : decode cX11_init 133 = .ok (.aload_n 0, 1) := by decide +kernel
theorem dX11_init_134 : decode cX11_init 134 = .ok (.getfield 35, 3) := by decide +kernel
theorem dX11_init_137 : decode cX11_init 137 = .ok (.aload_n 0, 1) := by decide +kernel
theorem dX11_init_138 : decode cX11_init 138 = .ok (.getfield 39, 3) := by decide +kernel
theorem dX11_init_141 : decode cX11_init 141 = .ok (.invokespecial 69, 3) := by decide +kernel
theorem dX11_init_144 : decode cX11_init 144 = .ok (.putfield 70, 3) := by decide +kernel
theorem dX11_init_147 : decode cX11_init 147 = .ok (.aload_n 0, 1) := by decide +kernel
theorem dX11_init_148 : decode cX11_init 148 = .ok (.bipush 6, 2) := by decide +kernel
theorem dX11_init_150 : decode cX11_init 150 = .ok (.newarray .int, 2) := by decide +kernel
theorem dX11_init_152 : decode cX11_init 152 = .ok (.putfield 74, 3) := by decide +kernel
theorem dX11_init_155 : decode cX11_init 155 = .ok (.aload_n 0, 1) := by decide +kernel
theorem dX11_init_156 : decode cX11_init 156 = .ok (.iconst 1, 1) := by decide +kernel
theorem dX11_init_157 : decode cX11_init 157 = .ok (.putfield 78, 3) := by decide +kernel
theorem dX11_init_160 : decode cX11_init 160 = .ok (.return_, 1) := by decide +kernel
set_option maxHeartbeats 8000000 in
set_option maxRecDepth 40000 in
theorem k_xX (l : Launch) : CtN l yX11_init cX11_init 1 4 72 vwCl xSh (NExt xNest) (fun b => [vR b 0]) 1 373 (Rfh xRf (HO 0 [0, 1, 2, 3, 4, 5, 6, 7, 8, 9] [])) (Rfh xRf []) (fun _ _ => 0) (upM (upM (fun _ _ => 0) 3 2 (-1)) 0 10 1) 372 18876 := by
  have hM : ∀ k, 1 ≤ k → ∀ j, (fun _ _ => 0 : Mem) k j = 0 := fun _ _ _ => rfl
  refine CtN_of (fun A => NExt_ok xNest A) (by decide) rfl (fun b => Nat.le_of_ble_eq_true rfl) ?_
  intro p e s m args below meth c D E b C hr hin hz0
  refine (show WN p l e (mkN 4 372 18876 72) s m args below meth c 1 D E vwCl xSh b (MQ below (QN D vwCl E xSh b 373 (Rfh xRf []) (upM (upM (fun _ _ => 0) 3 2 (-1)) 0 10 1)) args s 372 18876 (fun q => b ≤ q)) 1 (Rfh xRf (HO 0 [0, 1, 2, 3, 4, 5, 6, 7, 8, 9] [])) (fun _ _ => 0) 0 0 0 [(0, vR b 0)] [] from ?_)
  refine n_aload_n (pc := 0) C 0 rfl rfl dX11_init_0 ?_
  refine n_objInit (pc := 1) C ko_RX11_3 xo_i xo_c (Nat.le_of_ble_eq_true rfl) (Nat.le_of_ble_eq_true rfl) dX11_init_1 ?_
  refine n_aload_n (pc := 4) C 0 rfl rfl dX11_init_4 ?_
  refine n_newH [0] (pc := 5) (n := 1) C nl_RX11_9 x_s1 (rf_z (row := xRfL.getD 1 []) (by decide +kernel)) (fun j => hM 1 (by omega) j) ⟨by omega, by omega⟩ (Nat.le_of_ble_eq_true rfl) (Nat.le_of_ble_eq_true rfl) dX11_init_5 ?_
  refine n_dup (pc := 8) C rfl dX11_init_8 ?_
  refine n_callJ (pc := 9) (rest := [vR b 1, vR b 0]) C [] (k_xTape l  (ho_lt (fun _ h => absurd h List.not_mem_nil) (by omega)) (fun k hk j => hM k (by omega) j)) kj_RX11_11 rfl rfl ⟨by omega, by omega⟩ ⟨(Nat.le_of_ble_eq_true rfl), (Nat.le_of_ble_eq_true rfl)⟩ (Nat.le_of_ble_eq_true rfl) (Nat.le_of_ble_eq_true rfl) (Nat.le_of_ble_eq_true rfl) rfl dX11_init_9 ?_
  refine n_putR (pc := 12) (hol := HO 0 [1, 2, 3, 4, 5, 6, 7, 8, 9] []) C hin fk_RX11_12 x_ft11 kf_RX11_0 x_s0 (by omega) x_kX_0 (fun _ => rfl) (fun _ => rfl) (ho_nin (by decide) (fun _ h => absurd h List.not_mem_nil)) x_r0_0 dX11_init_12 ?_
  refine n_aload_n (pc := 15) C 0 rfl rfl dX11_init_15 ?_
  refine n_newH [0, 3] (pc := 16) (n := 3) C nl_RX11_16 x_s3 (rf_z (row := xRfL.getD 3 []) (by decide +kernel)) (fun j => hM 3 (by omega) j) ⟨by omega, by omega⟩ (Nat.le_of_ble_eq_true rfl) (Nat.le_of_ble_eq_true rfl) dX11_init_16 ?_
  refine n_dup (pc := 19) C rfl dX11_init_19 ?_
  refine n_callJ (pc := 20) (rest := [vR b 3, vR b 0]) C [] (k_xReader l  (ho_lt (fun _ h => absurd h List.not_mem_nil) (by omega)) (fun k hk j => hM k (by omega) j)) kj_RX11_18 rfl rfl ⟨by omega, by omega⟩ ⟨(Nat.le_of_ble_eq_true rfl), (Nat.le_of_ble_eq_true rfl)⟩ (Nat.le_of_ble_eq_true rfl) (Nat.le_of_ble_eq_true rfl) (Nat.le_of_ble_eq_true rfl) rfl dX11_init_20 ?_
  refine n_putR (pc := 23) (hol := HO 0 [2, 3, 4, 5, 6, 7, 8, 9] []) C hin fk_RX11_19 x_ft11 kf_RX11_1 x_s0 (by omega) x_kX_1 (fun _ => rfl) (fun _ => rfl) (ho_nin (by decide) (fun _ h => absurd h List.not_mem_nil)) x_r0_1 dX11_init_23 ?_
  refine n_aload_n (pc := 26) C 0 rfl rfl dX11_init_26 ?_
  refine n_newH [4, 5, 6, 7, 8, 9, 10, 11, 12] (pc := 27) (n := 23) C nl_RX11_23 x_s23 (rf_z (row := xRfL.getD 23 []) (by decide +kernel)) (fun j => (up_z (N1 := 23) hM (by omega) (by omega)) 23 (by omega) j) ⟨by omega, by omega⟩ (Nat.le_of_ble_eq_true rfl) (Nat.le_of_ble_eq_true rfl) dX11_init_27 ?_
  refine n_dup (pc := 30) C rfl dX11_init_30 ?_
  refine n_callJ (pc := 31) (rest := [vR b 23, vR b 0]) C [] (k_xTown l x_m23 (ho_lt (fun _ h => absurd h List.not_mem_nil) (by omega)) (fun k hk j => (up_z (N1 := 23) hM (by omega) (by omega)) k (by omega) j)) kj_RX11_25 rfl rfl ⟨by omega, by omega⟩ ⟨(Nat.le_of_ble_eq_true rfl), (Nat.le_of_ble_eq_true rfl)⟩ (Nat.le_of_ble_eq_true rfl) (Nat.le_of_ble_eq_true rfl) (Nat.le_of_ble_eq_true rfl) rfl dX11_init_31 ?_
  refine n_putR (pc := 34) (hol := HO 0 [3, 4, 5, 6, 7, 8, 9] []) C hin fk_RX11_26 x_ft11 kf_RX11_2 x_s0 (by omega) x_kX_2 (fun _ => rfl) (fun _ => rfl) (ho_nin (by decide) (fun _ h => absurd h List.not_mem_nil)) x_r0_2 dX11_init_34 ?_
  refine n_aload_n (pc := 37) C 0 rfl rfl dX11_init_37 ?_
  refine n_newH [0, 1, 2, 3, 4, 5, 6, 7, 8, 9, 10, 11, 14] (pc := 38) (n := 38) C nl_RX11_30 x_s38 (rf_z (row := xRfL.getD 38 []) (by decide +kernel)) (fun j => (up_z (N1 := 23) hM (by omega) (by omega)) 38 (by omega) j) ⟨by omega, by omega⟩ (Nat.le_of_ble_eq_true rfl) (Nat.le_of_ble_eq_true rfl) dX11_init_38 ?_
  refine n_dup (pc := 41) C rfl dX11_init_41 ?_
  refine n_aload_n (pc := 42) C 0 rfl rfl dX11_init_42 ?_
  refine n_getR (pc := 43) (r := 23) C fk_RX11_26 x_s0 (by omega) x_kX_2 (by decide +kernel) dX11_init_43 ?_
  refine n_callI (pc := 46) (rest := [vR b 38, vR b 0]) C (NExt_ok _ _) [vR b 23] (k_xState l x_m38 (ho_lt (fun _ h => absurd h List.not_mem_nil) (by omega)) (fun k hk j => (up_z (N1 := 23) hM (by omega) (by omega)) k (by omega) j)) ki_RX11_32 rfl rfl ⟨by omega, by omega⟩ ⟨(Nat.le_of_ble_eq_true rfl), (Nat.le_of_ble_eq_true rfl)⟩ (Nat.le_of_ble_eq_true rfl) (Nat.le_of_ble_eq_true rfl) (Nat.le_of_ble_eq_true rfl) rfl dX11_init_46 ?_
  refine n_putR (pc := 49) (hol := HO 0 [4, 5, 6, 7, 8, 9] []) C hin fk_RX11_35 x_ft11 kf_RX11_3 x_s0 (by omega) x_kX_3 (fun _ => rfl) (fun _ => rfl) (ho_nin (by decide) (fun _ h => absurd h List.not_mem_nil)) x_r0_3 dX11_init_49 ?_
  refine n_aload_n (pc := 52) C 0 rfl rfl dX11_init_52 ?_
  refine n_newH [0, 1, 2, 3, 4, 5, 6, 7, 8, 9, 10, 11, 14] (pc := 53) (n := 51) C nl_RX11_30 x_s51 (rf_z (row := xRfL.getD 51 []) (by decide +kernel)) (fun j => (up_z (N1 := 23) hM (by omega) (by omega)) 51 (by omega) j) ⟨by omega, by omega⟩ (Nat.le_of_ble_eq_true rfl) (Nat.le_of_ble_eq_true rfl) dX11_init_53 ?_
  refine n_dup (pc := 56) C rfl dX11_init_56 ?_
  refine n_aload_n (pc := 57) C 0 rfl rfl dX11_init_57 ?_
  refine n_getR (pc := 58) (r := 23) C fk_RX11_26 x_s0 (by omega) x_kX_2 (by decide +kernel) dX11_init_58 ?_
  refine n_callI (pc := 61) (rest := [vR b 51, vR b 0]) C (NExt_ok _ _) [vR b 23] (k_xState l x_m51 (ho_lt (fun _ h => absurd h List.not_mem_nil) (by omega)) (fun k hk j => (up_z (N1 := 23) hM (by omega) (by omega)) k (by omega) j)) ki_RX11_32 rfl rfl ⟨by omega, by omega⟩ ⟨(Nat.le_of_ble_eq_true rfl), (Nat.le_of_ble_eq_true rfl)⟩ (Nat.le_of_ble_eq_true rfl) (Nat.le_of_ble_eq_true rfl) (Nat.le_of_ble_eq_true rfl) rfl dX11_init_61 ?_
  refine n_putR (pc := 64) (hol := HO 0 [5, 6, 7, 8, 9] []) C hin fk_RX11_39 x_ft11 kf_RX11_4 x_s0 (by omega) x_kX_4 (fun _ => rfl) (fun _ => rfl) (ho_nin (by decide) (fun _ h => absurd h List.not_mem_nil)) x_r0_4 dX11_init_64 ?_
  refine n_aload_n (pc := 67) C 0 rfl rfl dX11_init_67 ?_
  refine n_newH [1] (pc := 68) (n := 64) C nl_RX11_42 x_s64 (rf_z (row := xRfL.getD 64 []) (by decide +kernel)) (fun j => (up_z (N1 := 23) hM (by omega) (by omega)) 64 (by omega) j) ⟨by omega, by omega⟩ (Nat.le_of_ble_eq_true rfl) (Nat.le_of_ble_eq_true rfl) dX11_init_68 ?_
  refine n_dup (pc := 71) C rfl dX11_init_71 ?_
  refine n_aload_n (pc := 72) C 0 rfl rfl dX11_init_72 ?_
  refine n_getR (pc := 73) (r := 23) C fk_RX11_26 x_s0 (by omega) x_kX_2 (by decide +kernel) dX11_init_73 ?_
  refine n_callI (pc := 76) (rest := [vR b 64, vR b 0]) C (NExt_ok _ _) [vR b 23] (k_xPast l  (ho_lt (fun _ h => absurd h List.not_mem_nil) (by omega)) (fun k hk j => (up_z (N1 := 23) hM (by omega) (by omega)) k (by omega) j)) ki_RX11_44 rfl rfl ⟨by omega, by omega⟩ ⟨(Nat.le_of_ble_eq_true rfl), (Nat.le_of_ble_eq_true rfl)⟩ (Nat.le_of_ble_eq_true rfl) (Nat.le_of_ble_eq_true rfl) (Nat.le_of_ble_eq_true rfl) rfl dX11_init_76 ?_
  refine n_putR (pc := 79) (hol := HO 0 [6, 7, 8, 9] []) C hin fk_RX11_45 x_ft11 kf_RX11_5 x_s0 (by omega) x_kX_5 (fun _ => rfl) (fun _ => rfl) (ho_nin (by decide) (fun _ h => absurd h List.not_mem_nil)) x_r0_5 dX11_init_79 ?_
  refine n_aload_n (pc := 82) C 0 rfl rfl dX11_init_82 ?_
  refine n_newH [2, 3, 0, 1] (pc := 83) (n := 326) C nl_RX11_49 x_s326 (rf_z (row := xRfL.getD 326 []) (by decide +kernel)) (fun j => (up_z (N1 := 23) hM (by omega) (by omega)) 326 (by omega) j) ⟨by omega, by omega⟩ (Nat.le_of_ble_eq_true rfl) (Nat.le_of_ble_eq_true rfl) dX11_init_83 ?_
  refine n_dup (pc := 86) C rfl dX11_init_86 ?_
  refine n_aload_n (pc := 87) C 0 rfl rfl dX11_init_87 ?_
  refine n_getR (pc := 88) (r := 23) C fk_RX11_26 x_s0 (by omega) x_kX_2 (by decide +kernel) dX11_init_88 ?_
  refine n_aload_n (pc := 91) C 0 rfl rfl dX11_init_91 ?_
  refine n_getR (pc := 92) (r := 38) C fk_RX11_35 x_s0 (by omega) x_kX_3 (by decide +kernel) dX11_init_92 ?_
  refine n_callI (pc := 95) (rest := [vR b 326, vR b 0]) C (NExt_ok _ _) [vR b 23, vR b 38] (k_xMatching l  (ho_lt (fun _ h => absurd h List.not_mem_nil) (by omega)) (fun k hk j => (up_z (N1 := 23) hM (by omega) (by omega)) k (by omega) j)) ki_RX11_51 rfl rfl ⟨by omega, by omega⟩ ⟨(Nat.le_of_ble_eq_true rfl), (Nat.le_of_ble_eq_true rfl)⟩ (Nat.le_of_ble_eq_true rfl) (Nat.le_of_ble_eq_true rfl) (Nat.le_of_ble_eq_true rfl) rfl dX11_init_95 ?_
  refine n_putR (pc := 98) (hol := HO 0 [7, 8, 9] []) C hin fk_RX11_54 x_ft11 kf_RX11_6 x_s0 (by omega) x_kX_6 (fun _ => rfl) (fun _ => rfl) (ho_nin (by decide) (fun _ h => absurd h List.not_mem_nil)) x_r0_6 dX11_init_98 ?_
  refine n_aload_n (pc := 101) C 0 rfl rfl dX11_init_101 ?_
  refine n_newH [4, 5, 6, 7, 8, 1, 2, 3] (pc := 102) (n := 354) C nl_RX11_58 x_s354 (rf_z (row := xRfL.getD 354 []) (by decide +kernel)) (fun j => (up_z (N1 := 23) hM (by omega) (by omega)) 354 (by omega) j) ⟨by omega, by omega⟩ (Nat.le_of_ble_eq_true rfl) (Nat.le_of_ble_eq_true rfl) dX11_init_102 ?_
  refine n_dup (pc := 105) C rfl dX11_init_105 ?_
  refine n_aload_n (pc := 106) C 0 rfl rfl dX11_init_106 ?_
  refine n_getR (pc := 107) (r := 23) C fk_RX11_26 x_s0 (by omega) x_kX_2 (by decide +kernel) dX11_init_107 ?_
  refine n_aload_n (pc := 110) C 0 rfl rfl dX11_init_110 ?_
  refine n_getR (pc := 111) (r := 38) C fk_RX11_35 x_s0 (by omega) x_kX_3 (by decide +kernel) dX11_init_111 ?_
  refine n_aload_n (pc := 114) C 0 rfl rfl dX11_init_114 ?_
  refine n_getR (pc := 115) (r := 51) C fk_RX11_39 x_s0 (by omega) x_kX_4 (by decide +kernel) dX11_init_115 ?_
  refine n_callI (pc := 118) (rest := [vR b 354, vR b 0]) C (NExt_ok _ _) [vR b 23, vR b 38, vR b 51] (k_xHeard l  (ho_lt (fun _ h => absurd h List.not_mem_nil) (by omega)) (fun k hk j => (up_z (N1 := 23) hM (by omega) (by omega)) k (by omega) j)) ki_RX11_60 rfl rfl ⟨by omega, by omega⟩ ⟨(Nat.le_of_ble_eq_true rfl), (Nat.le_of_ble_eq_true rfl)⟩ (Nat.le_of_ble_eq_true rfl) (Nat.le_of_ble_eq_true rfl) (Nat.le_of_ble_eq_true rfl) rfl dX11_init_118 ?_
  refine n_putR (pc := 121) (hol := HO 0 [8, 9] []) C hin fk_RX11_63 x_ft11 kf_RX11_7 x_s0 (by omega) x_kX_7 (fun _ => rfl) (fun _ => rfl) (ho_nin (by decide) (fun _ h => absurd h List.not_mem_nil)) x_r0_7 dX11_init_121 ?_
  refine n_aload_n (pc := 124) C 0 rfl rfl dX11_init_124 ?_
  refine n_newH [0, 2, 3, 4] (pc := 125) (n := 370) C nl_RX11_67 x_s370 (rf_z (row := xRfL.getD 370 []) (by decide +kernel)) (fun j => (up_z (N1 := 23) hM (by omega) (by omega)) 370 (by omega) j) ⟨by omega, by omega⟩ (Nat.le_of_ble_eq_true rfl) (Nat.le_of_ble_eq_true rfl) dX11_init_125 ?_
  refine n_dup (pc := 128) C rfl dX11_init_128 ?_
  refine n_aload_n (pc := 129) C 0 rfl rfl dX11_init_129 ?_
  refine n_getR (pc := 130) (r := 23) C fk_RX11_26 x_s0 (by omega) x_kX_2 (by decide +kernel) dX11_init_130 ?_
  refine n_aload_n (pc := 133) C 0 rfl rfl dX11_init_133 ?_
  refine n_getR (pc := 134) (r := 38) C fk_RX11_35 x_s0 (by omega) x_kX_3 (by decide +kernel) dX11_init_134 ?_
  refine n_aload_n (pc := 137) C 0 rfl rfl dX11_init_137 ?_
  refine n_getR (pc := 138) (r := 51) C fk_RX11_39 x_s0 (by omega) x_kX_4 (by decide +kernel) dX11_init_138 ?_
  refine n_callI (pc := 141) (rest := [vR b 370, vR b 0]) C (NExt_ok _ _) [vR b 23, vR b 38, vR b 51] (k_xPicture l  (ho_lt (fun _ h => absurd h List.not_mem_nil) (by omega)) (fun k hk j => (up_z (N1 := 23) hM (by omega) (by omega)) k (by omega) j)) ki_RX11_69 rfl rfl ⟨by omega, by omega⟩ ⟨(Nat.le_of_ble_eq_true rfl), (Nat.le_of_ble_eq_true rfl)⟩ (Nat.le_of_ble_eq_true rfl) (Nat.le_of_ble_eq_true rfl) (Nat.le_of_ble_eq_true rfl) rfl dX11_init_141 ?_
  refine n_putR (pc := 144) (hol := HO 0 [9] []) C hin fk_RX11_70 x_ft11 kf_RX11_8 x_s0 (by omega) x_kX_8 (fun _ => rfl) (fun _ => rfl) (ho_nin (by decide) (fun _ h => absurd h List.not_mem_nil)) x_r0_8 dX11_init_144 ?_
  refine n_aload_n (pc := 147) C 0 rfl rfl dX11_init_147 ?_
  refine n_bipush (pc := 148) (j := 6) C (by decide +kernel) dX11_init_148 ?_
  refine n_newa (pc := 150) (n := 372) (t := 0) (L := 6) (atype := .int) C rfl (Or.inl ⟨rfl, rfl⟩) xA_int x_s372 (fun j => (up_z (N1 := 23) hM (by omega) (by omega)) 372 (by omega) j) (by decide) rfl ⟨by omega, by omega⟩ (Nat.le_of_ble_eq_true rfl) (Nat.le_of_ble_eq_true rfl) dX11_init_150 ?_
  refine n_putR (pc := 152) (hol := HO 0 [] []) C hin fk_RX11_74 x_ft11 kf_RX11_9 x_s0 (by omega) x_kX_9 (fun _ => rfl) (fun _ => rfl) (ho_nin (by decide) (fun _ h => absurd h List.not_mem_nil)) x_r0_9 dX11_init_152 ?_
  refine n_aload_n (pc := 155) C 0 rfl rfl dX11_init_155 ?_
  refine n_iconst (pc := 156) C dX11_init_156 ?_
  refine n_putI (pc := 157) C fk_RX11_78 x_ft11 x_w11_10 x_s0 (by omega) x_kX_10 dX11_init_157 ?_
  exact n_vret (pc := 160) C hr dX11_init_160
