theorem s_c1 : ∀ k : Nat, k < 128 → ((Int32.ofInt (and32 (k : Int) 255)).toUInt32 % 65536).toInt32 = Int32.ofInt (k : Int) := by decide +kernel
theorem s_c2 : ∀ k : Nat, k < 128 → narrow .char (vI (k : Int)) = vI (k : Int) := by decide +kernel
theorem dJ0_length_8abf5_0 : decode cJ0_length_8abf5 0 = .ok (.aload_n 0, 1) := by decide +kernel
theorem dJ0_length_8abf5_1 : decode cJ0_length_8abf5 1 = .ok (.getfield 9, 3) := by decide +kernel
theorem dJ0_length_8abf5_4 : decode cJ0_length_8abf5 4 = .ok (.arraylength, 1) := by decide +kernel
theorem dJ0_length_8abf5_5 : decode cJ0_length_8abf5 5 = .ok (.aload_n 0, 1) := by decide +kernel
theorem dJ0_length_8abf5_6 : decode cJ0_length_8abf5 6 = .ok (.invokevirtual 335, 3) := by decide +kernel
theorem dJ0_length_8abf5_9 : decode cJ0_length_8abf5 9 = .ok (.ishr, 1) := by decide +kernel
theorem dJ0_length_8abf5_10 : decode cJ0_length_8abf5 10 = .ok (.ireturn, 1) := by decide +kernel
theorem dJ0_charAt_5068e_0 : decode cJ0_charAt_5068e 0 = .ok (.aload_n 0, 1) := by decide +kernel
theorem dJ0_charAt_5068e_1 : decode cJ0_charAt_5068e 1 = .ok (.invokevirtual 492, 3) := by decide +kernel
theorem dJ0_charAt_5068e_4 : decode cJ0_charAt_5068e 4 = .ok (.ifCond .eq 12, 3) := by decide +kernel
theorem dJ0_charAt_5068e_7 : decode cJ0_charAt_5068e 7 = .ok (.aload_n 0, 1) := by decide +kernel
theorem dJ0_charAt_5068e_8 : decode cJ0_charAt_5068e 8 = .ok (.getfield 9, 3) := by decide +kernel
theorem dJ0_charAt_5068e_11 : decode cJ0_charAt_5068e 11 = .ok (.iload_n 1, 1) := by decide +kernel
theorem dJ0_charAt_5068e_12 : decode cJ0_charAt_5068e 12 = .ok (.invokestatic 495, 3) := by decide +kernel
theorem dJ0_charAt_5068e_15 : decode cJ0_charAt_5068e 15 = .ok (.ireturn, 1) := by decide +kernel
theorem dJ0_charAt_5068e_16 : decode cJ0_charAt_5068e 16 = .ok (.aload_n 0, 1) := by decide +kernel
theorem dJ0_charAt_5068e_17 : decode cJ0_charAt_5068e 17 = .ok (.getfield 9, 3) := by decide +kernel
theorem dJ0_charAt_5068e_20 : decode cJ0_charAt_5068e 20 = .ok (.iload_n 1, 1) := by decide +kernel
theorem dJ0_charAt_5068e_21 : decode cJ0_charAt_5068e 21 = .ok (.invokestatic 498, 3) := by decide +kernel
theorem dJ0_charAt_5068e_24 : decode cJ0_charAt_5068e 24 = .ok (.ireturn, 1) := by decide +kernel
theorem dJ0_coder_7d493_0 : decode cJ0_coder_7d493 0 = .ok (.getstatic 38, 3) := by decide +kernel
theorem dJ0_coder_7d493_3 : decode cJ0_coder_7d493 3 = .ok (.ifCond .eq 10, 3) := by decide +kernel
theorem dJ0_coder_7d493_6 : decode cJ0_coder_7d493 6 = .ok (.aload_n 0, 1) := by decide +kernel
theorem dJ0_coder_7d493_7 : decode cJ0_coder_7d493 7 = .ok (.getfield 15, 3) := by decide +kernel
theorem dJ0_coder_7d493_10 : decode cJ0_coder_7d493 10 = .ok (.goto 4, 3) := by decide +kernel
theorem dJ0_coder_7d493_13 : decode cJ0_coder_7d493 13 = .ok (.iconst 1, 1) := by decide +kernel
theorem dJ0_coder_7d493_14 : decode cJ0_coder_7d493 14 = .ok (.ireturn, 1) := by decide +kernel
theorem dJ0_isLatin1_aae02_0 : decode cJ0_isLatin1_aae02 0 = .ok (.getstatic 38, 3) := by decide +kernel
theorem dJ0_isLatin1_aae02_3 : decode cJ0_isLatin1_aae02 3 = .ok (.ifCond .eq 14, 3) := by decide +kernel
theorem dJ0_isLatin1_aae02_6 : decode cJ0_isLatin1_aae02 6 = .ok (.aload_n 0, 1) := by decide +kernel
theorem dJ0_isLatin1_aae02_7 : decode cJ0_isLatin1_aae02 7 = .ok (.getfield 15, 3) := by decide +kernel
theorem dJ0_isLatin1_aae02_10 : decode cJ0_isLatin1_aae02 10 = .ok (.ifCond .ne 7, 3) := by decide +kernel
theorem dJ0_isLatin1_aae02_13 : decode cJ0_isLatin1_aae02 13 = .ok (.iconst 1, 1) := by decide +kernel
theorem dJ0_isLatin1_aae02_14 : decode cJ0_isLatin1_aae02 14 = .ok (.goto 4, 3) := by decide +kernel
theorem dJ0_isLatin1_aae02_17 : decode cJ0_isLatin1_aae02 17 = .ok (.iconst 0, 1) := by decide +kernel
theorem dJ0_isLatin1_aae02_18 : decode cJ0_isLatin1_aae02 18 = .ok (.ireturn, 1) := by decide +kernel
theorem dJ0_checkIndex_df160_0 : decode cJ0_checkIndex_df160 0 = .ok (.iload_n 0, 1) := by decide +kernel
theorem dJ0_checkIndex_df160_1 : decode cJ0_checkIndex_df160 1 = .ok (.iload_n 1, 1) := by decide +kernel
theorem dJ0_checkIndex_df160_2 : decode cJ0_checkIndex_df160 2 = .ok (.getstatic 1053, 3) := by decide +kernel
theorem dJ0_checkIndex_df160_5 : decode cJ0_checkIndex_df160 5 = .ok (.invokestatic 1059, 3) := by decide +kernel
theorem dJ0_checkIndex_df160_8 : decode cJ0_checkIndex_df160 8 = .ok (.pop, 1) := by decide +kernel
theorem dJ0_checkIndex_df160_9 : decode cJ0_checkIndex_df160 9 = .ok (.return_, 1) := by decide +kernel
theorem dJ1_charAt_3b067_0 : decode cJ1_charAt_3b067 0 = .ok (.iload_n 1, 1) := by decide +kernel
theorem dJ1_charAt_3b067_1 : decode cJ1_charAt_3b067 1 = .ok (.aload_n 0, 1) := by decide +kernel
theorem dJ1_charAt_3b067_2 : decode cJ1_charAt_3b067 2 = .ok (.arraylength, 1) := by decide +kernel
theorem dJ1_charAt_3b067_3 : decode cJ1_charAt_3b067 3 = .ok (.invokestatic 9, 3) := by decide +kernel
theorem dJ1_charAt_3b067_6 : decode cJ1_charAt_3b067 6 = .ok (.aload_n 0, 1) := by decide +kernel
theorem dJ1_charAt_3b067_7 : decode cJ1_charAt_3b067 7 = .ok (.iload_n 1, 1) := by decide +kernel
theorem dJ1_charAt_3b067_8 : decode cJ1_charAt_3b067 8 = .ok (.baload, 1) := by decide +kernel
theorem dJ1_charAt_3b067_9 : decode cJ1_charAt_3b067 9 = .ok (.sipush 255, 3) := by decide +kernel
theorem dJ1_charAt_3b067_12 : decode cJ1_charAt_3b067 12 = .ok (.iand, 1) := by decide +kernel
theorem dJ1_charAt_3b067_13 : decode cJ1_charAt_3b067 13 = .ok (.i2c, 1) := by decide +kernel
theorem dJ1_charAt_3b067_14 : decode cJ1_charAt_3b067 14 = .ok (.ireturn, 1) := by decide +kernel
theorem dJ3_checkIndex_8e157_0 : decode cJ3_checkIndex_8e157 0 = .ok (.iload_n 0, 1) := by decide +kernel
theorem dJ3_checkIndex_8e157_1 : decode cJ3_checkIndex_8e157 1 = .ok (.ifCond .lt 8, 3) := by decide +kernel
theorem dJ3_checkIndex_8e157_4 : decode cJ3_checkIndex_8e157 4 = .ok (.iload_n 0, 1) := by decide +kernel
theorem dJ3_checkIndex_8e157_5 : decode cJ3_checkIndex_8e157 5 = .ok (.iload_n 1, 1) := by decide +kernel
theorem dJ3_checkIndex_8e157_6 : decode cJ3_checkIndex_8e157 6 = .ok (.if_icmp .lt 10, 3) := by decide +kernel
theorem dJ3_checkIndex_8e157_9 : decode cJ3_checkIndex_8e157 9 = .ok (.aload_n 2, 1) := by decide +kernel
theorem dJ3_checkIndex_8e157_10 : decode cJ3_checkIndex_8e157 10 = .ok (.iload_n 0, 1) := by decide +kernel
theorem dJ3_checkIndex_8e157_11 : decode cJ3_checkIndex_8e157 11 = .ok (.iload_n 1, 1) := by decide +kernel
theorem dJ3_checkIndex_8e157_12 : decode cJ3_checkIndex_8e157 12 = .ok (.invokestatic 95, 3) := by decide +kernel
theorem dJ3_checkIndex_8e157_15 : decode cJ3_checkIndex_8e157 15 = .ok (.athrow, 1) := by decide +kernel
theorem dJ3_checkIndex_8e157_16 : decode cJ3_checkIndex_8e157 16 = .ok (.iload_n 0, 1) := by decide +kernel
theorem dJ3_checkIndex_8e157_17 : decode cJ3_checkIndex_8e157 17 = .ok (.ireturn, 1) := by decide +kernel
/-! THE TEXTS: their cells stand outside the worlds and are never written -/
def SX (A : Nat → Prop) (a v : Nat) (bs : List Int) (U : State) : Prop :=
  va_O "java/lang/String" a A U U.heap ∧ va_OF "java/lang/String" "coder" "B" (.int 0) a A U U.heap ∧ va_OF "java/lang/String" "value" "[B" (.ref v) a A U U.heap ∧ va_T .byte v bs.length (fun j => vI (bs.getD j 0)) A U U.heap
def SXS (A : Nat → Prop) (U : State) : Prop := va_Z "java/lang/String" "COMPACT_STRINGS" "Z" (.int 1) A U U.heap ∧ ∃ f : Value, (f = .null ∨ ∃ q, f = .ref q) ∧ va_Z "jdk/internal/util/Preconditions" "SIOOBE_FORMATTER" "Ljava/util/function/BiFunction;" f A U U.heap
theorem SX_moved {A : Nat → Prop} {a v : Nat} {bs : List Int} {u U : State} (h : SX A a v bs u) (hv : u.vm.Alike U.vm) (hq : ∀ q, q < u.heap.size → ¬ A q → U.heap[q]? = u.heap[q]?) : SX A a v bs U :=
  ⟨(va_O.moved hv h.1).kept hq, (va_OF.moved hv h.2.1).kept hq, (va_OF.moved hv h.2.2.1).kept hq, (va_T.moved hv h.2.2.2).kept hq⟩
theorem SXS_moved {A : Nat → Prop} {u U : State} (h : SXS A u) (hv : u.vm.Alike U.vm) (hq : ∀ q, q < u.heap.size → ¬ A q → U.heap[q]? = u.heap[q]?) : SXS A U := by
  obtain ⟨h1, f, h2, h3⟩ := h
  exact ⟨(va_Z.moved hv h1).kept hq, f, h2, (va_Z.moved hv h3).kept hq⟩
def xExt (σ : Nat → Nat) (b : Nat) (U : State) : Prop := SXS (AW b xN) U ∧ vk_R "ThrownVoices$Word" 11 "voice personwants picks mixes hush  strokepitch calm  at    long  tone  waits minuteload  busy  if    or    and   not   all   min   max   " (σ 0) U ∧ SX (AW b xN) (σ 0) (σ 1) xT0 U ∧ vk_R "ThrownVoices$Tokens" 65 ";()[],+-*/%<>=" (σ 2) U ∧ SX (AW b xN) (σ 2) (σ 3) xT1 U
theorem xExtOK (σ : Nat → Nat) (b : Nat) : ExtOK (xExt σ b) (AW b xN) := by
  intro u U h hw _ hq
  obtain ⟨h0, r0, t0, r1, t1⟩ := h
  exact ⟨SXS_moved h0 hw.alike hq, vk_R.warm hw r0, SX_moved t0 hw.alike hq, vk_R.warm hw r1, SX_moved t1 hw.alike hq⟩
section STRROWS
variable {p : Program} {l : Launch} {e : Env} {R : Room} {s : State} {m : MethodId} {args : Array Value} {below : List Frame} {meth : Method} {c : Code} {cc : ByteArray} {nL : Nat} {own : String} {D : va_G} {E : Nat → ClassId} {cl : List vw_C} {sh : Shp} {b n : Nat} {Rf : Nat → Nat → Nat} {Q : State → Prop} {Ext : State → Prop} {M M1 : Mem} {pc : Nat} {lv : List (Nat × Value)} {rest st st1 : List Value}
theorem ext_now (C : CX p s m args meth c cc nL own D E cl Ext (AW b n)) : Ext s := C.2.2.2.2.2.2.2 s (State.WarmedH.refl s) (Nat.le_refl _) (fun _ _ _ => rfl)
theorem r_aloadV_n (C : CX p s m args meth c cc nL own D E cl Ext (AW b n)) {q : Fin 4} {i a : Nat} (t : Nat) (hk : lv[t]? = some (i, .ref a)) (hi : (q : Nat) = i) (d : decode cc pc = .ok (.aload_n q, 1)) (k : WX p l e R s m args below meth c nL D E cl sh b n Rf Q M (pc + 1) lv (.ref a :: rest)) : WX p l e R s m args below meth c nL D E cl sh b n Rf Q M pc lv rest := by
  intro H locs ls hP hS hl
  exact lv_aload_n C.1 C.2.1 d hi (lv_at hl t hk) (k H locs ls hP hS hl)
theorem r_getfS (C : CX p s m args meth c cc nL own D E cl Ext (AW b n)) {o fn ds : String} {idx q : Nat} {v : Value} (hE : va_OF o fn ds v q (AW b n) s s.heap) (hl0 : Cond.fieldLink own idx o fn ds ∈ gws) (d : decode cc pc = .ok (.getfield idx, 3))
    (k : WX p l e R s m args below meth c nL D E cl sh b n Rf Q M (pc + 3) lv (v :: rest)) : WX p l e R s m args below meth c nL D E cl sh b n Rf Q M pc lv (.ref q :: rest) := by
  intro H locs ls hP hS hl
  exact vk_getf C.1 C.2.1 hE hS C.2.2.2.1 (C.2.2.2.2.1 _ hl0) (fun _ h => h) d (k H locs ls hP hS hl)
theorem r_getsS (C : CX p s m args meth c cc nL own D E cl Ext (AW b n)) {o fn ds : String} {idx : Nat} {v : Value} (hE : va_Z o fn ds v (AW b n) s s.heap) (hl0 : Cond.fieldLink own idx o fn ds ∈ gws) (d : decode cc pc = .ok (.getstatic idx, 3))
    (k : WX p l e R s m args below meth c nL D E cl sh b n Rf Q M (pc + 3) lv (v :: rest)) : WX p l e R s m args below meth c nL D E cl sh b n Rf Q M pc lv rest := by
  intro H locs ls hP hS hl
  exact va_gets C.1 C.2.1 hE hS C.2.2.2.1 (C.2.2.2.2.1 _ hl0) (fun _ h => h) d (k H locs ls hP hS hl)
theorem r_tlen (C : CX p s m args meth c cc nL own D E cl Ext (AW b n)) {ty : FieldType} {t N : Nat} {f : Nat → Value} (hT : va_T ty t N f (AW b n) s s.heap) (d : decode cc pc = .ok (.arraylength, 1))
    (k : WX p l e R s m args below meth c nL D E cl sh b n Rf Q M (pc + 1) lv (vI (N : Int) :: rest)) : WX p l e R s m args below meth c nL D E cl sh b n Rf Q M pc lv (.ref t :: rest) := by
  intro H locs ls hP hS hl
  exact va_tlen C.1 C.2.1 hT hS (v := Int32.ofInt (N : Int)) rfl d (k H locs ls hP hS hl)
theorem r_tb (C : CX p s m args meth c cc nL own D E cl Ext (AW b n)) {t N : Nat} {f : Nat → Value} (hT : va_T .byte t N f (AW b n) s s.heap) (hN : N ≤ 2147483647) {i : Int} (hi : 0 ≤ i ∧ i < (N : Int)) (d : decode cc pc = .ok (.baload, 1))
    (k : WX p l e R s m args below meth c nL D E cl sh b n Rf Q M (pc + 1) lv (f i.toNat :: rest)) : WX p l e R s m args below meth c nL D E cl sh b n Rf Q M pc lv (vI i :: .ref t :: rest) := by
  intro H locs ls hP hS hl
  obtain ⟨q1, q2⟩ := I_clamp hi hN
  exact va_tb C.1 C.2.1 hT hS q2 (by rw [q1]) d (k H locs ls hP hS hl)
theorem r_i2c (C : CX p s m args meth c cc nL own D E cl Ext (AW b n)) {x y : Int} (hx : ((Int32.ofInt x).toUInt32 % 65536).toInt32 = Int32.ofInt y) (d : decode cc pc = .ok (.i2c, 1))
    (k : WX p l e R s m args below meth c nL D E cl sh b n Rf Q M (pc + 1) lv (vI y :: rest)) : WX p l e R s m args below meth c nL D E cl sh b n Rf Q M pc lv (vI x :: rest) := by
  intro H locs ls hP hS hl
  exact lv_i2c C.1 C.2.1 d hx (k H locs ls hP hS hl)
theorem r_gret {Ext : Nat → State → Prop} (C : CX p s m args meth c cc nL own D E cl (Ext b) (AW b n)) {x : Int} {rv : Option Value} {ty : FieldType} (hr : meth.sig.returnType = some ty) (hn : narrow ty (vI x) = vI x) (hrv : rv = some (vI x)) (hM : M1 = M) (d : decode cc pc = .ok (.ireturn, 1)) :
    WX p l e R s m args below meth c nL D E cl sh b n Rf (MQ below (QQ D cl E sh b n Rf rv M1) args s 0 0 (AW b n)) M pc lv [vI x] := by
  intro H locs ls hP hS hl
  subst hrv; subst hM
  exact W.zret C.1 C.2.1 hr hn (fun t ht _ => ⟨rfl, by rw [ht]; exact hP, hS.F ht⟩) hS.2.2 d C.2.2.2.2.2.2.1
theorem r_ldcS (C : CX p s m args meth c cc nL own D E cl Ext (AW b n)) {tx : String} {idx q : Nat} (hZ : vk_R own idx tx q s) (d : decode cc pc = .ok (.ldc idx, 2))
    (k : WX p l e R s m args below meth c nL D E cl sh b n Rf Q M (pc + 2) lv (.ref q :: rest)) : WX p l e R s m args below meth c nL D E cl sh b n Rf Q M pc lv rest := by
  intro H locs ls hP hS hl
  exact va_ldcS C.1 C.2.1 C.2.2.2.1 hZ d (k H locs ls hP hS hl)
theorem r_callVS {Ext : Nat → State → Prop} (C : CX p s m args meth c cc nL own D E cl (Ext b) (AW b n)) (hE : ExtOK (Ext b) (AW b n)) {idx yL rf rl na a : Nat} {y : MethodName} {yc : ByteArray} {yret : Option FieldType} {avs : Nat → List Value} {rv : Nat → Option Value} (As : List Value)
    (hM : Ct l y yc yL yret rf rl cl sh n Rf Ext avs M rv M1) (hc : CLV own idx y yc yL yret na) (hs : va_O y.cls a (AW b n) s s.heap) (hav : avs b = .ref a :: As) (hna : As.length = na) (hR : rf + 1 ≤ R.frames ∧ 8 + (yL + 11) + rl ≤ R.locals) (hrest : (rest.map fun v => v.category).sum ≤ 8)
    (hst : st = As.reverse ++ .ref a :: rest) (hst1 : (rv b).toList ++ rest = st1) (d : decode cc pc = .ok (.invokevirtual idx, 3))
    (kk : WX p l e R s m args below meth c nL D E cl sh b n Rf Q M1 (pc + 3) lv st1) : WX p l e R s m args below meth c nL D E cl sh b n Rf Q M pc lv st := by
  intro H locs ls hP hS hl
  subst hst
  obtain ⟨c1, c2, c3, c4, c5, c6, c7⟩ := hc
  have ok : ∀ w ∈ gws, w.before args s = true := C.2.2.2.2.1
  have hM' := hM D E b
  rw [hav] at hM'
  obtain ⟨cell, g1, g2, g3, -⟩ := hs.kept hS.2.1
  refine r_run (va_runV (As := As) (rest := rest) (C := y.cls) (n := na) ⟨C.1, C.2.1, C.2.2.1, C.2.2.2.1, ok⟩ hM' ⟨⟨rfl, rfl, hR.1, hR.2, pay_in ok (goodIn_gws c5), List.mem_cons_self, ok _ c5, ok _ c4, c6, fun sig h => ?_, ok _ c1⟩, ok _ c2, ok _ c3⟩ ⟨PP_blind hE, ⟨cell, g1, g2, g3⟩, fun U hU hW => pp_at C hP hS U hU hW⟩ rfl hna hl.1 rfl (lv_room hrest) d ⟨Nat.zero_le _, Nat.zero_le _⟩) hS hl hst1 kk
  rw [h] at c7
  exact (Option.some.inj c7).symm
end STRROWS
section STRS
variable {σ : Nat → Nat} {M : Mem}
set_option maxRecDepth 20000 in
theorem s_pc_null (l : Launch) {i k : Int} (h : 0 ≤ i ∧ i < k) (hk : k ≤ 1000000) : Ct l yJ3_checkIndex_8e157 cJ3_checkIndex_8e157 3 (some .int) 1 12 vwCl xSh xN xRf (xExt σ) (fun b => [vI i, vI k, .null]) M (fun b => some (vI i)) M := by
  refine Ct_of (xExtOK σ) (by decide) (fun b => Nat.le_of_ble_eq_true rfl) ?_
  intro p e s m args below meth c D E b C hr
  have hX := ext_now C
  refine (show WX p l e (mkR 1 12) s m args below meth c 3 D E vwCl xSh b xN xRf (MQ below (QQ D vwCl E xSh b xN xRf (some (vI i)) M) args s 0 0 (AW b xN)) M 0 [(0, vI i), (1, vI k), (2, .null)] [] from ?_)
  have w1 : w32 i = i := w32_eq (by omega) (by omega)
  have w2 : w32 k = k := w32_eq (by omega) (by omega)
  refine r_iload_n (pc := 0) C 0 rfl rfl dJ3_checkIndex_8e157_0 ?_
  refine r_if_lt (pc := 1) (tgt := 9) (α := Unit) (f := none) (g := some ()) (r := ()) C (if_neg (by rw [w1]; omega)) dJ3_checkIndex_8e157_1 (by decide) (fun _ z => nomatch z) (fun _ _ => ?_)
  refine r_iload_n (pc := 4) C 0 rfl rfl dJ3_checkIndex_8e157_4 ?_
  refine r_iload_n (pc := 5) C 1 rfl rfl dJ3_checkIndex_8e157_5 ?_
  refine r_icmp_lt (pc := 6) (tgt := 16) (α := Unit) (f := some ()) (g := none) (r := ()) C (if_pos (by rw [w1, w2]; omega)) dJ3_checkIndex_8e157_6 (by decide) (fun _ _ => ?_) (fun _ z => nomatch z)
  refine r_iload_n (pc := 16) C 0 rfl rfl dJ3_checkIndex_8e157_16 ?_
  exact r_iret (pc := 17) C hr rfl rfl dJ3_checkIndex_8e157_17
set_option maxRecDepth 20000 in
theorem s_pc_ref (l : Launch) {i k : Int} {q : Nat} (h : 0 ≤ i ∧ i < k) (hk : k ≤ 1000000) : Ct l yJ3_checkIndex_8e157 cJ3_checkIndex_8e157 3 (some .int) 1 12 vwCl xSh xN xRf (xExt σ) (fun b => [vI i, vI k, .ref q]) M (fun b => some (vI i)) M := by
  refine Ct_of (xExtOK σ) (by decide) (fun b => Nat.le_of_ble_eq_true rfl) ?_
  intro p e s m args below meth c D E b C hr
  have hX := ext_now C
  refine (show WX p l e (mkR 1 12) s m args below meth c 3 D E vwCl xSh b xN xRf (MQ below (QQ D vwCl E xSh b xN xRf (some (vI i)) M) args s 0 0 (AW b xN)) M 0 [(0, vI i), (1, vI k), (2, .ref q)] [] from ?_)
  have w1 : w32 i = i := w32_eq (by omega) (by omega)
  have w2 : w32 k = k := w32_eq (by omega) (by omega)
  refine r_iload_n (pc := 0) C 0 rfl rfl dJ3_checkIndex_8e157_0 ?_
  refine r_if_lt (pc := 1) (tgt := 9) (α := Unit) (f := none) (g := some ()) (r := ()) C (if_neg (by rw [w1]; omega)) dJ3_checkIndex_8e157_1 (by decide) (fun _ z => nomatch z) (fun _ _ => ?_)
  refine r_iload_n (pc := 4) C 0 rfl rfl dJ3_checkIndex_8e157_4 ?_
  refine r_iload_n (pc := 5) C 1 rfl rfl dJ3_checkIndex_8e157_5 ?_
  refine r_icmp_lt (pc := 6) (tgt := 16) (α := Unit) (f := some ()) (g := none) (r := ()) C (if_pos (by rw [w1, w2]; omega)) dJ3_checkIndex_8e157_6 (by decide) (fun _ _ => ?_) (fun _ z => nomatch z)
  refine r_iload_n (pc := 16) C 0 rfl rfl dJ3_checkIndex_8e157_16 ?_
  exact r_iret (pc := 17) C hr rfl rfl dJ3_checkIndex_8e157_17
theorem sl_form : Cond.fieldLink RJ0 1053 "jdk/internal/util/Preconditions" "SIOOBE_FORMATTER" "Ljava/util/function/BiFunction;" ∈ gws := gw 643 (by decide +kernel) (by decide +kernel)
theorem sl_cs : Cond.fieldLink RJ0 38 "java/lang/String" "COMPACT_STRINGS" "Z" ∈ gws := gw 627 (by decide +kernel) (by decide +kernel)
theorem sl_value : Cond.fieldLink RJ0 9 "java/lang/String" "value" "[B" ∈ gws := gw 1922 (by decide +kernel) (by decide +kernel)
theorem sl_coder : Cond.fieldLink RJ0 15 "java/lang/String" "coder" "B" ∈ gws := gw 1923 (by decide +kernel) (by decide +kernel)
theorem sc_pc : CLS RJ0 1059 yJ3_checkIndex_8e157 cJ3_checkIndex_8e157 3 (some .int) 3 := ⟨gw 645 (by decide +kernel) (by decide +kernel), gw 646 (by decide +kernel) (by decide +kernel), gw 138 (by decide +kernel) (by decide +kernel), gwc 647 (by decide +kernel) (by decide +kernel), ⟨by decide +kernel, by decide +kernel⟩, by decide +kernel⟩
theorem sc_coder : CLV RJ0 335 yJ0_coder_7d493 cJ0_coder_7d493 1 (some .byte) 0 := ⟨gw 623 (by decide +kernel) (by decide +kernel), gw 624 (by decide +kernel) (by decide +kernel), gw 625 (by decide +kernel) (by decide +kernel), gw 136 (by decide +kernel) (by decide +kernel), gwc 626 (by decide +kernel) (by decide +kernel), ⟨by decide +kernel, by decide +kernel⟩, by decide +kernel⟩
theorem sc_lat : CLV RJ0 492 yJ0_isLatin1_aae02 cJ0_isLatin1_aae02 1 (some .boolean) 0 := ⟨gw 633 (by decide +kernel) (by decide +kernel), gw 634 (by decide +kernel) (by decide +kernel), gw 635 (by decide +kernel) (by decide +kernel), gw 136 (by decide +kernel) (by decide +kernel), gwc 636 (by decide +kernel) (by decide +kernel), ⟨by decide +kernel, by decide +kernel⟩, by decide +kernel⟩
theorem sc_lcat : CLS RJ0 495 yJ1_charAt_3b067 cJ1_charAt_3b067 2 (some .char) 2 := ⟨gw 637 (by decide +kernel) (by decide +kernel), gw 638 (by decide +kernel) (by decide +kernel), gw 137 (by decide +kernel) (by decide +kernel), gwc 639 (by decide +kernel) (by decide +kernel), ⟨by decide +kernel, by decide +kernel⟩, by decide +kernel⟩
theorem sc_chk : CLS RJ1 9 yJ0_checkIndex_df160 cJ0_checkIndex_df160 2 none 2 := ⟨gw 640 (by decide +kernel) (by decide +kernel), gw 641 (by decide +kernel) (by decide +kernel), gw 136 (by decide +kernel) (by decide +kernel), gwc 642 (by decide +kernel) (by decide +kernel), ⟨by decide +kernel, by decide +kernel⟩, by decide +kernel⟩
set_option maxRecDepth 20000 in
theorem s_chk (l : Launch) {i k : Int} (h : 0 ≤ i ∧ i < k) (hk : k ≤ 1000000) : Ct l yJ0_checkIndex_df160 cJ0_checkIndex_df160 2 none 2 34 vwCl xSh xN xRf (xExt σ) (fun b => [vI i, vI k]) M (fun b => none) M := by
  refine Ct_of (xExtOK σ) (by decide) (fun b => Nat.le_of_ble_eq_true rfl) ?_
  intro p e s m args below meth c D E b C hr
  have hX := ext_now C
  refine (show WX p l e (mkR 2 34) s m args below meth c 2 D E vwCl xSh b xN xRf (MQ below (QQ D vwCl E xSh b xN xRf none M) args s 0 0 (AW b xN)) M 0 [(0, vI i), (1, vI k)] [] from ?_)
  obtain ⟨⟨-, f, hf, hz⟩, -⟩ := hX
  refine r_iload_n (pc := 0) C 0 rfl rfl dJ0_checkIndex_df160_0 ?_
  refine r_iload_n (pc := 1) C 1 rfl rfl dJ0_checkIndex_df160_1 ?_
  refine r_getsS (pc := 2) C hz sl_form dJ0_checkIndex_df160_2 ?_
  rcases hf with rfl | ⟨q, rfl⟩
  · refine r_callS (pc := 5) (rest := []) (st1 := [vI i]) C (xExtOK σ b) [vI i, vI k, .null] (s_pc_null l h hk) sc_pc rfl rfl ⟨Nat.le_of_ble_eq_true rfl, Nat.le_of_ble_eq_true rfl⟩ (Nat.le_of_ble_eq_true rfl) rfl rfl dJ0_checkIndex_df160_5 ?_
    refine r_pop (pc := 8) C rfl dJ0_checkIndex_df160_8 ?_
    exact r_vret (pc := 9) C hr rfl rfl dJ0_checkIndex_df160_9
  · refine r_callS (pc := 5) (rest := []) (st1 := [vI i]) C (xExtOK σ b) [vI i, vI k, .ref q] (s_pc_ref l h hk) sc_pc rfl rfl ⟨Nat.le_of_ble_eq_true rfl, Nat.le_of_ble_eq_true rfl⟩ (Nat.le_of_ble_eq_true rfl) rfl rfl dJ0_checkIndex_df160_5 ?_
    refine r_pop (pc := 8) C rfl dJ0_checkIndex_df160_8 ?_
    exact r_vret (pc := 9) C hr rfl rfl dJ0_checkIndex_df160_9
set_option maxRecDepth 20000 in
theorem s_lcat (l : Launch) {v a : Nat} {bs : List Int} (hX0 : ∀ b U, xExt σ b U → SX (AW b xN) a v bs U) (hb : ∀ x ∈ bs, 0 ≤ x ∧ x < 128) (hL : bs.length ≤ 1000000) {i : Int} (h : 0 ≤ i ∧ i < (bs.length : Int)) : Ct l yJ1_charAt_3b067 cJ1_charAt_3b067 2 (some .char) 3 60 vwCl xSh xN xRf (xExt σ) (fun b => [.ref v, vI i]) M (fun b => some (vI (bs.getD i.toNat 0))) M := by
  refine Ct_of (xExtOK σ) (by decide) (fun b => Nat.le_of_ble_eq_true rfl) ?_
  intro p e s m args below meth c D E b C hr
  have hX := ext_now C
  refine (show WX p l e (mkR 3 60) s m args below meth c 2 D E vwCl xSh b xN xRf (MQ below (QQ D vwCl E xSh b xN xRf (some (vI (bs.getD i.toNat 0))) M) args s 0 0 (AW b xN)) M 0 [(0, .ref v), (1, vI i)] [] from ?_)
  obtain ⟨-, -, -, hT⟩ := hX0 b s hX
  refine r_iload_n (pc := 0) C 1 rfl rfl dJ1_charAt_3b067_0 ?_
  refine r_aloadV_n (pc := 1) C 0 rfl rfl dJ1_charAt_3b067_1 ?_
  refine r_tlen (pc := 2) C hT dJ1_charAt_3b067_2 ?_
  refine r_callS (pc := 3) (rest := []) (st1 := []) C (xExtOK σ b) [vI i, vI (bs.length : Int)] (s_chk l h (by omega)) sc_chk rfl rfl ⟨Nat.le_of_ble_eq_true rfl, Nat.le_of_ble_eq_true rfl⟩ (Nat.le_of_ble_eq_true rfl) rfl rfl dJ1_charAt_3b067_3 ?_
  refine r_aloadV_n (pc := 6) C 0 rfl rfl dJ1_charAt_3b067_6 ?_
  refine r_iload_n (pc := 7) C 1 rfl rfl dJ1_charAt_3b067_7 ?_
  refine r_tb (pc := 8) C hT (by omega) h dJ1_charAt_3b067_8 ?_
  refine r_sipush (pc := 9) (j := 255) C (by decide +kernel) dJ1_charAt_3b067_9 ?_
  refine r_iand (pc := 12) C dJ1_charAt_3b067_12 ?_
  have hlt : i.toNat < bs.length := by omega
  have hx : 0 ≤ bs.getD i.toNat 0 ∧ bs.getD i.toNat 0 < 128 := by
    rw [List.getD_eq_getElem?_getD, List.getElem?_eq_getElem hlt]
    exact hb _ (List.getElem_mem hlt)
  generalize bs.getD i.toNat 0 = x at hx ⊢
  obtain ⟨k, rfl⟩ : ∃ k : Nat, x = (k : Int) := ⟨x.toNat, by omega⟩
  have hk : k < 128 := by omega
  refine r_i2c (pc := 13) (y := (k : Int)) C (s_c1 k hk) dJ1_charAt_3b067_13 ?_
  exact r_gret (pc := 14) C hr (s_c2 k hk) rfl rfl dJ1_charAt_3b067_14
set_option maxRecDepth 20000 in
theorem s_coder (l : Launch) {v a : Nat} {bs : List Int} (hX0 : ∀ b U, xExt σ b U → SX (AW b xN) a v bs U) : Ct l yJ0_coder_7d493 cJ0_coder_7d493 1 (some .byte) 1 12 vwCl xSh xN xRf (xExt σ) (fun b => [.ref a]) M (fun b => some (vI 0)) M := by
  refine Ct_of (xExtOK σ) (by decide) (fun b => Nat.le_of_ble_eq_true rfl) ?_
  intro p e s m args below meth c D E b C hr
  have hX := ext_now C
  refine (show WX p l e (mkR 1 12) s m args below meth c 1 D E vwCl xSh b xN xRf (MQ below (QQ D vwCl E xSh b xN xRf (some (vI 0)) M) args s 0 0 (AW b xN)) M 0 [(0, .ref a)] [] from ?_)
  obtain ⟨-, hc, -, -⟩ := hX0 b s hX
  refine r_getsS (v := vI 1) (pc := 0) C hX.1.1 sl_cs dJ0_coder_7d493_0 ?_
  refine r_if_eq (pc := 3) (tgt := 13) (α := Unit) (f := none) (g := some ()) (r := ()) C (if_neg (by decide)) dJ0_coder_7d493_3 (by decide) (fun _ z => nomatch z) (fun _ _ => ?_)
  refine r_aloadV_n (pc := 6) C 0 rfl rfl dJ0_coder_7d493_6 ?_
  refine r_getfS (v := vI 0) (pc := 7) C hc sl_coder dJ0_coder_7d493_7 ?_
  refine r_goto (pc := 10) (tgt := 14) C dJ0_coder_7d493_10 (by decide) ?_
  exact r_gret (pc := 14) C hr (by decide +kernel) rfl rfl dJ0_coder_7d493_14
set_option maxRecDepth 20000 in
theorem s_lat (l : Launch) {v a : Nat} {bs : List Int} (hX0 : ∀ b U, xExt σ b U → SX (AW b xN) a v bs U) : Ct l yJ0_isLatin1_aae02 cJ0_isLatin1_aae02 1 (some .boolean) 1 12 vwCl xSh xN xRf (xExt σ) (fun b => [.ref a]) M (fun b => some (vI 1)) M := by
  refine Ct_of (xExtOK σ) (by decide) (fun b => Nat.le_of_ble_eq_true rfl) ?_
  intro p e s m args below meth c D E b C hr
  have hX := ext_now C
  refine (show WX p l e (mkR 1 12) s m args below meth c 1 D E vwCl xSh b xN xRf (MQ below (QQ D vwCl E xSh b xN xRf (some (vI 1)) M) args s 0 0 (AW b xN)) M 0 [(0, .ref a)] [] from ?_)
  obtain ⟨-, hc, -, -⟩ := hX0 b s hX
  refine r_getsS (v := vI 1) (pc := 0) C hX.1.1 sl_cs dJ0_isLatin1_aae02_0 ?_
  refine r_if_eq (pc := 3) (tgt := 17) (α := Unit) (f := none) (g := some ()) (r := ()) C (if_neg (by decide)) dJ0_isLatin1_aae02_3 (by decide) (fun _ z => nomatch z) (fun _ _ => ?_)
  refine r_aloadV_n (pc := 6) C 0 rfl rfl dJ0_isLatin1_aae02_6 ?_
  refine r_getfS (v := vI 0) (pc := 7) C hc sl_coder dJ0_isLatin1_aae02_7 ?_
  refine r_if_ne (pc := 10) (tgt := 17) (α := Unit) (f := none) (g := some ()) (r := ()) C (if_neg (by decide)) dJ0_isLatin1_aae02_10 (by decide) (fun _ z => nomatch z) (fun _ _ => ?_)
  refine r_iconst (pc := 13) C dJ0_isLatin1_aae02_13 ?_
  refine r_goto (pc := 14) (tgt := 18) C dJ0_isLatin1_aae02_14 (by decide) ?_
  exact r_gret (pc := 18) C hr (by decide +kernel) rfl rfl dJ0_isLatin1_aae02_18
set_option maxRecDepth 20000 in
theorem s_length (l : Launch) {v a : Nat} {bs : List Int} (hX0 : ∀ b U, xExt σ b U → SX (AW b xN) a v bs U) (hL : bs.length ≤ 1000000) {k : Int} (hk : (bs.length : Int) = k) : Ct l yJ0_length_8abf5 cJ0_length_8abf5 1 (some .int) 2 40 vwCl xSh xN xRf (xExt σ) (fun b => [.ref a]) M (fun b => some (vI k)) M := by
  refine Ct_of (xExtOK σ) (by decide) (fun b => Nat.le_of_ble_eq_true rfl) ?_
  intro p e s m args below meth c D E b C hr
  have hX := ext_now C
  refine (show WX p l e (mkR 2 40) s m args below meth c 1 D E vwCl xSh b xN xRf (MQ below (QQ D vwCl E xSh b xN xRf (some (vI k)) M) args s 0 0 (AW b xN)) M 0 [(0, .ref a)] [] from ?_)
  subst hk
  obtain ⟨hO, hc, hv, hT⟩ := hX0 b s hX
  refine r_aloadV_n (pc := 0) C 0 rfl rfl dJ0_length_8abf5_0 ?_
  refine r_getfS (pc := 1) C hv sl_value dJ0_length_8abf5_1 ?_
  refine r_tlen (pc := 4) C hT dJ0_length_8abf5_4 ?_
  refine r_aloadV_n (pc := 5) C 0 rfl rfl dJ0_length_8abf5_5 ?_
  refine r_callVS (pc := 6) (rest := [vI (bs.length : Int)]) (st1 := [vI 0, vI (bs.length : Int)]) C (xExtOK σ b) [] (s_coder l hX0) sc_coder hO rfl rfl ⟨Nat.le_of_ble_eq_true rfl, Nat.le_of_ble_eq_true rfl⟩ (Nat.le_of_ble_eq_true rfl) rfl rfl dJ0_length_8abf5_6 ?_
  refine r_ishr (pc := 9) C dJ0_length_8abf5_9 ?_
  have e0 : shr32 (bs.length : Int) 0 = w32 (bs.length : Int) := by
    show (Int32.ofInt _ >>> (Int32.ofInt 0 &&& 31)).toInt = _
    rw [show (Int32.ofInt 0 &&& 31) = 0 from by decide +kernel, show ∀ x : Int32, x >>> 0 = x from fun x => by simpa using sb_shr0 x]
    rfl
  rw [e0, w32_eq (by omega) (by omega)]
  exact r_iret (pc := 10) C hr rfl rfl dJ0_length_8abf5_10
set_option maxRecDepth 20000 in
theorem s_charAt (l : Launch) {v a : Nat} {bs : List Int} (hX0 : ∀ b U, xExt σ b U → SX (AW b xN) a v bs U) (hb : ∀ x ∈ bs, 0 ≤ x ∧ x < 128) (hL : bs.length ≤ 1000000) {i : Int} (h : 0 ≤ i ∧ i < (bs.length : Int)) : Ct l yJ0_charAt_5068e cJ0_charAt_5068e 2 (some .char) 4 90 vwCl xSh xN xRf (xExt σ) (fun b => [.ref a, vI i]) M (fun b => some (vI (bs.getD i.toNat 0))) M := by
  refine Ct_of (xExtOK σ) (by decide) (fun b => Nat.le_of_ble_eq_true rfl) ?_
  intro p e s m args below meth c D E b C hr
  have hX := ext_now C
  refine (show WX p l e (mkR 4 90) s m args below meth c 2 D E vwCl xSh b xN xRf (MQ below (QQ D vwCl E xSh b xN xRf (some (vI (bs.getD i.toNat 0))) M) args s 0 0 (AW b xN)) M 0 [(0, .ref a), (1, vI i)] [] from ?_)
  obtain ⟨hO, hc, hv, hT⟩ := hX0 b s hX
  refine r_aloadV_n (pc := 0) C 0 rfl rfl dJ0_charAt_5068e_0 ?_
  refine r_callVS (pc := 1) (rest := []) (st1 := [vI 1]) C (xExtOK σ b) [] (s_lat l hX0) sc_lat hO rfl rfl ⟨Nat.le_of_ble_eq_true rfl, Nat.le_of_ble_eq_true rfl⟩ (Nat.le_of_ble_eq_true rfl) rfl rfl dJ0_charAt_5068e_1 ?_
  refine r_if_eq (pc := 4) (tgt := 16) (α := Unit) (f := none) (g := some ()) (r := ()) C (if_neg (by decide)) dJ0_charAt_5068e_4 (by decide) (fun _ z => nomatch z) (fun _ _ => ?_)
  refine r_aloadV_n (pc := 7) C 0 rfl rfl dJ0_charAt_5068e_7 ?_
  refine r_getfS (pc := 8) C hv sl_value dJ0_charAt_5068e_8 ?_
  refine r_iload_n (pc := 11) C 1 rfl rfl dJ0_charAt_5068e_11 ?_
  refine r_callS (pc := 12) (rest := []) (st1 := [vI (bs.getD i.toNat 0)]) C (xExtOK σ b) [.ref v, vI i] (s_lcat l hX0 hb hL h) sc_lcat rfl rfl ⟨Nat.le_of_ble_eq_true rfl, Nat.le_of_ble_eq_true rfl⟩ (Nat.le_of_ble_eq_true rfl) rfl rfl dJ0_charAt_5068e_12 ?_
  have hlt : i.toNat < bs.length := by omega
  have hx : 0 ≤ bs.getD i.toNat 0 ∧ bs.getD i.toNat 0 < 128 := by
    rw [List.getD_eq_getElem?_getD, List.getElem?_eq_getElem hlt]
    exact hb _ (List.getElem_mem hlt)
  generalize bs.getD i.toNat 0 = x at hx ⊢
  obtain ⟨k, rfl⟩ : ∃ k : Nat, x = (k : Int) := ⟨x.toNat, by omega⟩
  exact r_gret (pc := 15) C hr (s_c2 k (by omega)) rfl rfl dJ0_charAt_5068e_15
theorem x_tr0 {b : Nat} {U : State} (h : xExt σ b U) : vk_R "ThrownVoices$Word" 11 "voice personwants picks mixes hush  strokepitch calm  at    long  tone  waits minuteload  busy  if    or    and   not   all   min   max   " (σ 0) U := h.2.1
theorem x_tx0 (b : Nat) (U : State) (h : xExt σ b U) : SX (AW b xN) (σ 0) (σ 1) xT0 U := h.2.2.1
theorem x_tb0 : ∀ x ∈ xT0, 0 ≤ x ∧ x < 128 := by decide +kernel
theorem x_tr1 {b : Nat} {U : State} (h : xExt σ b U) : vk_R "ThrownVoices$Tokens" 65 ";()[],+-*/%<>=" (σ 2) U := h.2.2.2.1
theorem x_tx1 (b : Nat) (U : State) (h : xExt σ b U) : SX (AW b xN) (σ 2) (σ 3) xT1 U := h.2.2.2.2
theorem x_tb1 : ∀ x ∈ xT1, 0 ≤ x ∧ x < 128 := by decide +kernel
end STRS
abbrev xCX (σ : Nat → Nat) (p : Program) (s : State) (m : MethodId) (args : Array Value) (meth : Method) (c : Code) (cc : ByteArray) (nL : Nat) (own : String) (D : va_G) (E : Nat → ClassId) (b : Nat) : Prop := CX p s m args meth c cc nL own D E vwCl (xExt σ b) (AW b xN)
