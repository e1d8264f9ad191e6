/-! new int[N][K] -/
section NMULTI
variable {p : Program} {l : Launch} {e : Env} {R : Room} {s : State} {m : MethodId} {args : Array Value} {below : List Frame} {meth : Method} {c : Code} {cc : ByteArray} {nL : Nat} {own : String} {D : va_G} {E : Nat → ClassId} {cl : List vw_C} {sh : Shp} {b n ce sl : Nat} {Rf : Nat → Nat → Nat} {Q : State → Prop} {Ext : State → Prop} {M : Mem} {pc : Nat} {lv : List (Nat × Value)} {rest : List Value} {h0 : List (Nat × Nat)}
theorem n_mna (C : CX p s m args meth c cc nL own D E cl Ext (fun q => b ≤ q)) {idx N K : Nat} (hcl : Cond.classLink own idx ("[" ++ (FieldType.array .int).toString) ∈ gws) (hov : (Cond.arrayOver (.array .int)).before args s = true) (har : Cond.arrayClass .int ∈ gws) (hs : sh n = (3, [N, 3])) (hrow : ∀ i, i < N → sh (n + 1 + i) = (0, [K])) (hr : ∀ i, i < N → Rf n i = (n + 1 + i) + 1) (hh : ∀ q ∈ h0, q.1 < n) (hm : ∀ k, n ≤ k → ∀ j, M k j = 0) (hN : N ≤ 100000) (hK : K ≤ 100000) {x y : Int} (hx : x = (N : Int)) (hy : y = (K : Int)) (hsz : s.heap.size + ce = b + n ∧ b ≤ s.heap.size) (hce : ce + (1 + N) ≤ R.cells) (hsl : sl + (N + N * K) ≤ R.slots) (d : decode cc pc = .ok (.multianewarray idx 2, 4))
    (kk : WN p l e R s m args below meth c nL D E cl sh b Q (n + 1 + N) (Rfh Rf h0) M (ce + 1 + N) (sl + N + N * K) (pc + 4) lv (vR b n :: rest)) : WN p l e R s m args below meth c nL D E cl sh b Q n (Rfh Rf h0) M ce sl pc lv (vI y :: vI x :: rest) := by
  intro H locs ls hP hS hl
  subst hx; subst hy
  have ok : ∀ w ∈ gws, w.before args s = true := C.2.2.2.2.1
  have nat32 : ∀ k : Nat, k ≤ 100000 → (Int32.ofInt (k : Int)).toNatClampNeg = k ∧ ¬ Int32.ofInt (k : Int) < 0 := by
    intro k hk
    have ex : (Int32.ofInt (k : Int)).toInt = (k : Int) := w32_eq (by omega) (by omega)
    refine ⟨by unfold Int32.toNatClampNeg; rw [ex]; omega, ?_⟩
    rw [I_lt0]
    show ¬ (Int32.ofInt (k : Int)).toInt < 0
    rw [ex]
    omega
  obtain ⟨eN, nN⟩ := nat32 N hN
  obtain ⟨eK, nK⟩ := nat32 K hK
  refine w_size hP hS hsz (fun hz => ?_)
  intro T hT Xs
  obtain ⟨vm₁, cA, comp, -, fA, fC, -, -, X', step⟩ := Jvm.Stand.multianewarray2F (ty := .int) Xs C.1 C.2.2.2.1 (ok _ hcl) hov (ok _ har) (g := F0 m pc ls (vI (K : Int) :: vI (N : Int) :: rest)) rfl (by rw [C.2.1]; exact d) rfl nN nK (by rw [eN]; omega) (by rw [eK]; show K * 4 ≤ _; omega) (by rw [eK]; omega) rfl rfl (by rw [eN]; exact hce) (by rw [eN, eK]; exact hsl)
  rw [eN, eK] at X' step
  have ecA : cA = E 3 := by
    have q := (C.2.2.2.2.2.1.2 3 _ (show (tysOf E)[3]? = some (E 3, .array .int) from rfl)).2
    exact Option.some.inj (fA.symm.trans q)
  have ecO : comp = E 0 := by
    have q := (C.2.2.2.2.2.1.2 0 _ (show (tysOf E)[0]? = some (E 0, .int) from rfl)).2
    exact Option.some.inj (fC.symm.trans q)
  subst ecA; subst ecO
  generalize hF : Jvm.Free.Multi.fill (T.setVm vm₁) (E 3) (E 0) N K (defaultValue .int) N = F at X' step
  have hTh : (T.setVm vm₁).heap = H := hT
  obtain ⟨f1, f2, -, -⟩ := Jvm.Free.Multi.fill_facts (T.setVm vm₁) (E 3) (E 0) N K (defaultValue .int) N
  rw [hF, hTh] at f1 f2
  have hold : ∀ x : Nat, x < H.size → F.heap[x]? = H[x]? := fun x hx => by
    have := Jvm.Free.Multi.fill_old (T.setVm vm₁) (E 3) (E 0) N K (defaultValue .int) (a := x) (by rw [hTh]; exact hx) N
    rw [hF, hTh] at this
    exact this
  have hrow2 : ∀ j : Nat, j < N → F.heap[H.size + 1 + j]? = some (Jvm.Free.Multi.innerC (E 0) K (defaultValue .int)) := fun j hj => by
    have := Jvm.Free.Multi.fill_inner (T.setVm vm₁) (E 3) (E 0) N K (defaultValue .int) N j hj
    rw [hF, hTh] at this
    exact this
  have outer : ∀ i : Nat, Jvm.Free.Multi.outerC (E 3) N H.size i = arrV (E 3) N (fun j => va_rf (if j < i then some (H.size + 1 + j) else none)) := by
    intro i
    induction i with
    | zero =>
      show ({ cls := E 3, slots := Array.replicate N .null, vm := .none } : Cell) = _
      rw [arrV_new]
      refine congrArg (arrV (E 3) N) (funext fun j => ?_)
      simp [va_rf]
    | succ i ih =>
      show (Jvm.Free.Multi.outerC (E 3) N H.size i).setSlot i (.ref (H.size + 1 + i)) = _
      rw [ih, arrV_store]
      refine congrArg (arrV (E 3) N) (funext fun j => ?_)
      by_cases e : j = i
      · subst e
        simp [updV, va_rf]
      · by_cases h : j < i
        · simp [updV, e, h, Nat.lt_succ_of_lt h]
        · simp [updV, e, h, show ¬ j < i + 1 by omega]
  have hPn : va_P D cl (Wd E sh b (n + 1 + N) (Rfh Rf h0) M) F.heap := by
    intro k q hq
    have hk : k < n + 1 + N := by
      by_cases h : k < n + 1 + N
      · exact h
      · simp [Wd, h] at hq
    rw [Wd_at hk] at hq
    cases hq
    show va_at D cl (b + k, _) F.heap
    by_cases h1 : k < n
    · exact (hP k _ (Wd_at h1)).kept (hold _ (by show b + k < H.size; omega))
    · by_cases h2 : k = n
      · subst h2
        rw [hs, cellE_refs]
        show F.heap[b + k]? = some (arrV (E 3) N (fun j => va_rf (rO b (Rfh Rf h0 k j))))
        rw [← hz, f2, outer]
        refine congrArg some ?_
        unfold arrV
        congr 1
        apply Array.ext
        · simp
        intro j hj0 _
        have hj : j < N := by simpa using hj0
        simp only [Array.getElem_ofFn]
        rw [if_pos hj]
        have hnh : (k, j) ∉ h0 := fun z => absurd (hh _ z) (Nat.lt_irrefl _)
        unfold Rfh
        rw [if_neg hnh, hr j hj]
        show Value.ref (H.size + 1 + j) = Value.ref (b + (k + 1 + j))
        rw [hz]
        exact congrArg Value.ref (show (b + k + 1 + j : Nat) = b + (k + 1 + j) by omega)
      · obtain ⟨i, rfl⟩ : ∃ i, k = n + 1 + i := ⟨k - n - 1, by omega⟩
        have hi : i < N := by omega
        rw [hrow i hi, cellE_int]
        show F.heap[b + (n + 1 + i)]? = some (arrV (E 0) K (fun j => vI (M (n + 1 + i) j)))
        rw [show b + (n + 1 + i) = H.size + 1 + i by omega, hrow2 i hi]
        refine congrArg some ?_
        show ({ cls := E 0, slots := Array.replicate K (defaultValue .int), vm := .none } : Cell) = _
        rw [arrV_new]
        refine congrArg (arrV (E 0) K) (funext fun j => ?_)
        rw [hm _ (by omega)]
        rfl
  obtain ⟨t, a1, b1⟩ := kk F.heap locs ls hPn ⟨by rw [f1]; have := hS.1; omega, fun x h1 h2 => (hold x (Nat.lt_of_lt_of_le h1 hS.1)).trans (hS.2.1 x h1 h2), hS.2.2⟩ hl F rfl X'
  refine ⟨t, step t ?_, b1⟩
  have e : T.heap.size = b + n := by rw [hT]; exact hz
  rw [e]
  exact a1
end NMULTI
