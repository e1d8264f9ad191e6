/-! HOLES: an object's references in the order in which its constructor writes them -/
def HO (n : Nat) (A : List Nat) (h0 : List (Nat × Nat)) : List (Nat × Nat) := A.map (fun j => (n, j)) ++ h0
theorem ho_cong {Rf : Nat → Nat → Nat} {n : Nat} {A : List Nat} {h0 : List (Nat × Nat)} : ∀ k, k < n → Rfh Rf (HO n A h0) k = Rfh Rf h0 k := by
  intro k hk
  funext j
  unfold Rfh HO
  have : (k, j) ∉ A.map (fun j => (n, j)) := by
    intro h
    obtain ⟨i, -, hi⟩ := List.mem_map.mp h
    have : n = k := congrArg Prod.fst hi
    omega
  simp [List.mem_append, this]
theorem ho_zero {Rf : Nat → Nat → Nat} {n : Nat} {A : List Nat} {h0 : List (Nat × Nat)} (h : ∀ j, j ∉ A → Rf n j = 0) : ∀ j, Rfh Rf (HO n A h0) n j = 0 := by
  intro j
  unfold Rfh
  by_cases hj : (n, j) ∈ HO n A h0
  · rw [if_pos hj]
  · rw [if_neg hj]
    apply h
    intro q
    exact hj (List.mem_append_left _ (List.mem_map.mpr ⟨j, q, rfl⟩))
theorem ho_nin {n j : Nat} {A : List Nat} {h0 : List (Nat × Nat)} (h : j ∉ A) (hh : ∀ q ∈ h0, q.1 < n) : (n, j) ∉ HO n A h0 := by
  intro q
  rcases List.mem_append.mp q with q | q
  · obtain ⟨i, hi, e⟩ := List.mem_map.mp q
    have : i = j := congrArg Prod.snd e
    exact h (this ▸ hi)
  · have := hh _ q
    exact absurd this (Nat.lt_irrefl _)
theorem ho_lt {n m : Nat} {A : List Nat} {h0 : List (Nat × Nat)} (hh : ∀ q ∈ h0, q.1 < n) (hm : n < m) : ∀ q ∈ HO n A h0, q.1 < m := by
  intro q hq
  rcases List.mem_append.mp hq with z | z
  · obtain ⟨i, -, e⟩ := List.mem_map.mp z
    have : q.1 = n := by rw [← e]
    omega
  · exact Nat.lt_trans (hh q z) hm
theorem ho_le {n m : Nat} {h0 : List (Nat × Nat)} (hh : ∀ q ∈ h0, q.1 < n) (hm : n ≤ m) : ∀ q ∈ h0, q.1 < m := fun q hq => Nat.lt_of_lt_of_le (hh q hq) hm
theorem up_z {M : Mem} {N N1 a i : Nat} {v : Int} (h : ∀ k, N ≤ k → ∀ j, M k j = 0) (hN : N ≤ N1) (ha : a < N1) : ∀ k, N1 ≤ k → ∀ j, upM M a i v k j = 0 := by
  intro k hk j
  unfold upM
  rw [if_neg (fun q => by omega)]
  exact h k (Nat.le_trans hN hk) j
theorem ho_swap {n k j : Nat} {A B : List Nat} {h0 : List (Nat × Nat)} (q : Nat × Nat) : q ∈ HO n A (HO k (j :: B) h0) ↔ q ∈ (k, j) :: HO n A (HO k B h0) := by
  unfold HO
  simp only [List.map_cons, List.mem_append, List.mem_cons, List.cons_append]
  by_cases h1 : q ∈ A.map (fun j => (n, j)) <;> by_cases h2 : q = (k, j) <;> by_cases h3 : q ∈ B.map (fun j => (k, j)) <;> by_cases h4 : q ∈ h0 <;> simp only [h1, h2, h3, h4, or_true, true_or, or_false, false_or]
section NHOL
variable {p : Program} {l : Launch} {e : Env} {R : Room} {s : State} {m : MethodId} {args : Array Value} {below : List Frame} {meth : Method} {c : Code} {cc : ByteArray} {nL : Nat} {own : String} {D : va_G} {E : Nat → ClassId} {cl : List vw_C} {sh : Shp} {b n ce sl : Nat} {Rf : Nat → Nat → Nat} {Q : State → Prop} {Ext : State → Prop} {M : Mem} {pc : Nat} {lv : List (Nat × Value)} {rest : List Value} {h0 : List (Nat × Nat)}
theorem n_newH (A : List Nat) (C : CX p s m args meth c cc nL own D E cl Ext (fun q => b ≤ q)) {idx ci N : Nat} {kds : List Nat} (hn : NL cl own idx ci kds N) (hs : sh n = (ci + 4, kds)) (hA : ∀ j, j ∉ A → Rf n j = 0) (hm : ∀ j, M n j = 0) (hsz : s.heap.size + ce = b + n ∧ b ≤ s.heap.size) (hce : ce + 1 ≤ R.cells) (hsl : sl + N ≤ R.slots) (d : decode cc pc = .ok (.new idx, 3))
    (kk : WN p l e R s m args below meth c nL D E cl sh b Q (n + 1) (Rfh Rf (HO n A h0)) M (ce + 1) (sl + N) (pc + 3) lv (vR b n :: rest)) : WN p l e R s m args below meth c nL D E cl sh b Q n (Rfh Rf h0) M ce sl pc lv rest :=
  n_cong (fun k hk => ⟨ho_cong k hk, rfl⟩) (n_new C hn hs (ho_zero hA) hm hsz hce hsl d kk)
theorem n_anewH (A : List Nat) (C : CX p s m args meth c cc nL own D E cl Ext (fun q => b ≤ q)) {idx L t : Nat} {cn : String} (hcl : Cond.classLink own idx cn ∈ gws) (hov : (Cond.arrayOver (.object cn)).before args s = true) (ht : ∀ E, (tysOf E)[t]? = some (E t, .object cn)) (hs : sh n = (3, [L, t])) (hA : ∀ j, j ∉ A → Rf n j = 0) (hL : L ≤ 60000000) {x : Int} (hx : x = (L : Int)) (hsz : s.heap.size + ce = b + n ∧ b ≤ s.heap.size) (hce : ce + 1 ≤ R.cells) (hsl : sl + L ≤ R.slots) (d : decode cc pc = .ok (.anewarray idx, 3))
    (kk : WN p l e R s m args below meth c nL D E cl sh b Q (n + 1) (Rfh Rf (HO n A h0)) M (ce + 1) (sl + L) (pc + 3) lv (vR b n :: rest)) : WN p l e R s m args below meth c nL D E cl sh b Q n (Rfh Rf h0) M ce sl pc lv (vI x :: rest) :=
  n_cong (fun k hk => ⟨ho_cong k hk, rfl⟩) (n_anew C hcl hov ht hs (ho_zero hA) hL hx hsz hce hsl d kk)
end NHOL
