/-! COMBINATORS of the functions that a program writes, and the rows that go with them -/
def lt {α β : Type} (x : α) (f : α → β) : β := f x
def chk {α : Type} (c : Prop) [Decidable c] (k : Option α) : Option α := if c then k else none
def bnd {α β : Type} (x : Option α) (f : α → Option β) : Option β := match x with
  | some a => f a
  | none => none
def bnd2 {α β γ : Type} (x : Option (α × β)) (f : α → β → Option γ) : Option γ := match x with
  | some a => f a.1 a.2
  | none => none
def itr1 {A r : Type} (f : (A → Option r) → A → Option r) : Nat → A → Option r
  | 0, _ => none
  | n + 1, a => f (itr1 f n) a
def itr2 {A B r : Type} (f : (A → B → Option r) → A → B → Option r) : Nat → A → B → Option r
  | 0, _, _ => none
  | n + 1, a, b => f (itr2 f n) a b
def itr3 {A B C r : Type} (f : (A → B → C → Option r) → A → B → C → Option r) : Nat → A → B → C → Option r
  | 0, _, _, _ => none
  | n + 1, a, b, c => f (itr3 f n) a b c
def itr4 {A B C D r : Type} (f : (A → B → C → D → Option r) → A → B → C → D → Option r) : Nat → A → B → C → D → Option r
  | 0, _, _, _, _ => none
  | n + 1, a, b, c, d => f (itr4 f n) a b c d
def itr5 {A B C D E r : Type} (f : (A → B → C → D → E → Option r) → A → B → C → D → E → Option r) : Nat → A → B → C → D → E → Option r
  | 0, _, _, _, _, _ => none
  | n + 1, a, b, c, d, e => f (itr5 f n) a b c d e
def FUEL : Nat := 1000000
theorem lt_inv {α β : Type} {x : α} {f : α → β} {r : β} (h : lt x f = r) : ∃ y, y = x ∧ f y = r := ⟨x, rfl, h⟩
theorem chk_inv {α : Type} {c : Prop} [Decidable c] {k : Option α} {r : α} (h : chk c k = some r) : c ∧ k = some r := by
  unfold chk at h
  by_cases hc : c
  · rw [if_pos hc] at h; exact ⟨hc, h⟩
  · rw [if_neg hc] at h; cases h
theorem bnd_inv {α β : Type} {x : Option α} {f : α → Option β} {r : β} (h : bnd x f = some r) : ∃ a, x = some a ∧ f a = some r := by
  cases x with
  | none => cases h
  | some a => exact ⟨a, rfl, h⟩
theorem bnd2_inv {α β γ : Type} {x : Option (α × β)} {f : α → β → Option γ} {r : γ} (h : bnd2 x f = some r) : ∃ a b, x = some (a, b) ∧ f a b = some r := by
  cases x with
  | none => cases h
  | some a => exact ⟨a.1, a.2, rfl, h⟩
theorem itr_z {α : Type} {q : α} {P : Prop} (h : (none : Option α) = some q) : P := nomatch h
theorem ite_split {α : Type} {c : Prop} [Decidable c] {x y : Option α} {r : α} {P : Prop} (h : (if c then x else y) = some r) (a : c → x = some r → P) (b : ¬ c → y = some r → P) : P := by
  by_cases hc : c
  · rw [if_pos hc] at h; exact a hc h
  · rw [if_neg hc] at h; exact b hc h
theorem b2i01 (r : Bool) : b2i r = 0 ∨ b2i r = 1 := by cases r <;> decide
theorem b2i_dec {x : Int} (h : x = 0 ∨ x = 1) : b2i (decide (x = 1)) = x := by
  rcases h with rfl | rfl <;> decide
theorem gw {w : Cond} (i : Nat) (h : lw_tbl[i]? = some w) (hg : goodWord w = true) : w ∈ gws := List.mem_filter.mpr ⟨List.mem_of_getElem? h, hg⟩
/-- a code word: its bytes compared as lists (the equality of ByteArray by decide is quadratic in the kernel: 619 bytes want some GB) -/
def codeWord (i : Nat) (y : MethodName) (c : ByteArray) (n : Nat) (r : Option FieldType) : Bool :=
  match lw_tbl[i]? with
  | some (Cond.code y' c' n' r') => decide (y' = y) && (c'.data.toList == c.data.toList) && decide (n' = n) && decide (r' = r)
  | _ => false
theorem gwc {y : MethodName} {c : ByteArray} {n : Nat} {r : Option FieldType} (i : Nat) (h : codeWord i y c n r = true) (hg : goodWord (Cond.code y c n r) = true) : Cond.code y c n r ∈ gws := by
  refine gw i ?_ hg
  unfold codeWord at h
  split at h
  · rename_i y' c' n' r' he
    simp only [Bool.and_eq_true, decide_eq_true_eq, beq_iff_eq] at h
    obtain ⟨⟨⟨a1, a2⟩, a3⟩, a4⟩ := h
    have a5 : c' = c := by
      cases c'; cases c
      exact congrArg ByteArray.mk (Array.toList_inj.mp a2)
    rw [he, a1, a5, a3, a4]
  · exact absurd h (by decide)
theorem gws_ps {ws : List Cond} (ps : List Nat) (hp : ws = ps.filterMap (fun i => lw_tbl[i]?)) (h : ws.all goodWord = true) : ∀ w ∈ ws, w ∈ gws := by
  intro w hw
  have h1 := List.all_eq_true.mp h w hw
  rw [hp] at hw
  obtain ⟨i, -, hi⟩ := List.mem_filterMap.mp hw
  exact gw i hi h1
section ROWS2
variable {p : Program} {l : Launch} {e : Env} {R : Room} {s : State} {m : MethodId} {args : Array Value} {below : List Frame} {meth : Method} {c : Code} {cc : ByteArray} {nL : Nat} {own : String} {D : va_G} {E : Nat → ClassId} {cl : List vw_C} {sh : Shp} {b n : Nat} {Rf : Nat → Nat → Nat} {Q : State → Prop} {Ext : State → Prop} {M : Mem} {pc : Nat} {lv : List (Nat × Value)} {rest : List Value}
theorem r_topI {x y : Int} (h : y = x) (k : WX p l e R s m args below meth c nL D E cl sh b n Rf Q M pc lv (vI y :: rest)) : WX p l e R s m args below meth c nL D E cl sh b n Rf Q M pc lv (vI x :: rest) := h ▸ k
theorem r_topL {x y : Int} (h : y = x) (k : WX p l e R s m args below meth c nL D E cl sh b n Rf Q M pc lv (vL y :: rest)) : WX p l e R s m args below meth c nL D E cl sh b n Rf Q M pc lv (vL x :: rest) := h ▸ k
theorem r_iincN (C : CX p s m args meth c cc nL own D E cl Ext (AW b n)) {i : Nat} {q x y : Int} (t : Nat) (hk : lv[t]? = some (i, vI x)) {lv' : List (Nat × Value)} (hy : y = x + q) (d : decode cc pc = .ok (.iinc i q, 3)) (hn : i < nL) (hv : (i, vI y) :: lv.filter (fun q => !(q.1 == i) && !(q.1 + 1 == i && q.2.category == 2)) = lv')
    (k : WX p l e R s m args below meth c nL D E cl sh b n Rf Q M (pc + 3) lv' rest) : WX p l e R s m args below meth c nL D E cl sh b n Rf Q M pc lv rest := by
  subst hy
  exact r_iinc C t hk d hn hv k
theorem r_tabI (C : CX p s m args meth c cc nL own D E cl Ext (AW b n)) {x i : Int} {dflt lo hi off : Int} {offs : Array Int} {len tgt : Nat} (hx : w32 x = i) (h1 : lo ≤ i) (h2 : i ≤ hi) (ho : offs[(i - lo).toNat]? = some off) (d : decode cc pc = .ok (.tableswitch dflt lo hi offs, len)) (ht : (pc : Int) + off = (tgt : Int))
    (k : WX p l e R s m args below meth c nL D E cl sh b n Rf Q M tgt lv rest) : WX p l e R s m args below meth c nL D E cl sh b n Rf Q M pc lv (vI x :: rest) := by
  intro H locs ls hP hS hl
  subst hx
  exact lv_tableIn C.1 C.2.1 d (by show ¬ w32 x < lo; omega) (by show ¬ hi < w32 x; omega) ho ht (k H locs ls hP hS hl)
theorem r_tabO (C : CX p s m args meth c cc nL own D E cl Ext (AW b n)) {x : Int} {dflt lo hi : Int} {offs : Array Int} {len tgt : Nat} (hx : w32 x < lo ∨ hi < w32 x) (d : decode cc pc = .ok (.tableswitch dflt lo hi offs, len)) (ht : (pc : Int) + dflt = (tgt : Int))
    (k : WX p l e R s m args below meth c nL D E cl sh b n Rf Q M tgt lv rest) : WX p l e R s m args below meth c nL D E cl sh b n Rf Q M pc lv (vI x :: rest) := by
  intro H locs ls hP hS hl
  exact lv_tableOut C.1 C.2.1 d hx ht (k H locs ls hP hS hl)
theorem r_ifnonnull (C : CX p s m args meth c cc nL own D E cl Ext (AW b n)) {k : Nat} {off : Int} {tgt : Nat} (d : decode cc pc = .ok (.ifnonnull off, 3)) (ht : (pc : Int) + off = (tgt : Int))
    (kk : WX p l e R s m args below meth c nL D E cl sh b n Rf Q M tgt lv rest) : WX p l e R s m args below meth c nL D E cl sh b n Rf Q M pc lv (vR b k :: rest) := by
  intro H locs ls hP hS hl
  exact lv_ifnonnull C.1 C.2.1 d ht (kk H locs ls hP hS hl)
end ROWS2
