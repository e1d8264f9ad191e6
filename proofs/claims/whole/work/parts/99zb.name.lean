/-! THE PURE PART: town: names -/
def TDn (inb nv np ns : Nat) (X M : Mem) : Prop :=
  (X 4 0 = (nv : Int) ∧ X 4 1 = (np : Int) ∧ X 4 2 = (ns : Int) ∧ nv ≤ 7 ∧ np ≤ 8 ∧ ns ≤ 12) ∧ (M 0 31 = (inb : Int) ∧ inb < 2 ∧ M 2 inb = (nv : Int) ∧ M 4 inb = (np : Int) ∧ M 7 inb = (ns : Int)) ∧ (M 11 inb = X 4 3 ∧ 0 ≤ X 4 3 ∧ X 4 3 ≤ 100) ∧
  (∀ k, k < nv → NameEq (X 5 k) (M 16 (7 * inb + k)) ∧ M 3 (7 * inb + k) = X 6 k ∧ 0 ≤ X 6 k ∧ X 6 k ≤ 9) ∧
  (∀ k, k < np → NameEq (X 7 k) (M 17 (8 * inb + k)) ∧ M 5 (8 * inb + k) = X 8 k ∧ 0 ≤ X 8 k ∧ X 8 k ≤ 9 ∧ M 6 (8 * inb + k) = X 9 k ∧ 0 ≤ X 9 k ∧ X 9 k ≤ 99) ∧
  (∀ s, s < ns → M 8 (12 * inb + s) = X 10 s ∧ 0 ≤ X 10 s ∧ X 10 s < (np : Int) ∧ M 9 (12 * inb + s) = X 11 s ∧ 0 ≤ X 11 s ∧ X 11 s ≤ 999 ∧ M 10 (12 * inb + s) = X 12 s ∧ 1 ≤ X 12 s ∧ X 12 s ≤ 20)
theorem TDn_of {inb nv np ns : Nat} {X M X1 M1 : Mem} (h : TDn inb nv np ns X M) (hx : ∀ a, 4 ≤ a → a ≤ 12 → X1 a = X a) (h31 : M1 0 31 = M 0 31) (hm : ∀ a, 2 ≤ a → a ≤ 11 → M1 a = M a) (h16 : M1 16 = M 16) (h17 : M1 17 = M 17) : TDn inb nv np ns X1 M1 := by
  unfold TDn at h ⊢
  rw [hx 4 (by omega) (by omega), hx 5 (by omega) (by omega), hx 6 (by omega) (by omega), hx 7 (by omega) (by omega), hx 8 (by omega) (by omega), hx 9 (by omega) (by omega), hx 10 (by omega) (by omega), hx 11 (by omega) (by omega), hx 12 (by omega) (by omega), h31, hm 2 (by omega) (by omega), hm 3 (by omega) (by omega), hm 4 (by omega) (by omega), hm 5 (by omega) (by omega), hm 6 (by omega) (by omega), hm 7 (by omega) (by omega), hm 8 (by omega) (by omega), hm 9 (by omega) (by omega), hm 10 (by omega) (by omega), hm 11 (by omega) (by omega), h16, h17]
  exact h
section NAMES
variable {C : Mem} {cnt inb j nv np ns : Nat} {X M : Mem}
theorem x_vo {name : Int} (h0 : X 4 0 = (nv : Int)) (hn : nv ≤ 7) (hr : ∀ k, k < nv → 0 ≤ X 5 k ∧ X 5 k < 2147483648) (ha : 0 ≤ name ∧ name < 2147483648) : x_Town_voiceOf 4 name X = some (fsI (fun k => decide (X 5 k = name)) nv 0) := by
  have loop : ∀ d k N, nv - k = d → k ≤ nv → d < N → itr1 (x_Town_voiceOf_L2 4 name X) N (k : Int) = (if fsI (fun k => decide (X 5 k = name)) d k = -1 then some (.inr (nv : Int)) else some (.inl (fsI (fun k => decide (X 5 k = name)) d k))) := by
    intro d
    induction d with
    | zero =>
      intro k N h1 h2 h3
      obtain ⟨G, rfl⟩ : ∃ G, N = G + 1 := ⟨N - 1, by omega⟩
      have : k = nv := by omega
      subst this
      show x_Town_voiceOf_L2 4 name X (itr1 (x_Town_voiceOf_L2 4 name X) G) (k : Int) = _
      unfold x_Town_voiceOf_L2
      rw [h0, w32_eq (x := (k : Int)) (by omega) (by omega), if_pos (by omega)]
      rfl
    | succ d ih =>
      intro k N h1 h2 h3
      obtain ⟨G, rfl⟩ : ∃ G, N = G + 1 := ⟨N - 1, by omega⟩
      have hk := hr k (by omega)
      have ihk := ih (k + 1) G (by omega) (by omega) (by omega)
      obtain ⟨rec, hrec⟩ : ∃ r, r = itr1 (x_Town_voiceOf_L2 4 name X) G := ⟨_, rfl⟩
      show x_Town_voiceOf_L2 4 name X (itr1 (x_Town_voiceOf_L2 4 name X) G) (k : Int) = _
      rw [← hrec] at ihk ⊢
      unfold x_Town_voiceOf_L2 chk
      dsimp only [lt]
      rw [h0, w32_eq (x := (nv : Int)) (by omega) (by omega), w32_eq (x := (k : Int)) (by omega) (by omega), w32_eq (x := (7 : Int)) (by omega) (by omega), if_neg (by omega), if_neg (by omega), if_pos (by omega), Int.toNat_natCast, w32_eq (x := X (4 + 1) k) (by show -2147483648 ≤ X 5 k; omega) (by show X 5 k < _; omega), w32_eq (x := name) (by omega) (by omega)]
      by_cases e : X 5 k = name
      · have : fsI (fun k => decide (X 5 k = name)) (d + 1) k = (k : Int) := by show (if decide (X 5 k = name) = true then (k : Int) else _) = _; rw [ifd, if_pos e]
        rw [if_neg (fun q => q e), this, if_neg (by omega)]
      · have : fsI (fun k => decide (X 5 k = name)) (d + 1) k = fsI (fun k => decide (X 5 k = name)) d (k + 1) := by show (if decide (X 5 k = name) = true then (k : Int) else _) = _; rw [ifd, if_neg e]
        rw [if_pos e, this, show (k : Int) + 1 = ((k + 1 : Nat) : Int) by omega]
        exact ihk
  have l0 := loop nv 0 FUEL (by omega) (by omega) (by unfold FUEL; omega)
  unfold x_Town_voiceOf
  rw [show (0 : Int) = ((0 : Nat) : Int) from rfl, l0]
  by_cases e : fsI (fun k => decide (X 5 k = name)) nv 0 = -1
  · rw [if_pos e, bnd_some, e]
  · rw [if_neg e, bnd_some]
theorem x_po {name : Int} (h0 : X 4 1 = (np : Int)) (hn : np ≤ 8) (hr : ∀ k, k < np → 0 ≤ X 7 k ∧ X 7 k < 2147483648) (ha : 0 ≤ name ∧ name < 2147483648) : x_Town_personOf 4 name X = some (fsI (fun k => decide (X 7 k = name)) np 0) := by
  have loop : ∀ d k N, np - k = d → k ≤ np → d < N → itr1 (x_Town_personOf_L2 4 name X) N (k : Int) = (if fsI (fun k => decide (X 7 k = name)) d k = -1 then some (.inr (np : Int)) else some (.inl (fsI (fun k => decide (X 7 k = name)) d k))) := by
    intro d
    induction d with
    | zero =>
      intro k N h1 h2 h3
      obtain ⟨G, rfl⟩ : ∃ G, N = G + 1 := ⟨N - 1, by omega⟩
      have : k = np := by omega
      subst this
      show x_Town_personOf_L2 4 name X (itr1 (x_Town_personOf_L2 4 name X) G) (k : Int) = _
      unfold x_Town_personOf_L2
      rw [h0, w32_eq (x := (k : Int)) (by omega) (by omega), if_pos (by omega)]
      rfl
    | succ d ih =>
      intro k N h1 h2 h3
      obtain ⟨G, rfl⟩ : ∃ G, N = G + 1 := ⟨N - 1, by omega⟩
      have hk := hr k (by omega)
      have ihk := ih (k + 1) G (by omega) (by omega) (by omega)
      obtain ⟨rec, hrec⟩ : ∃ r, r = itr1 (x_Town_personOf_L2 4 name X) G := ⟨_, rfl⟩
      show x_Town_personOf_L2 4 name X (itr1 (x_Town_personOf_L2 4 name X) G) (k : Int) = _
      rw [← hrec] at ihk ⊢
      unfold x_Town_personOf_L2 chk
      dsimp only [lt]
      rw [h0, w32_eq (x := (np : Int)) (by omega) (by omega), w32_eq (x := (k : Int)) (by omega) (by omega), w32_eq (x := (8 : Int)) (by omega) (by omega), if_neg (by omega), if_neg (by omega), if_pos (by omega), Int.toNat_natCast, w32_eq (x := X (4 + 3) k) (by show -2147483648 ≤ X 7 k; omega) (by show X 7 k < _; omega), w32_eq (x := name) (by omega) (by omega)]
      by_cases e : X 7 k = name
      · have : fsI (fun k => decide (X 7 k = name)) (d + 1) k = (k : Int) := by show (if decide (X 7 k = name) = true then (k : Int) else _) = _; rw [ifd, if_pos e]
        rw [if_neg (fun q => q e), this, if_neg (by omega)]
      · have : fsI (fun k => decide (X 7 k = name)) (d + 1) k = fsI (fun k => decide (X 7 k = name)) d (k + 1) := by show (if decide (X 7 k = name) = true then (k : Int) else _) = _; rw [ifd, if_neg e]
        rw [if_pos e, this, show (k : Int) + 1 = ((k + 1 : Nat) : Int) by omega]
        exact ihk
  have l0 := loop np 0 FUEL (by omega) (by omega) (by unfold FUEL; omega)
  unfold x_Town_personOf
  rw [show (0 : Int) = ((0 : Nat) : Int) from rfl, l0]
  by_cases e : fsI (fun k => decide (X 7 k = name)) np 0 = -1
  · rw [if_pos e, bnd_some, e]
  · rw [if_neg e, bnd_some]
theorem m_pn {wd : Int} (h31 : M 0 31 = (inb : Int)) (hin : inb < 2) (h0 : M 4 inb = (np : Int)) (hn : np ≤ 8) (hr : ∀ k, k < np → 0 ≤ M 17 (8 * inb + k) ∧ M 17 (8 * inb + k) < 281474976710656) (ha : 0 ≤ wd ∧ wd < 281474976710656) : m_personNamed wd M = some (fsI (fun k => decide (M 17 (8 * inb + k) = wd)) np 0) := by
  have loop : ∀ d k N, np - k = d → k ≤ np → d < N → itr1 (m_personNamed_L2 wd M) N (k : Int) = (if fsI (fun k => decide (M 17 (8 * inb + k) = wd)) d k = -1 then some (.inr (np : Int)) else some (.inl (fsI (fun k => decide (M 17 (8 * inb + k) = wd)) d k))) := by
    intro d
    induction d with
    | zero =>
      intro k N h1 h2 h3
      obtain ⟨G, rfl⟩ : ∃ G, N = G + 1 := ⟨N - 1, by omega⟩
      have : k = np := by omega
      subst this
      show m_personNamed_L2 wd M (itr1 (m_personNamed_L2 wd M) G) (k : Int) = _
      unfold m_personNamed_L2 chk
      rw [h31, Int.toNat_natCast, h0, if_pos (by omega), w32_eq (x := (k : Int)) (by omega) (by omega), if_pos (by omega)]
      rfl
    | succ d ih =>
      intro k N h1 h2 h3
      obtain ⟨G, rfl⟩ : ∃ G, N = G + 1 := ⟨N - 1, by omega⟩
      have hk := hr k (by omega)
      have ihk := ih (k + 1) G (by omega) (by omega) (by omega)
      obtain ⟨rec, hrec⟩ : ∃ r, r = itr1 (m_personNamed_L2 wd M) G := ⟨_, rfl⟩
      show m_personNamed_L2 wd M (itr1 (m_personNamed_L2 wd M) G) (k : Int) = _
      rw [← hrec] at ihk ⊢
      have hc : (w32 (lcmp (M 17 (8 * inb + k)) wd) = 0) ↔ M 17 (8 * inb + k) = wd := by rw [lc_eq, w64_eq (by omega) (by omega), w64_eq (by omega) (by omega)]
      unfold m_personNamed_L2 chk
      dsimp only [lt]
      rw [h31, Int.toNat_natCast, h0, tn8, if_pos (by omega), w32_eq (x := (np : Int)) (by omega) (by omega), w32_eq (x := (k : Int)) (by omega) (by omega), if_neg (by omega), if_pos (by omega)]
      by_cases e : M 17 (8 * inb + k) = wd
      · have : fsI (fun k => decide (M 17 (8 * inb + k) = wd)) (d + 1) k = (k : Int) := by show (if decide (M 17 (8 * inb + k) = wd) = true then (k : Int) else _) = _; rw [ifd, if_pos e]
        rw [if_neg (fun q => q (hc.mpr e)), this, if_neg (by omega)]
      · have : fsI (fun k => decide (M 17 (8 * inb + k) = wd)) (d + 1) k = fsI (fun k => decide (M 17 (8 * inb + k) = wd)) d (k + 1) := by show (if decide (M 17 (8 * inb + k) = wd) = true then (k : Int) else _) = _; rw [ifd, if_neg e]
        rw [if_pos (fun q => e (hc.mp q)), this, show (k : Int) + 1 = ((k + 1 : Nat) : Int) by omega]
        exact ihk
  have l0 := loop np 0 FUEL (by omega) (by omega) (by unfold FUEL; omega)
  unfold m_personNamed
  rw [show (0 : Int) = ((0 : Nat) : Int) from rfl, l0]
  by_cases e : fsI (fun k => decide (M 17 (8 * inb + k) = wd)) np 0 = -1
  · rw [if_pos e, bnd_some, e]
  · rw [if_neg e, bnd_some]
theorem m_nm {wd : Int} (h31 : M 0 31 = (inb : Int)) (hin : inb < 2) (h0 : M 2 inb = (nv : Int)) (hn : nv ≤ 7) (hr : ∀ k, k < nv → 0 ≤ M 16 (7 * inb + k) ∧ M 16 (7 * inb + k) < 281474976710656) (ha : 0 ≤ wd ∧ wd < 281474976710656) {r : Int} (hp : m_personNamed wd M = some r) (hrr : -1 ≤ r ∧ r ≤ 100) : m_isNamed wd M = some (decide (fsI (fun k => decide (M 16 (7 * inb + k) = wd)) nv 0 ≠ -1 ∨ r ≠ -1)) := by
  have loop : ∀ d k N, nv - k = d → k ≤ nv → d < N → itr1 (m_isNamed_L2 wd M) N (k : Int) = (if fsI (fun k => decide (M 16 (7 * inb + k) = wd)) d k = -1 then some (.inr (nv : Int)) else some (.inl true)) := by
    intro d
    induction d with
    | zero =>
      intro k N h1 h2 h3
      obtain ⟨G, rfl⟩ : ∃ G, N = G + 1 := ⟨N - 1, by omega⟩
      have : k = nv := by omega
      subst this
      show m_isNamed_L2 wd M (itr1 (m_isNamed_L2 wd M) G) (k : Int) = _
      unfold m_isNamed_L2 chk
      rw [h31, Int.toNat_natCast, h0, if_pos (by omega), w32_eq (x := (k : Int)) (by omega) (by omega), if_pos (by omega)]
      rfl
    | succ d ih =>
      intro k N h1 h2 h3
      obtain ⟨G, rfl⟩ : ∃ G, N = G + 1 := ⟨N - 1, by omega⟩
      have hk := hr k (by omega)
      have ihk := ih (k + 1) G (by omega) (by omega) (by omega)
      obtain ⟨rec, hrec⟩ : ∃ r, r = itr1 (m_isNamed_L2 wd M) G := ⟨_, rfl⟩
      show m_isNamed_L2 wd M (itr1 (m_isNamed_L2 wd M) G) (k : Int) = _
      rw [← hrec] at ihk ⊢
      have hc : (w32 (lcmp (M 16 (7 * inb + k)) wd) = 0) ↔ M 16 (7 * inb + k) = wd := by rw [lc_eq, w64_eq (by omega) (by omega), w64_eq (by omega) (by omega)]
      unfold m_isNamed_L2 chk
      dsimp only [lt]
      rw [h31, Int.toNat_natCast, h0, tn7, if_pos (by omega), w32_eq (x := (nv : Int)) (by omega) (by omega), w32_eq (x := (k : Int)) (by omega) (by omega), if_neg (by omega), if_pos (by omega)]
      by_cases e : M 16 (7 * inb + k) = wd
      · have : fsI (fun k => decide (M 16 (7 * inb + k) = wd)) (d + 1) k = (k : Int) := by show (if decide (M 16 (7 * inb + k) = wd) = true then (k : Int) else _) = _; rw [ifd, if_pos e]
        rw [if_neg (fun q => q (hc.mpr e)), this, if_neg (by omega)]
      · have : fsI (fun k => decide (M 16 (7 * inb + k) = wd)) (d + 1) k = fsI (fun k => decide (M 16 (7 * inb + k) = wd)) d (k + 1) := by show (if decide (M 16 (7 * inb + k) = wd) = true then (k : Int) else _) = _; rw [ifd, if_neg e]
        rw [if_pos (fun q => e (hc.mp q)), this, show (k : Int) + 1 = ((k + 1 : Nat) : Int) by omega]
        exact ihk
  have l0 := loop nv 0 FUEL (by omega) (by omega) (by unfold FUEL; omega)
  unfold m_isNamed
  rw [show (0 : Int) = ((0 : Nat) : Int) from rfl, l0]
  by_cases e : fsI (fun k => decide (M 16 (7 * inb + k) = wd)) nv 0 = -1
  · rw [if_pos e, bnd_some]
    simp only
    rw [hp, bnd_some, w32_eq (x := r) (by omega) (by omega), w32_eq (x := (-1 : Int)) (by omega) (by omega)]
    by_cases e2 : r = -1
    · rw [if_pos e2, decide_eq_false (by omega)]
    · rw [if_neg e2, decide_eq_true (Or.inr e2)]
  · rw [if_neg e, bnd_some, decide_eq_true (Or.inl e)]
/-- the class's searches end, whatever is sought -/
theorem x_vo_any {name : Int} (h0 : X 4 0 = (nv : Int)) (hn : nv ≤ 7) : ∃ r, x_Town_voiceOf 4 name X = some r := by
  have : post (itr1 (x_Town_voiceOf_L2 4 name X) FUEL 0) (fun _ => True) := by
    refine post_itr1 (fun m (a : Int) => ∃ k : Nat, a = (k : Int) ∧ k ≤ 7 ∧ m = 7 - k) _ ?_ FUEL 7 0 (fuel_lt (by omega)) ⟨0, rfl, by omega, rfl⟩
    rintro m a ⟨k, rfl, hk, rfl⟩ F ih
    unfold x_Town_voiceOf_L2
    refine post_ite (fun _ => post_some trivial) (fun _ => post_ite (fun _ => post_some trivial) (fun h7 => ?_))
    rw [w32_eq (by omega) (by omega), w32_eq (by omega) (by omega)] at h7
    refine post_chk (by omega) (post_ite (fun _ => ?_) (fun _ => post_some trivial))
    exact post_lt (ih (7 - (k + 1)) _ (by omega) ⟨k + 1, by omega, by omega, rfl⟩)
  obtain ⟨r, e, -⟩ := this
  unfold x_Town_voiceOf
  rw [e, bnd_some]
  cases r with
  | inl r => exact ⟨_, rfl⟩
  | inr r => exact ⟨_, rfl⟩
theorem x_po_any {name : Int} (h0 : X 4 1 = (np : Int)) (hn : np ≤ 8) : ∃ r, x_Town_personOf 4 name X = some r := by
  have : post (itr1 (x_Town_personOf_L2 4 name X) FUEL 0) (fun _ => True) := by
    refine post_itr1 (fun m (a : Int) => ∃ k : Nat, a = (k : Int) ∧ k ≤ 8 ∧ m = 8 - k) _ ?_ FUEL 8 0 (fuel_lt (by omega)) ⟨0, rfl, by omega, rfl⟩
    rintro m a ⟨k, rfl, hk, rfl⟩ F ih
    unfold x_Town_personOf_L2
    refine post_ite (fun _ => post_some trivial) (fun _ => post_ite (fun _ => post_some trivial) (fun h7 => ?_))
    rw [w32_eq (by omega) (by omega), w32_eq (by omega) (by omega)] at h7
    refine post_chk (by omega) (post_ite (fun _ => ?_) (fun _ => post_some trivial))
    exact post_lt (ih (8 - (k + 1)) _ (by omega) ⟨k + 1, by omega, by omega, rfl⟩)
  obtain ⟨r, e, -⟩ := this
  unfold x_Town_personOf
  rw [e, bnd_some]
  cases r with
  | inl r => exact ⟨_, rfl⟩
  | inr r => exact ⟨_, rfl⟩
theorem f_newB {v : Int} (h : FSt cnt X) (h0 : X 4 0 = (nv : Int)) (hn : nv ≤ 7) (h1 : X 4 1 = (np : Int)) (hp : np ≤ 8) (hv : x_Reader_value X = some v) : x_Reader_newName_B14 X = some (v, X) := by
  obtain ⟨r, hr⟩ := x_vo_any (name := v) h0 hn
  obtain ⟨r', hr'⟩ := x_po_any (name := v) h1 hp
  have e0 : ¬ w32 (X 3 1) = 0 := by rw [w32_eq (by have := h.1; have := h.2.1; omega) (by have := h.1; have := h.2.1; omega)]; have := h.1; omega
  unfold x_Reader_newName_B14 x_Reader_newName_B43 x_Reader_newName_B48
  rw [hv, bnd_some, hr, bnd_some, hr', bnd_some, f_refuse h, bnd_some, if_pos e0]
  split
  · rfl
  · split <;> rfl
theorem f_newName (h : FSt cnt X) (h0 : X 4 0 = (nv : Int)) (hn : nv ≤ 7) (h1 : X 4 1 = (np : Int)) (hp : np ≤ 8) : ∃ v, x_Reader_newName X = some (v, X) := by
  obtain ⟨v, hv⟩ := f_value h
  refine ⟨v, ?_⟩
  unfold x_Reader_newName
  rw [f_at h, bnd_some, if_neg (by decide), f_refuse h, bnd_some, f_newB h h0 hn h1 hp hv]
theorem f_perB {v : Int} (h : FSt cnt X) (h1 : X 4 1 = (np : Int)) (hp : np ≤ 8) (hv : x_Reader_value X = some v) : ∃ r, x_Reader_personName_B14 X = some (r, X) := by
  obtain ⟨r', hr'⟩ := x_po_any (name := v) h1 hp
  have e0 : ¬ w32 (X 3 1) = 0 := by rw [w32_eq (by have := h.1; have := h.2.1; omega) (by have := h.1; have := h.2.1; omega)]; have := h.1; omega
  refine ⟨r', ?_⟩
  unfold x_Reader_personName_B14 x_Reader_personName_B36
  rw [hv, bnd_some, hr', bnd_some, f_refuse h, bnd_some, if_pos e0]
  split <;> rfl
theorem f_perName (h : FSt cnt X) (h1 : X 4 1 = (np : Int)) (hp : np ≤ 8) : ∃ v, x_Reader_personName X = some (v, X) := by
  obtain ⟨v, hv⟩ := f_value h
  obtain ⟨r, hr⟩ := f_perB h h1 hp hv
  refine ⟨r, ?_⟩
  unfold x_Reader_personName
  rw [f_at h, bnd_some, if_neg (by decide), f_refuse h, bnd_some, hr]
/-- a name that is given -/
theorem sim_new (hC : TokC C cnt) (hA : AheadOK C cnt) (h : PB C cnt j X M) (hT : TDn inb nv np ns X M) :
    (∃ v wd M1, x_Reader_newName X = some (v, upM X 3 4 ((j : Int) + 1)) ∧ m_fresh M = some (wd, M1) ∧ NameEq v wd ∧ PB C cnt (j + 1) (upM X 3 4 ((j : Int) + 1)) M1 ∧ FrA M M1) ∨
    (∃ z v v', 1 ≤ z ∧ z ≤ 6 ∧ x_Reader_newName X = some (v, fX C j z X) ∧ m_fresh M = some (v', fM C j z M)) := by
  obtain ⟨⟨n1, n2, n3, n4, n5, n6⟩, ⟨m1, m2, m3, m4, m5⟩, -, hv, hp, -⟩ := hT
  have h8 := h.2.1.1
  have hcr := hC.2.2.1 j h.2.2.1
  have ex4 : ∀ z i, (fX C j z X) 4 i = X 4 i := fun z i => by unfold fX; rw [up_k (by omega), up_k (by omega)]
  by_cases h23 : C 0 j = 23
  · obtain ⟨hg, h4, hl⟩ := good_of_cur h.2.1 (by omega)
    obtain ⟨tn, tv⟩ := tok_name hg
    obtain ⟨t1, t2, t3, t4⟩ := tv (by omega)
    have hvr := NameEq_rng t1
    have xv := x_vo (name := C 2 j) n1 n4 (fun k hk => by have := NameEq_rng (hv k hk).1; omega) (by omega)
    have xp := x_po (name := C 2 j) n2 n5 (fun k hk => by have := NameEq_rng (hp k hk).1; omega) (by omega)
    have mp := m_pn (wd := M 0 7) m1 m2 m4 n5 (fun k hk => by have := NameEq_rng (hp k hk).1; omega) (by omega)
    have e1 : fsI (fun k => decide (X 5 k = C 2 j)) nv 0 = fsI (fun k => decide (M 16 (7 * inb + k) = M 0 7)) nv 0 := fsI_ext nv 0 (fun i _ hi => decide_eq_decide.mpr (NameEq_iff (hv i (by omega)).1 t1))
    have e2 : fsI (fun k => decide (X 7 k = C 2 j)) np 0 = fsI (fun k => decide (M 17 (8 * inb + k) = M 0 7)) np 0 := fsI_ext np 0 (fun i _ hi => decide_eq_decide.mpr (NameEq_iff (hp i (by omega)).1 t1))
    obtain ⟨a, ha⟩ : ∃ a, a = fsI (fun k => decide (M 16 (7 * inb + k) = M 0 7)) nv 0 := ⟨_, rfl⟩
    obtain ⟨b, hb⟩ : ∃ b, b = fsI (fun k => decide (M 17 (8 * inb + k) = M 0 7)) np 0 := ⟨_, rfl⟩
    have ar : -1 ≤ a ∧ a ≤ 100 := by rw [ha]; rcases fsI_rng (p := fun k => decide (M 16 (7 * inb + k) = M 0 7)) nv 0 with ⟨q, -⟩ | ⟨q1, q2, -⟩ <;> omega
    have br : -1 ≤ b ∧ b ≤ 100 := by rw [hb]; rcases fsI_rng (p := fun k => decide (M 17 (8 * inb + k) = M 0 7)) np 0 with ⟨q, -⟩ | ⟨q1, q2, -⟩ <;> omega
    rw [e1, ← ha] at xv
    rw [e2, ← hb] at xp
    rw [← hb] at mp
    have mn := m_nm (wd := M 0 7) m1 m2 m3 n4 (fun k hk => by have := NameEq_rng (hv k hk).1; omega) (by omega) mp br
    rw [← ha] at mn
    have mo := m_own (w := M 0 7) ⟨t2, t3⟩ (K := C 0 j) (by omega) t4
    have w1 : w32 (-1) = -1 := w32_eq (by omega) (by omega)
    have wa : w32 a = a := w32_eq (by omega) (by omega)
    have wb : w32 b = b := w32_eq (by omega) (by omega)
    by_cases hn : a ≠ -1 ∨ b ≠ -1
    · -- it is there
      refine Or.inr ⟨2, C 2 j, M 0 7, by omega, by omega, ?_, ?_⟩
      · have e8 : (fX C j 2 X) 3 1 = 2 := by unfold fX; rw [up_i (by omega), up_e]
        have eb : x_Reader_newName_B43 (C 2 j) X = some (C 2 j, fX C j 2 X) := by
          unfold x_Reader_newName_B43 x_Reader_newName_B48
          rw [x_refuse hC h.1 h.2.2.1, bnd_some]
          show (if ¬ w32 ((fX C j 2 X) 3 1) = 0 then _ else _) = _
          rw [e8, w32_eq (x := (2 : Int)) (by omega) (by omega), if_pos (by omega)]
          rfl
        unfold x_Reader_newName x_Reader_newName_B14
        rw [x_at hC h.1 h.2.2.1 (by omega), bnd_some, ifd, if_pos h23, x_value hC h.1 h.2.2.1, bnd_some, xv, bnd_some, xp, bnd_some, wa, wb, w1, eb]
        by_cases q : a = -1
        · rw [if_neg (fun z => z q), if_neg (by omega)]
        · rw [if_pos q]
      · have hbl : m_blame 2 (C 1 j) M = some (fM C j 2 M) := m_blame_eq h8
        have e8 : (fM C j 2 M) 0 8 = 2 := fM_8.1
        have e7 : (fM C j 2 M) 0 7 = M 0 7 := by unfold fM; rw [up_i (by omega), up_i (by omega)]
        unfold m_fresh m_fresh_B41 m_fresh_B68
        dsimp only [lt]
        rw [hl, bnd_some, h8, w32_0, if_pos (by omega), if_neg (fun q => q (tn ▸ (by omega : 0 ≤ C 0 j ∧ C 0 j ≤ 23))), mo, bnd_some, ifd, if_neg (by omega), if_neg (by omega), mn, bnd_some, ifd, if_pos hn, h4, hbl, bnd_some, e7, e8, w32_eq (x := (2 : Int)) (by omega) (by omega), if_pos (by omega)]
    · obtain ⟨M1, a1, a2, a3⟩ := PB_next hC hA h (by omega) (by omega)
      refine Or.inl ⟨C 2 j, M 0 7, M1, ?_, ?_, t1, a2, a3⟩
      · unfold x_Reader_newName x_Reader_newName_B14 x_Reader_newName_B48
        rw [x_at hC h.1 h.2.2.1 (by omega), bnd_some, ifd, if_pos h23, x_value hC h.1 h.2.2.1, bnd_some, xv, bnd_some, xp, bnd_some, wa, wb, w1, if_neg (by omega), if_pos (by omega), h.1.1, w32_0, if_neg (by omega), h.1.2.1]
        rfl
      · unfold m_fresh m_fresh_B41 m_fresh_B68
        dsimp only [lt]
        rw [hl, bnd_some, h8, w32_0, if_pos (by omega), if_neg (fun q => q (tn ▸ (by omega : 0 ≤ C 0 j ∧ C 0 j ≤ 23))), mo, bnd_some, ifd, if_neg (by omega), if_neg (by omega), mn, bnd_some, ifd, if_neg hn, if_neg (by omega), a1, bnd_some]
  · -- no name
    obtain ⟨fs, -⟩ := PB_flt hC h (a := 1) (by omega)
    obtain ⟨v, hv'⟩ := f_value fs
    have eb := f_newB fs (by rw [ex4]; exact n1) n4 (by rw [ex4]; exact n2) n5 hv'
    have hx : x_Reader_newName X = some (v, fX C j 1 X) := by
      unfold x_Reader_newName
      rw [x_at hC h.1 h.2.2.1 (by omega), bnd_some, ifd, if_neg h23, x_refuse hC h.1 h.2.2.1, bnd_some]
      exact eb
    have hbl : m_blame 1 (C 1 j) M = some (fM C j 1 M) := m_blame_eq h8
    have e8 : (fM C j 1 M) 0 8 = 1 := fM_8.1
    have w1 : w32 1 = 1 := w32_eq (by omega) (by omega)
    have e41 : m_fresh_B41 (fM C j 1 M) = some ((fM C j 1 M) 0 7, fM C j 1 M) := by
      unfold m_fresh_B41 m_fresh_B68
      dsimp only [lt]
      rw [e8, w1, if_pos (by omega), if_pos (by omega)]
    rcases lex_cases h.2.1 with ⟨e26, e0, el⟩ | ⟨el, e4, e0, hg⟩
    · have el : m_lex M = some (fM C j 1 M) := el
      refine Or.inr ⟨1, v, 0, by omega, by omega, hx, ?_⟩
      unfold m_fresh
      rw [el, bnd_some, e8, w1, if_neg (by omega)]
    · refine Or.inr ⟨1, v, (fM C j 1 M) 0 7, by omega, by omega, hx, ?_⟩
      obtain ⟨tn, tv⟩ := tok_name hg
      have e32 : m_fresh_B32 M = some ((fM C j 1 M) 0 7, fM C j 1 M) := by
        unfold m_fresh_B32
        rw [e4, hbl, bnd_some, e41]
      unfold m_fresh
      rw [el, bnd_some, h8, w32_0, if_pos (by omega), e32]
      by_cases hk : 0 ≤ C 0 j ∧ C 0 j ≤ 23
      · obtain ⟨t1, t2, t3, t4⟩ := tv hk
        have mo := m_own (w := M 0 7) ⟨t2, t3⟩ (K := C 0 j) hk t4
        rw [if_neg (fun q => q (tn ▸ hk)), mo, bnd_some, ifd, if_pos h23]
      · rw [if_pos (fun q => hk (tn ▸ q))]
end NAMES
