/-! THE PURE PART, rules: two functions side by side (two), one alone (post), their loops -/
def two {α β : Type} (x : Option α) (y : Option β) (P : α → β → Prop) : Prop := ∃ a b, x = some a ∧ y = some b ∧ P a b
def post {α : Type} (x : Option α) (P : α → Prop) : Prop := ∃ a, x = some a ∧ P a
theorem two_mono {α β : Type} {x : Option α} {y : Option β} {P Q : α → β → Prop} (h : two x y P) (k : ∀ a b, P a b → Q a b) : two x y Q := by
  obtain ⟨a, b, h1, h2, h3⟩ := h
  exact ⟨a, b, h1, h2, k a b h3⟩
theorem post_mono {α : Type} {x : Option α} {P Q : α → Prop} (h : post x P) (k : ∀ a, P a → Q a) : post x Q := by
  obtain ⟨a, h1, h2⟩ := h
  exact ⟨a, h1, k a h2⟩
theorem two_some {α β : Type} {a : α} {b : β} {P : α → β → Prop} (h : P a b) : two (some a) (some b) P := ⟨a, b, rfl, rfl, h⟩
theorem post_some {α : Type} {a : α} {P : α → Prop} (h : P a) : post (some a) P := ⟨a, rfl, h⟩
theorem two_ofpost {α β : Type} {x : Option α} {y : Option β} {P : α → β → Prop} (h : post x (fun a => post y (fun b => P a b))) : two x y P := by
  obtain ⟨a, h1, b, h2, h3⟩ := h
  exact ⟨a, b, h1, h2, h3⟩
theorem post_fst {α β : Type} {x : Option α} {y : Option β} {P : α → β → Prop} (h : two x y P) : post x (fun a => ∃ b, y = some b ∧ P a b) := by
  obtain ⟨a, b, h1, h2, h3⟩ := h
  exact ⟨a, h1, b, h2, h3⟩
theorem post_snd {α β : Type} {x : Option α} {y : Option β} {P : α → β → Prop} (h : two x y P) : post y (fun b => ∃ a, x = some a ∧ P a b) := by
  obtain ⟨a, b, h1, h2, h3⟩ := h
  exact ⟨b, h2, a, h1, h3⟩
theorem post_eq {α : Type} {x : Option α} {a : α} {P : α → Prop} (h : post x P) (e : x = some a) : P a := by
  obtain ⟨b, h1, h2⟩ := h
  rw [e] at h1
  cases h1
  exact h2
theorem two_eq {α β : Type} {x : Option α} {y : Option β} {a : α} {b : β} {P : α → β → Prop} (h : two x y P) (e : x = some a) (e' : y = some b) : P a b := by
  obtain ⟨a', b', h1, h2, h3⟩ := h
  rw [e] at h1; rw [e'] at h2
  cases h1; cases h2
  exact h3
section TWO
variable {α β γ δ ε ζ : Type} {P : α → β → Prop}
theorem two_lt_l {x : γ} {f : γ → Option α} {y : Option β} (h : two (f x) y P) : two (lt x f) y P := h
theorem two_lt_r {x : γ} {f : γ → Option β} {y : Option α} (h : two y (f x) P) : two y (lt x f) P := h
theorem two_chk_l {c : Prop} [Decidable c] {k : Option α} {y : Option β} (hc : c) (h : two k y P) : two (chk c k) y P := by
  unfold chk; rw [if_pos hc]; exact h
theorem two_chk_r {c : Prop} [Decidable c] {k : Option β} {y : Option α} (hc : c) (h : two y k P) : two y (chk c k) P := by
  unfold chk; rw [if_pos hc]; exact h
theorem two_ite_l {c : Prop} [Decidable c] {a b : Option α} {y : Option β} (h1 : c → two a y P) (h2 : ¬ c → two b y P) : two (if c then a else b) y P := by
  by_cases h : c
  · rw [if_pos h]; exact h1 h
  · rw [if_neg h]; exact h2 h
theorem two_ite_r {c : Prop} [Decidable c] {a b : Option β} {y : Option α} (h1 : c → two y a P) (h2 : ¬ c → two y b P) : two y (if c then a else b) P := by
  by_cases h : c
  · rw [if_pos h]; exact h1 h
  · rw [if_neg h]; exact h2 h
theorem two_bnd_l {x : Option γ} {a : γ} {f : γ → Option α} {y : Option β} (e : x = some a) (h : two (f a) y P) : two (bnd x f) y P := by
  rw [e]; exact h
theorem two_bnd_r {x : Option γ} {a : γ} {f : γ → Option β} {y : Option α} (e : x = some a) (h : two y (f a) P) : two y (bnd x f) P := by
  rw [e]; exact h
theorem two_bnd2_l {x : Option (γ × δ)} {a : γ} {b : δ} {f : γ → δ → Option α} {y : Option β} (e : x = some (a, b)) (h : two (f a b) y P) : two (bnd2 x f) y P := by
  rw [e]; exact h
theorem two_bnd2_r {x : Option (γ × δ)} {a : γ} {b : δ} {f : γ → δ → Option β} {y : Option α} (e : x = some (a, b)) (h : two y (f a b) P) : two y (bnd2 x f) P := by
  rw [e]; exact h
theorem two_bnd {x : Option γ} {y : Option δ} {Q : γ → δ → Prop} {f : γ → Option α} {g : δ → Option β} (h : two x y Q) (k : ∀ a b, Q a b → two (f a) (g b) P) : two (bnd x f) (bnd y g) P := by
  obtain ⟨a, b, h1, h2, h3⟩ := h
  rw [h1, h2]; exact k a b h3
theorem two_bnd22 {x : Option (γ × ε)} {y : Option (δ × ζ)} {Q : γ × ε → δ × ζ → Prop} {f : γ → ε → Option α} {g : δ → ζ → Option β} (h : two x y Q) (k : ∀ a b c d, Q (a, b) (c, d) → two (f a b) (g c d) P) : two (bnd2 x f) (bnd2 y g) P := by
  obtain ⟨a, b, h1, h2, h3⟩ := h
  rw [h1, h2]; exact k a.1 a.2 b.1 b.2 h3
theorem two_bnd12 {x : Option γ} {y : Option (δ × ζ)} {Q : γ → δ × ζ → Prop} {f : γ → Option α} {g : δ → ζ → Option β} (h : two x y Q) (k : ∀ a c d, Q a (c, d) → two (f a) (g c d) P) : two (bnd x f) (bnd2 y g) P := by
  obtain ⟨a, b, h1, h2, h3⟩ := h
  rw [h1, h2]; exact k a b.1 b.2 h3
theorem two_bnd21 {x : Option (γ × ε)} {y : Option δ} {Q : γ × ε → δ → Prop} {f : γ → ε → Option α} {g : δ → Option β} (h : two x y Q) (k : ∀ a b c, Q (a, b) c → two (f a b) (g c) P) : two (bnd2 x f) (bnd y g) P := by
  obtain ⟨a, b, h1, h2, h3⟩ := h
  rw [h1, h2]; exact k a.1 a.2 b h3
theorem two_pbnd_l {x : Option γ} {Q : γ → Prop} {f : γ → Option α} {y : Option β} (h : post x Q) (k : ∀ a, Q a → two (f a) y P) : two (bnd x f) y P := by
  obtain ⟨a, h1, h3⟩ := h
  rw [h1]; exact k a h3
theorem two_pbnd_r {x : Option γ} {Q : γ → Prop} {f : γ → Option β} {y : Option α} (h : post x Q) (k : ∀ a, Q a → two y (f a) P) : two y (bnd x f) P := by
  obtain ⟨a, h1, h3⟩ := h
  rw [h1]; exact k a h3
theorem two_pbnd2_l {x : Option (γ × δ)} {Q : γ × δ → Prop} {f : γ → δ → Option α} {y : Option β} (h : post x Q) (k : ∀ a b, Q (a, b) → two (f a b) y P) : two (bnd2 x f) y P := by
  obtain ⟨a, h1, h3⟩ := h
  rw [h1]; exact k a.1 a.2 h3
theorem two_pbnd2_r {x : Option (γ × δ)} {Q : γ × δ → Prop} {f : γ → δ → Option β} {y : Option α} (h : post x Q) (k : ∀ a b, Q (a, b) → two y (f a b) P) : two y (bnd2 x f) P := by
  obtain ⟨a, h1, h3⟩ := h
  rw [h1]; exact k a.1 a.2 h3
end TWO
section POST
variable {α γ δ : Type} {P : α → Prop}
theorem post_lt {x : γ} {f : γ → Option α} (h : post (f x) P) : post (lt x f) P := h
theorem post_chk {c : Prop} [Decidable c] {k : Option α} (hc : c) (h : post k P) : post (chk c k) P := by
  unfold chk; rw [if_pos hc]; exact h
theorem post_ite {c : Prop} [Decidable c] {a b : Option α} (h1 : c → post a P) (h2 : ¬ c → post b P) : post (if c then a else b) P := by
  by_cases h : c
  · rw [if_pos h]; exact h1 h
  · rw [if_neg h]; exact h2 h
theorem post_bnde {x : Option γ} {a : γ} {f : γ → Option α} (e : x = some a) (h : post (f a) P) : post (bnd x f) P := by
  rw [e]; exact h
theorem post_bnd2e {x : Option (γ × δ)} {a : γ} {b : δ} {f : γ → δ → Option α} (e : x = some (a, b)) (h : post (f a b) P) : post (bnd2 x f) P := by
  rw [e]; exact h
theorem post_bnd {x : Option γ} {Q : γ → Prop} {f : γ → Option α} (h : post x Q) (k : ∀ a, Q a → post (f a) P) : post (bnd x f) P := by
  obtain ⟨a, h1, h3⟩ := h
  rw [h1]; exact k a h3
theorem post_bnd2 {x : Option (γ × δ)} {Q : γ × δ → Prop} {f : γ → δ → Option α} (h : post x Q) (k : ∀ a b, Q (a, b) → post (f a b) P) : post (bnd2 x f) P := by
  obtain ⟨a, h1, h3⟩ := h
  rw [h1]; exact k a.1 a.2 h3
end POST
theorem fuel_lt {n : Nat} (h : n < 100000) : n < FUEL := by unfold FUEL; omega
theorem post_itr1 {A r : Type} {f : (A → Option r) → A → Option r} (I : Nat → A → Prop) (P : r → Prop)
    (step : ∀ n a, I n a → ∀ F, (∀ m a, m < n → I m a → post (F a) P) → post (f F a) P) : ∀ (N n : Nat) a, n < N → I n a → post (itr1 f N a) P := by
  intro N
  induction N with
  | zero => intro n a h; omega
  | succ N ih =>
    intro n a h hI
    exact step n a hI (itr1 f N) (fun m aq hm hI' => ih m aq (by omega) hI')
theorem post_itr2 {A B r : Type} {f : (A → B → Option r) → A → B → Option r} (I : Nat → A → B → Prop) (P : r → Prop)
    (step : ∀ n a b, I n a b → ∀ F, (∀ m a b, m < n → I m a b → post (F a b) P) → post (f F a b) P) : ∀ (N n : Nat) a b, n < N → I n a b → post (itr2 f N a b) P := by
  intro N
  induction N with
  | zero => intro n a b h; omega
  | succ N ih =>
    intro n a b h hI
    exact step n a b hI (itr2 f N) (fun m aq bq hm hI' => ih m aq bq (by omega) hI')
theorem post_itr3 {A B C r : Type} {f : (A → B → C → Option r) → A → B → C → Option r} (I : Nat → A → B → C → Prop) (P : r → Prop)
    (step : ∀ n a b c, I n a b c → ∀ F, (∀ m a b c, m < n → I m a b c → post (F a b c) P) → post (f F a b c) P) : ∀ (N n : Nat) a b c, n < N → I n a b c → post (itr3 f N a b c) P := by
  intro N
  induction N with
  | zero => intro n a b c h; omega
  | succ N ih =>
    intro n a b c h hI
    exact step n a b c hI (itr3 f N) (fun m aq bq cq hm hI' => ih m aq bq cq (by omega) hI')
theorem post_itr4 {A B C D r : Type} {f : (A → B → C → D → Option r) → A → B → C → D → Option r} (I : Nat → A → B → C → D → Prop) (P : r → Prop)
    (step : ∀ n a b c d, I n a b c d → ∀ F, (∀ m a b c d, m < n → I m a b c d → post (F a b c d) P) → post (f F a b c d) P) : ∀ (N n : Nat) a b c d, n < N → I n a b c d → post (itr4 f N a b c d) P := by
  intro N
  induction N with
  | zero => intro n a b c d h; omega
  | succ N ih =>
    intro n a b c d h hI
    exact step n a b c d hI (itr4 f N) (fun m aq bq cq dq hm hI' => ih m aq bq cq dq (by omega) hI')
theorem post_itr5 {A B C D E r : Type} {f : (A → B → C → D → E → Option r) → A → B → C → D → E → Option r} (I : Nat → A → B → C → D → E → Prop) (P : r → Prop)
    (step : ∀ n a b c d e, I n a b c d e → ∀ F, (∀ m a b c d e, m < n → I m a b c d e → post (F a b c d e) P) → post (f F a b c d e) P) : ∀ (N n : Nat) a b c d e, n < N → I n a b c d e → post (itr5 f N a b c d e) P := by
  intro N
  induction N with
  | zero => intro n a b c d e h; omega
  | succ N ih =>
    intro n a b c d e h hI
    exact step n a b c d e hI (itr5 f N) (fun m aq bq cq dq eq hm hI' => ih m aq bq cq dq eq (by omega) hI')
theorem two_itr11 {A J r q : Type} {X : (A → Option r) → A → Option r} {Y : (J → Option q) → J → Option q} (I : Nat → A → J → Prop) (P : r → q → Prop)
    (step : ∀ n a j, I n a j → ∀ F L, (∀ m a j, m < n → I m a j → two (F a) (L j) P) → two (X F a) (Y L j) P) : ∀ (N n : Nat) a j, n < N → I n a j → two (itr1 X N a) (itr1 Y N j) P := by
  intro N
  induction N with
  | zero => intro n a j h; omega
  | succ N ih =>
    intro n a j h hI
    exact step n a j hI (itr1 X N) (itr1 Y N) (fun m aq jq hm hI' => ih m aq jq (by omega) hI')
theorem two_itr12 {A J K r q : Type} {X : (A → Option r) → A → Option r} {Y : (J → K → Option q) → J → K → Option q} (I : Nat → A → J → K → Prop) (P : r → q → Prop)
    (step : ∀ n a j k, I n a j k → ∀ F L, (∀ m a j k, m < n → I m a j k → two (F a) (L j k) P) → two (X F a) (Y L j k) P) : ∀ (N n : Nat) a j k, n < N → I n a j k → two (itr1 X N a) (itr2 Y N j k) P := by
  intro N
  induction N with
  | zero => intro n a j k h; omega
  | succ N ih =>
    intro n a j k h hI
    exact step n a j k hI (itr1 X N) (itr2 Y N) (fun m aq jq kq hm hI' => ih m aq jq kq (by omega) hI')
theorem two_itr13 {A J K S r q : Type} {X : (A → Option r) → A → Option r} {Y : (J → K → S → Option q) → J → K → S → Option q} (I : Nat → A → J → K → S → Prop) (P : r → q → Prop)
    (step : ∀ n a j k s, I n a j k s → ∀ F L, (∀ m a j k s, m < n → I m a j k s → two (F a) (L j k s) P) → two (X F a) (Y L j k s) P) : ∀ (N n : Nat) a j k s, n < N → I n a j k s → two (itr1 X N a) (itr3 Y N j k s) P := by
  intro N
  induction N with
  | zero => intro n a j k s h; omega
  | succ N ih =>
    intro n a j k s h hI
    exact step n a j k s hI (itr1 X N) (itr3 Y N) (fun m aq jq kq sq hm hI' => ih m aq jq kq sq (by omega) hI')
theorem two_itr14 {A J K S T r q : Type} {X : (A → Option r) → A → Option r} {Y : (J → K → S → T → Option q) → J → K → S → T → Option q} (I : Nat → A → J → K → S → T → Prop) (P : r → q → Prop)
    (step : ∀ n a j k s t, I n a j k s t → ∀ F L, (∀ m a j k s t, m < n → I m a j k s t → two (F a) (L j k s t) P) → two (X F a) (Y L j k s t) P) : ∀ (N n : Nat) a j k s t, n < N → I n a j k s t → two (itr1 X N a) (itr4 Y N j k s t) P := by
  intro N
  induction N with
  | zero => intro n a j k s t h; omega
  | succ N ih =>
    intro n a j k s t h hI
    exact step n a j k s t hI (itr1 X N) (itr4 Y N) (fun m aq jq kq sq tq hm hI' => ih m aq jq kq sq tq (by omega) hI')
theorem two_itr15 {A J K S T U r q : Type} {X : (A → Option r) → A → Option r} {Y : (J → K → S → T → U → Option q) → J → K → S → T → U → Option q} (I : Nat → A → J → K → S → T → U → Prop) (P : r → q → Prop)
    (step : ∀ n a j k s t u, I n a j k s t u → ∀ F L, (∀ m a j k s t u, m < n → I m a j k s t u → two (F a) (L j k s t u) P) → two (X F a) (Y L j k s t u) P) : ∀ (N n : Nat) a j k s t u, n < N → I n a j k s t u → two (itr1 X N a) (itr5 Y N j k s t u) P := by
  intro N
  induction N with
  | zero => intro n a j k s t u h; omega
  | succ N ih =>
    intro n a j k s t u h hI
    exact step n a j k s t u hI (itr1 X N) (itr5 Y N) (fun m aq jq kq sq tq uq hm hI' => ih m aq jq kq sq tq uq (by omega) hI')
theorem two_itr21 {A B J r q : Type} {X : (A → B → Option r) → A → B → Option r} {Y : (J → Option q) → J → Option q} (I : Nat → A → B → J → Prop) (P : r → q → Prop)
    (step : ∀ n a b j, I n a b j → ∀ F L, (∀ m a b j, m < n → I m a b j → two (F a b) (L j) P) → two (X F a b) (Y L j) P) : ∀ (N n : Nat) a b j, n < N → I n a b j → two (itr2 X N a b) (itr1 Y N j) P := by
  intro N
  induction N with
  | zero => intro n a b j h; omega
  | succ N ih =>
    intro n a b j h hI
    exact step n a b j hI (itr2 X N) (itr1 Y N) (fun m aq bq jq hm hI' => ih m aq bq jq (by omega) hI')
theorem two_itr22 {A B J K r q : Type} {X : (A → B → Option r) → A → B → Option r} {Y : (J → K → Option q) → J → K → Option q} (I : Nat → A → B → J → K → Prop) (P : r → q → Prop)
    (step : ∀ n a b j k, I n a b j k → ∀ F L, (∀ m a b j k, m < n → I m a b j k → two (F a b) (L j k) P) → two (X F a b) (Y L j k) P) : ∀ (N n : Nat) a b j k, n < N → I n a b j k → two (itr2 X N a b) (itr2 Y N j k) P := by
  intro N
  induction N with
  | zero => intro n a b j k h; omega
  | succ N ih =>
    intro n a b j k h hI
    exact step n a b j k hI (itr2 X N) (itr2 Y N) (fun m aq bq jq kq hm hI' => ih m aq bq jq kq (by omega) hI')
theorem two_itr23 {A B J K S r q : Type} {X : (A → B → Option r) → A → B → Option r} {Y : (J → K → S → Option q) → J → K → S → Option q} (I : Nat → A → B → J → K → S → Prop) (P : r → q → Prop)
    (step : ∀ n a b j k s, I n a b j k s → ∀ F L, (∀ m a b j k s, m < n → I m a b j k s → two (F a b) (L j k s) P) → two (X F a b) (Y L j k s) P) : ∀ (N n : Nat) a b j k s, n < N → I n a b j k s → two (itr2 X N a b) (itr3 Y N j k s) P := by
  intro N
  induction N with
  | zero => intro n a b j k s h; omega
  | succ N ih =>
    intro n a b j k s h hI
    exact step n a b j k s hI (itr2 X N) (itr3 Y N) (fun m aq bq jq kq sq hm hI' => ih m aq bq jq kq sq (by omega) hI')
theorem two_itr24 {A B J K S T r q : Type} {X : (A → B → Option r) → A → B → Option r} {Y : (J → K → S → T → Option q) → J → K → S → T → Option q} (I : Nat → A → B → J → K → S → T → Prop) (P : r → q → Prop)
    (step : ∀ n a b j k s t, I n a b j k s t → ∀ F L, (∀ m a b j k s t, m < n → I m a b j k s t → two (F a b) (L j k s t) P) → two (X F a b) (Y L j k s t) P) : ∀ (N n : Nat) a b j k s t, n < N → I n a b j k s t → two (itr2 X N a b) (itr4 Y N j k s t) P := by
  intro N
  induction N with
  | zero => intro n a b j k s t h; omega
  | succ N ih =>
    intro n a b j k s t h hI
    exact step n a b j k s t hI (itr2 X N) (itr4 Y N) (fun m aq bq jq kq sq tq hm hI' => ih m aq bq jq kq sq tq (by omega) hI')
theorem two_itr25 {A B J K S T U r q : Type} {X : (A → B → Option r) → A → B → Option r} {Y : (J → K → S → T → U → Option q) → J → K → S → T → U → Option q} (I : Nat → A → B → J → K → S → T → U → Prop) (P : r → q → Prop)
    (step : ∀ n a b j k s t u, I n a b j k s t u → ∀ F L, (∀ m a b j k s t u, m < n → I m a b j k s t u → two (F a b) (L j k s t u) P) → two (X F a b) (Y L j k s t u) P) : ∀ (N n : Nat) a b j k s t u, n < N → I n a b j k s t u → two (itr2 X N a b) (itr5 Y N j k s t u) P := by
  intro N
  induction N with
  | zero => intro n a b j k s t u h; omega
  | succ N ih =>
    intro n a b j k s t u h hI
    exact step n a b j k s t u hI (itr2 X N) (itr5 Y N) (fun m aq bq jq kq sq tq uq hm hI' => ih m aq bq jq kq sq tq uq (by omega) hI')
theorem two_itr31 {A B C J r q : Type} {X : (A → B → C → Option r) → A → B → C → Option r} {Y : (J → Option q) → J → Option q} (I : Nat → A → B → C → J → Prop) (P : r → q → Prop)
    (step : ∀ n a b c j, I n a b c j → ∀ F L, (∀ m a b c j, m < n → I m a b c j → two (F a b c) (L j) P) → two (X F a b c) (Y L j) P) : ∀ (N n : Nat) a b c j, n < N → I n a b c j → two (itr3 X N a b c) (itr1 Y N j) P := by
  intro N
  induction N with
  | zero => intro n a b c j h; omega
  | succ N ih =>
    intro n a b c j h hI
    exact step n a b c j hI (itr3 X N) (itr1 Y N) (fun m aq bq cq jq hm hI' => ih m aq bq cq jq (by omega) hI')
theorem two_itr32 {A B C J K r q : Type} {X : (A → B → C → Option r) → A → B → C → Option r} {Y : (J → K → Option q) → J → K → Option q} (I : Nat → A → B → C → J → K → Prop) (P : r → q → Prop)
    (step : ∀ n a b c j k, I n a b c j k → ∀ F L, (∀ m a b c j k, m < n → I m a b c j k → two (F a b c) (L j k) P) → two (X F a b c) (Y L j k) P) : ∀ (N n : Nat) a b c j k, n < N → I n a b c j k → two (itr3 X N a b c) (itr2 Y N j k) P := by
  intro N
  induction N with
  | zero => intro n a b c j k h; omega
  | succ N ih =>
    intro n a b c j k h hI
    exact step n a b c j k hI (itr3 X N) (itr2 Y N) (fun m aq bq cq jq kq hm hI' => ih m aq bq cq jq kq (by omega) hI')
theorem two_itr33 {A B C J K S r q : Type} {X : (A → B → C → Option r) → A → B → C → Option r} {Y : (J → K → S → Option q) → J → K → S → Option q} (I : Nat → A → B → C → J → K → S → Prop) (P : r → q → Prop)
    (step : ∀ n a b c j k s, I n a b c j k s → ∀ F L, (∀ m a b c j k s, m < n → I m a b c j k s → two (F a b c) (L j k s) P) → two (X F a b c) (Y L j k s) P) : ∀ (N n : Nat) a b c j k s, n < N → I n a b c j k s → two (itr3 X N a b c) (itr3 Y N j k s) P := by
  intro N
  induction N with
  | zero => intro n a b c j k s h; omega
  | succ N ih =>
    intro n a b c j k s h hI
    exact step n a b c j k s hI (itr3 X N) (itr3 Y N) (fun m aq bq cq jq kq sq hm hI' => ih m aq bq cq jq kq sq (by omega) hI')
theorem two_itr34 {A B C J K S T r q : Type} {X : (A → B → C → Option r) → A → B → C → Option r} {Y : (J → K → S → T → Option q) → J → K → S → T → Option q} (I : Nat → A → B → C → J → K → S → T → Prop) (P : r → q → Prop)
    (step : ∀ n a b c j k s t, I n a b c j k s t → ∀ F L, (∀ m a b c j k s t, m < n → I m a b c j k s t → two (F a b c) (L j k s t) P) → two (X F a b c) (Y L j k s t) P) : ∀ (N n : Nat) a b c j k s t, n < N → I n a b c j k s t → two (itr3 X N a b c) (itr4 Y N j k s t) P := by
  intro N
  induction N with
  | zero => intro n a b c j k s t h; omega
  | succ N ih =>
    intro n a b c j k s t h hI
    exact step n a b c j k s t hI (itr3 X N) (itr4 Y N) (fun m aq bq cq jq kq sq tq hm hI' => ih m aq bq cq jq kq sq tq (by omega) hI')
theorem two_itr35 {A B C J K S T U r q : Type} {X : (A → B → C → Option r) → A → B → C → Option r} {Y : (J → K → S → T → U → Option q) → J → K → S → T → U → Option q} (I : Nat → A → B → C → J → K → S → T → U → Prop) (P : r → q → Prop)
    (step : ∀ n a b c j k s t u, I n a b c j k s t u → ∀ F L, (∀ m a b c j k s t u, m < n → I m a b c j k s t u → two (F a b c) (L j k s t u) P) → two (X F a b c) (Y L j k s t u) P) : ∀ (N n : Nat) a b c j k s t u, n < N → I n a b c j k s t u → two (itr3 X N a b c) (itr5 Y N j k s t u) P := by
  intro N
  induction N with
  | zero => intro n a b c j k s t u h; omega
  | succ N ih =>
    intro n a b c j k s t u h hI
    exact step n a b c j k s t u hI (itr3 X N) (itr5 Y N) (fun m aq bq cq jq kq sq tq uq hm hI' => ih m aq bq cq jq kq sq tq uq (by omega) hI')
theorem two_itr41 {A B C D J r q : Type} {X : (A → B → C → D → Option r) → A → B → C → D → Option r} {Y : (J → Option q) → J → Option q} (I : Nat → A → B → C → D → J → Prop) (P : r → q → Prop)
    (step : ∀ n a b c d j, I n a b c d j → ∀ F L, (∀ m a b c d j, m < n → I m a b c d j → two (F a b c d) (L j) P) → two (X F a b c d) (Y L j) P) : ∀ (N n : Nat) a b c d j, n < N → I n a b c d j → two (itr4 X N a b c d) (itr1 Y N j) P := by
  intro N
  induction N with
  | zero => intro n a b c d j h; omega
  | succ N ih =>
    intro n a b c d j h hI
    exact step n a b c d j hI (itr4 X N) (itr1 Y N) (fun m aq bq cq dq jq hm hI' => ih m aq bq cq dq jq (by omega) hI')
theorem two_itr42 {A B C D J K r q : Type} {X : (A → B → C → D → Option r) → A → B → C → D → Option r} {Y : (J → K → Option q) → J → K → Option q} (I : Nat → A → B → C → D → J → K → Prop) (P : r → q → Prop)
    (step : ∀ n a b c d j k, I n a b c d j k → ∀ F L, (∀ m a b c d j k, m < n → I m a b c d j k → two (F a b c d) (L j k) P) → two (X F a b c d) (Y L j k) P) : ∀ (N n : Nat) a b c d j k, n < N → I n a b c d j k → two (itr4 X N a b c d) (itr2 Y N j k) P := by
  intro N
  induction N with
  | zero => intro n a b c d j k h; omega
  | succ N ih =>
    intro n a b c d j k h hI
    exact step n a b c d j k hI (itr4 X N) (itr2 Y N) (fun m aq bq cq dq jq kq hm hI' => ih m aq bq cq dq jq kq (by omega) hI')
theorem two_itr43 {A B C D J K S r q : Type} {X : (A → B → C → D → Option r) → A → B → C → D → Option r} {Y : (J → K → S → Option q) → J → K → S → Option q} (I : Nat → A → B → C → D → J → K → S → Prop) (P : r → q → Prop)
    (step : ∀ n a b c d j k s, I n a b c d j k s → ∀ F L, (∀ m a b c d j k s, m < n → I m a b c d j k s → two (F a b c d) (L j k s) P) → two (X F a b c d) (Y L j k s) P) : ∀ (N n : Nat) a b c d j k s, n < N → I n a b c d j k s → two (itr4 X N a b c d) (itr3 Y N j k s) P := by
  intro N
  induction N with
  | zero => intro n a b c d j k s h; omega
  | succ N ih =>
    intro n a b c d j k s h hI
    exact step n a b c d j k s hI (itr4 X N) (itr3 Y N) (fun m aq bq cq dq jq kq sq hm hI' => ih m aq bq cq dq jq kq sq (by omega) hI')
theorem two_itr44 {A B C D J K S T r q : Type} {X : (A → B → C → D → Option r) → A → B → C → D → Option r} {Y : (J → K → S → T → Option q) → J → K → S → T → Option q} (I : Nat → A → B → C → D → J → K → S → T → Prop) (P : r → q → Prop)
    (step : ∀ n a b c d j k s t, I n a b c d j k s t → ∀ F L, (∀ m a b c d j k s t, m < n → I m a b c d j k s t → two (F a b c d) (L j k s t) P) → two (X F a b c d) (Y L j k s t) P) : ∀ (N n : Nat) a b c d j k s t, n < N → I n a b c d j k s t → two (itr4 X N a b c d) (itr4 Y N j k s t) P := by
  intro N
  induction N with
  | zero => intro n a b c d j k s t h; omega
  | succ N ih =>
    intro n a b c d j k s t h hI
    exact step n a b c d j k s t hI (itr4 X N) (itr4 Y N) (fun m aq bq cq dq jq kq sq tq hm hI' => ih m aq bq cq dq jq kq sq tq (by omega) hI')
theorem two_itr45 {A B C D J K S T U r q : Type} {X : (A → B → C → D → Option r) → A → B → C → D → Option r} {Y : (J → K → S → T → U → Option q) → J → K → S → T → U → Option q} (I : Nat → A → B → C → D → J → K → S → T → U → Prop) (P : r → q → Prop)
    (step : ∀ n a b c d j k s t u, I n a b c d j k s t u → ∀ F L, (∀ m a b c d j k s t u, m < n → I m a b c d j k s t u → two (F a b c d) (L j k s t u) P) → two (X F a b c d) (Y L j k s t u) P) : ∀ (N n : Nat) a b c d j k s t u, n < N → I n a b c d j k s t u → two (itr4 X N a b c d) (itr5 Y N j k s t u) P := by
  intro N
  induction N with
  | zero => intro n a b c d j k s t u h; omega
  | succ N ih =>
    intro n a b c d j k s t u h hI
    exact step n a b c d j k s t u hI (itr4 X N) (itr5 Y N) (fun m aq bq cq dq jq kq sq tq uq hm hI' => ih m aq bq cq dq jq kq sq tq uq (by omega) hI')
theorem two_itr51 {A B C D E J r q : Type} {X : (A → B → C → D → E → Option r) → A → B → C → D → E → Option r} {Y : (J → Option q) → J → Option q} (I : Nat → A → B → C → D → E → J → Prop) (P : r → q → Prop)
    (step : ∀ n a b c d e j, I n a b c d e j → ∀ F L, (∀ m a b c d e j, m < n → I m a b c d e j → two (F a b c d e) (L j) P) → two (X F a b c d e) (Y L j) P) : ∀ (N n : Nat) a b c d e j, n < N → I n a b c d e j → two (itr5 X N a b c d e) (itr1 Y N j) P := by
  intro N
  induction N with
  | zero => intro n a b c d e j h; omega
  | succ N ih =>
    intro n a b c d e j h hI
    exact step n a b c d e j hI (itr5 X N) (itr1 Y N) (fun m aq bq cq dq eq jq hm hI' => ih m aq bq cq dq eq jq (by omega) hI')
theorem two_itr52 {A B C D E J K r q : Type} {X : (A → B → C → D → E → Option r) → A → B → C → D → E → Option r} {Y : (J → K → Option q) → J → K → Option q} (I : Nat → A → B → C → D → E → J → K → Prop) (P : r → q → Prop)
    (step : ∀ n a b c d e j k, I n a b c d e j k → ∀ F L, (∀ m a b c d e j k, m < n → I m a b c d e j k → two (F a b c d e) (L j k) P) → two (X F a b c d e) (Y L j k) P) : ∀ (N n : Nat) a b c d e j k, n < N → I n a b c d e j k → two (itr5 X N a b c d e) (itr2 Y N j k) P := by
  intro N
  induction N with
  | zero => intro n a b c d e j k h; omega
  | succ N ih =>
    intro n a b c d e j k h hI
    exact step n a b c d e j k hI (itr5 X N) (itr2 Y N) (fun m aq bq cq dq eq jq kq hm hI' => ih m aq bq cq dq eq jq kq (by omega) hI')
theorem two_itr53 {A B C D E J K S r q : Type} {X : (A → B → C → D → E → Option r) → A → B → C → D → E → Option r} {Y : (J → K → S → Option q) → J → K → S → Option q} (I : Nat → A → B → C → D → E → J → K → S → Prop) (P : r → q → Prop)
    (step : ∀ n a b c d e j k s, I n a b c d e j k s → ∀ F L, (∀ m a b c d e j k s, m < n → I m a b c d e j k s → two (F a b c d e) (L j k s) P) → two (X F a b c d e) (Y L j k s) P) : ∀ (N n : Nat) a b c d e j k s, n < N → I n a b c d e j k s → two (itr5 X N a b c d e) (itr3 Y N j k s) P := by
  intro N
  induction N with
  | zero => intro n a b c d e j k s h; omega
  | succ N ih =>
    intro n a b c d e j k s h hI
    exact step n a b c d e j k s hI (itr5 X N) (itr3 Y N) (fun m aq bq cq dq eq jq kq sq hm hI' => ih m aq bq cq dq eq jq kq sq (by omega) hI')
theorem two_itr54 {A B C D E J K S T r q : Type} {X : (A → B → C → D → E → Option r) → A → B → C → D → E → Option r} {Y : (J → K → S → T → Option q) → J → K → S → T → Option q} (I : Nat → A → B → C → D → E → J → K → S → T → Prop) (P : r → q → Prop)
    (step : ∀ n a b c d e j k s t, I n a b c d e j k s t → ∀ F L, (∀ m a b c d e j k s t, m < n → I m a b c d e j k s t → two (F a b c d e) (L j k s t) P) → two (X F a b c d e) (Y L j k s t) P) : ∀ (N n : Nat) a b c d e j k s t, n < N → I n a b c d e j k s t → two (itr5 X N a b c d e) (itr4 Y N j k s t) P := by
  intro N
  induction N with
  | zero => intro n a b c d e j k s t h; omega
  | succ N ih =>
    intro n a b c d e j k s t h hI
    exact step n a b c d e j k s t hI (itr5 X N) (itr4 Y N) (fun m aq bq cq dq eq jq kq sq tq hm hI' => ih m aq bq cq dq eq jq kq sq tq (by omega) hI')
theorem two_itr55 {A B C D E J K S T U r q : Type} {X : (A → B → C → D → E → Option r) → A → B → C → D → E → Option r} {Y : (J → K → S → T → U → Option q) → J → K → S → T → U → Option q} (I : Nat → A → B → C → D → E → J → K → S → T → U → Prop) (P : r → q → Prop)
    (step : ∀ n a b c d e j k s t u, I n a b c d e j k s t u → ∀ F L, (∀ m a b c d e j k s t u, m < n → I m a b c d e j k s t u → two (F a b c d e) (L j k s t u) P) → two (X F a b c d e) (Y L j k s t u) P) : ∀ (N n : Nat) a b c d e j k s t u, n < N → I n a b c d e j k s t u → two (itr5 X N a b c d e) (itr5 Y N j k s t u) P := by
  intro N
  induction N with
  | zero => intro n a b c d e j k s t u h; omega
  | succ N ih =>
    intro n a b c d e j k s t u h hI
    exact step n a b c d e j k s t u hI (itr5 X N) (itr5 Y N) (fun m aq bq cq dq eq jq kq sq tq uq hm hI' => ih m aq bq cq dq eq jq kq sq tq uq (by omega) hI')
