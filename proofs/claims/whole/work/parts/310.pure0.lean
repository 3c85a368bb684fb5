/-! tools for the pure rows -/
def T2 {ρ ρ' : Type} (a : Option ρ) (b : Option ρ') (P : ρ → ρ' → Prop) : Prop := ∃ x y, a = some x ∧ b = some y ∧ P x y
theorem T2.mk {ρ ρ' : Type} {a : Option ρ} {b : Option ρ'} {P : ρ → ρ' → Prop} {x : ρ} {y : ρ'} (ha : a = some x) (hb : b = some y) (h : P x y) : T2 a b P := ⟨x, y, ha, hb, h⟩
theorem T2.ret {ρ ρ' : Type} {P : ρ → ρ' → Prop} {x : ρ} {y : ρ'} (h : P x y) : T2 (some x) (some y) P := ⟨x, y, rfl, rfl, h⟩
theorem T2.bind {α α' ρ ρ' : Type} {a : Option α} {b : Option α'} {P : α → α' → Prop} {f : α → Option ρ} {g : α' → Option ρ'} {R : ρ → ρ' → Prop} (h : T2 a b P) (k : ∀ x y, P x y → T2 (f x) (g y) R) : T2 (a.bind f) (b.bind g) R := by
  obtain ⟨x, y, rfl, rfl, h⟩ := h
  exact k x y h
theorem T2.imp {ρ ρ' : Type} {a : Option ρ} {b : Option ρ'} {P R : ρ → ρ' → Prop} (h : T2 a b P) (k : ∀ x y, P x y → R x y) : T2 a b R := by
  obtain ⟨x, y, ha, hb, h⟩ := h
  exact ⟨x, y, ha, hb, k x y h⟩
theorem loop2 {σ τ ρ ρ' : Type} (N : Nat) (I : Nat → σ → τ → Prop) (LX : Nat → Nat → σ → Option ρ) (LM : Nat → Nat → τ → Option ρ') (P : ρ → ρ' → Prop)
    (hx : ∀ (F F' : Nat) (s : σ) (t : τ), I N s t → T2 (LX (F + 1) N s) (LM (F' + 1) N t) P)
    (hs : ∀ (F F' i : Nat) (s : σ) (t : τ), i < N → I i s t → (∀ (s' : σ) (t' : τ), I (i + 1) s' t' → T2 (LX F (i + 1) s') (LM F' (i + 1) t') P) → T2 (LX (F + 1) i s) (LM (F' + 1) i t) P) :
    ∀ (n i : Nat) (s : σ) (t : τ) (F F' : Nat), i + n = N → n < F → n < F' → I i s t → T2 (LX F i s) (LM F' i t) P := by
  intro n
  induction n with
  | zero =>
    intro i s t F F' h1 h2 h3 hI
    obtain ⟨F, rfl⟩ : ∃ G, F = G + 1 := ⟨F - 1, by omega⟩
    obtain ⟨F', rfl⟩ : ∃ G, F' = G + 1 := ⟨F' - 1, by omega⟩
    obtain rfl : i = N := by omega
    exact hx F F' s t hI
  | succ n ih =>
    intro i s t F F' h1 h2 h3 hI
    obtain ⟨F, rfl⟩ : ∃ G, F = G + 1 := ⟨F - 1, by omega⟩
    obtain ⟨F', rfl⟩ : ∃ G, F' = G + 1 := ⟨F' - 1, by omega⟩
    exact hs F F' i s t (by omega) hI (fun s' t' h => ih (i + 1) s' t' F F' (by omega) (by omega) (by omega) h)
theorem loop1 {σ ρ : Type} (N : Nat) (I : Nat → σ → Prop) (L : Nat → Nat → σ → Option ρ) (P : Option ρ → Prop)
    (hx : ∀ (F : Nat) (s : σ), I N s → P (L (F + 1) N s))
    (hs : ∀ (F i : Nat) (s : σ), i < N → I i s → (∀ s' : σ, I (i + 1) s' → P (L F (i + 1) s')) → P (L (F + 1) i s)) :
    ∀ (n i : Nat) (s : σ) (F : Nat), i + n = N → n < F → I i s → P (L F i s) := by
  intro n
  induction n with
  | zero =>
    intro i s F h1 h2 hI
    obtain ⟨F, rfl⟩ : ∃ G, F = G + 1 := ⟨F - 1, by omega⟩
    obtain rfl : i = N := by omega
    exact hx F s hI
  | succ n ih =>
    intro i s F h1 h2 hI
    obtain ⟨F, rfl⟩ : ∃ G, F = G + 1 := ⟨F - 1, by omega⟩
    exact hs F i s (by omega) hI (fun s' h => ih (i + 1) s' F (by omega) (by omega) h)
theorem ixn {α : Type} {n j : Nat} {k : Option α} (h : j < n) (hn : n < 2 ^ 31) : ix n (nI j) k = k := by rw [ix, if_neg (nI_in h hn)]
theorem FU_big {n : Nat} (h : n < 10000) : n < FU := h
theorem upd_s {f : Nat → Int32} {k : Nat} {x : Int32} : upd f k x k = x := pk_us
theorem upd_n {f : Nat → Int32} {k j : Nat} {x : Int32} (h : j ≠ k) : upd f k x j = f j := pk_un h
theorem lm (a b : Nat) : nI a * nI b = nI (a * b) := pk_mul a b
theorem la (a b : Nat) : nI a + nI b = nI (a + b) := nI_add a b
theorem nI_inj {a b : Nat} (ha : a < 2 ^ 31) (hb : b < 2 ^ 31) (h : nI a = nI b) : a = b := (nI_eq ha hb).mp h
theorem nI_nm1 {a : Nat} (ha : a < 2 ^ 31) : ¬ nI a = -1 := by
  intro h
  have h1 := congrArg Int32.toInt h
  rw [nI_toInt ha] at h1
  have h2 : (-1 : Int32).toInt = -1 := by decide
  omega
/-- within 0 and n -/
theorem wi (x : Int32) (n : Nat) (hn : n < 2 ^ 31) : (f_X11_isWithin x 0 (nI n) = some 0 ∧ f_X12_in x 0 (nI n) = some 0 ∧ ¬ ∃ j : Nat, j ≤ n ∧ x = nI j) ∨ (∃ j : Nat, j ≤ n ∧ x = nI j ∧ f_X11_isWithin x 0 (nI n) = some 1 ∧ f_X12_in x 0 (nI n) = some 1) := by
  unfold f_X11_isWithin f_X12_in
  by_cases h0 : x < 0
  · rw [if_pos h0]
    refine Or.inl ⟨rfl, rfl, ?_⟩
    rintro ⟨j, hj, rfl⟩
    exact nI_pos (by omega) h0
  · obtain ⟨j, hj, rfl⟩ := nI_of h0
    rw [if_neg h0]
    by_cases h1 : nI n < nI j
    · rw [if_pos h1]
      refine Or.inl ⟨rfl, rfl, ?_⟩
      rintro ⟨k, hk, e⟩
      have := nI_inj hj (by omega) e
      have := (nI_ltI hn hj).mp h1
      omega
    · rw [if_neg h1]
      have : j ≤ n := by
        rcases Nat.lt_or_ge n j with q | q
        · exact absurd (nI_lt q hj) h1
        · exact q
      exact Or.inr ⟨j, this, rfl, rfl, rfl⟩
theorem wi1 {j n : Nat} (h : j ≤ n) (hn : n < 2 ^ 31) : f_X11_isWithin (nI j) 0 (nI n) = some 1 ∧ f_X12_in (nI j) 0 (nI n) = some 1 := by
  unfold f_X11_isWithin f_X12_in
  rw [if_neg (nI_pos (by omega)), if_neg (nI_nlt h hn)]
  exact ⟨rfl, rfl⟩
theorem same_in (x a b : Int32) : f_X12_in x a b = f_X11_isWithin x a b := rfl
theorem wi01 (x a b : Int32) : f_X11_isWithin x a b = some 0 ∨ f_X11_isWithin x a b = some 1 := by
  unfold f_X11_isWithin
  by_cases h : x < a
  · rw [if_pos h]; exact Or.inl rfl
  · rw [if_neg h]
    by_cases h : b < x
    · rw [if_pos h]; exact Or.inl rfl
    · rw [if_neg h]; exact Or.inr rfl
theorem bs {α β : Type} (x : α) (f : α → Option β) : (some x).bind f = f x := rfl
/-! seats -/
theorem xG (g : Nat → Int32) {j : Nat} (h : j < 144) : f_X0_guestOn g (nI j) = some (g j) := by
  unfold f_X0_guestOn
  rw [if_neg (nI_pos (by omega)), if_neg (show ¬ (144 : Int32) ≤ nI j from nI_ge (b := 144) h (by decide)), ixn h (by decide), nI_clamp (by omega)]
theorem xC (g : Nat → Int32) {j : Nat} (h : j < 144) : f_X0_coatOn g (nI j) = some (g j) := by
  unfold f_X0_coatOn
  rw [if_neg (nI_pos (by omega)), if_neg (show ¬ (144 : Int32) ≤ nI j from nI_ge (b := 144) h (by decide)), ixn h (by decide), nI_clamp (by omega)]
theorem xT (g : Nat → Int32) {j : Nat} (h : j < 144) : f_X0_isTaken g (nI j) = some (if g j = -1 then 0 else 1) := by
  unfold f_X0_isTaken
  rw [xG g h, bs]
  by_cases e : g j = -1
  · rw [if_pos e, if_pos e]
  · rw [if_neg e, if_neg e]
theorem mT (g : Nat → Int32) {j : Nat} (h : j < 144) : f_X12_isTaken g (nI j) = some (if g j = -1 then 0 else 1) := by
  unfold f_X12_isTaken
  rw [Int32.zero_add, ixn (by omega) (by decide), nI_clamp (by omega)]
  by_cases e : g j = -1
  · rw [if_pos e, if_pos e]
  · rw [if_neg e, if_neg e]
def decB (s f h c i : Nat) : Bool := decide (f_X1_sideOf (nI (eX s f h c i)) = some (nI s)) && decide (f_X1_familyOf (nI (eX s f h c i)) = some (nI f)) && decide (f_X1_heightOf (nI (eX s f h c i)) = some (nI h)) && decide (f_X1_childOf (nI (eX s f h c i)) = some (nI c)) && decide (f_X1_singerOf (nI (eX s f h c i)) = some (nI i)) && decide (f_X12_sideOf (nI (eM s f h c i)) = some (nI s)) && decide (f_X12_familyOf (nI (eM s f h c i)) = some (nI f)) && decide (f_X12_heightOf (nI (eM s f h c i)) = some (nI h)) && decide (f_X12_childOf (nI (eM s f h c i)) = some (nI c)) && decide (f_X12_singerOf (nI (eM s f h c i)) = some (nI i)) && decide (¬ nI (eX s f h c i) = -1) && decide (¬ nI (eM s f h c i) = -1)
theorem dec_t : (List.range 3).all (fun s => (List.range 16).all (fun f => (List.range 10).all (fun h => (List.range 2).all (fun c => (List.range 2).all (fun i => decB s f h c i))))) = true := by decide +kernel
theorem dec_b {s f h c i : Nat} (h1 : s < 3) (h2 : f < 16) (h3 : h < 10) (h4 : c < 2) (h5 : i < 2) : decB s f h c i = true :=
  List.all_eq_true.mp (List.all_eq_true.mp (List.all_eq_true.mp (List.all_eq_true.mp (List.all_eq_true.mp dec_t s (List.mem_range.mpr h1)) f (List.mem_range.mpr h2)) h (List.mem_range.mpr h3)) c (List.mem_range.mpr h4)) i (List.mem_range.mpr h5)
theorem dec_all {s f h c i : Nat} (h1 : s < 3) (h2 : f < 16) (h3 : h < 10) (h4 : c < 2) (h5 : i < 2) : (f_X1_sideOf (nI (eX s f h c i)) = some (nI s) ∧ f_X1_familyOf (nI (eX s f h c i)) = some (nI f) ∧ f_X1_heightOf (nI (eX s f h c i)) = some (nI h) ∧ f_X1_childOf (nI (eX s f h c i)) = some (nI c) ∧ f_X1_singerOf (nI (eX s f h c i)) = some (nI i)) ∧ (f_X12_sideOf (nI (eM s f h c i)) = some (nI s) ∧ f_X12_familyOf (nI (eM s f h c i)) = some (nI f) ∧ f_X12_heightOf (nI (eM s f h c i)) = some (nI h) ∧ f_X12_childOf (nI (eM s f h c i)) = some (nI c) ∧ f_X12_singerOf (nI (eM s f h c i)) = some (nI i)) ∧ nI (eX s f h c i) ≠ -1 ∧ nI (eM s f h c i) ≠ -1 := by
  have q := dec_b h1 h2 h3 h4 h5
  simp only [decB, Bool.and_eq_true, decide_eq_true_eq] at q
  obtain ⟨⟨⟨⟨⟨⟨⟨⟨⟨⟨⟨a1, a2⟩, a3⟩, a4⟩, a5⟩, b1⟩, b2⟩, b3⟩, b4⟩, b5⟩, c1⟩, c2⟩ := q
  exact ⟨⟨a1, a2, a3, a4, a5⟩, ⟨b1, b2, b3, b4, b5⟩, c1, c2⟩
/-- what both read of a guest -/
theorem GR.dec {x m : Int32} (g : GR x m) : ∃ s f h c i : Nat, s < 3 ∧ f < 16 ∧ h < 10 ∧ c < 2 ∧ i < 2 ∧ (f_X1_sideOf x = some (nI s) ∧ f_X1_familyOf x = some (nI f) ∧ f_X1_heightOf x = some (nI h) ∧ f_X1_childOf x = some (nI c) ∧ f_X1_singerOf x = some (nI i)) ∧ (f_X12_sideOf m = some (nI s) ∧ f_X12_familyOf m = some (nI f) ∧ f_X12_heightOf m = some (nI h) ∧ f_X12_childOf m = some (nI c) ∧ f_X12_singerOf m = some (nI i)) ∧ x ≠ -1 ∧ m ≠ -1 := by
  obtain ⟨s, f, h, c, i, h1, h2, h3, h4, h5, rfl, rfl⟩ := g
  obtain ⟨a, b, c1, c2⟩ := dec_all h1 h2 h3 h4 h5
  exact ⟨s, f, h, c, i, h1, h2, h3, h4, h5, a, b, c1, c2⟩
theorem SR.iff {x m : Int32} (h : SR x m) : x = -1 ↔ m = -1 := by
  rcases h with ⟨rfl, rfl⟩ | h
  · exact ⟨fun _ => rfl, fun _ => rfl⟩
  · obtain ⟨_, _, _, _, _, _, _, _, _, _, _, _, a, b⟩ := h.dec
    exact ⟨fun e => absurd e a, fun e => absurd e b⟩
theorem SR.gr {x m : Int32} (h : SR x m) (hx : x ≠ -1) : GR x m := h.elim (fun q => absurd q.1 hx) id
