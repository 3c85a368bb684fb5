/-! loops as folds -/
def fo {σ : Type} (st : Nat → σ → σ) : Nat → σ → σ
  | 0, s => s
  | n + 1, s => st n (fo st n s)
theorem fl {σ ρ : Type} (N : Nat) (st : Nat → σ → σ) (L : Nat → Nat → σ → Option ρ) (out : σ → Option ρ) (hx : ∀ (F : Nat) (s : σ), L (F + 1) N s = out s) (hs : ∀ (F i : Nat) (s : σ), i < N → L (F + 1) i s = L F (i + 1) (st i s)) (s : σ) {F : Nat} (hF : N < F) : L F 0 s = out (fo st N s) := by
  have key := loop1 N (fun i t => t = fo st i s) L (fun o => o = out (fo st N s)) (fun F t hI => by rw [hx, hI]) (fun F i t hi hI ih => by rw [hs F i t hi]; exact ih _ (by rw [hI]; rfl)) N 0 s F (by omega) hF rfl
  exact key
theorem fo_cong {σ : Type} {st st' : Nat → σ → σ} : ∀ {n : Nat} {s : σ}, (∀ i : Nat, i < n → ∀ s, st i s = st' i s) → fo st n s = fo st' n s
  | 0, _, _ => rfl
  | n + 1, s, h => by
    show st n (fo st n s) = st' n (fo st' n s)
    rw [fo_cong (fun i hi => h i (by omega)), h n (by omega)]
theorem fo_add {σ : Type} (st : Nat → σ → σ) (a : Nat) (s : σ) : ∀ b : Nat, fo st (a + b) s = fo (fun i => st (a + i)) b (fo st a s)
  | 0 => rfl
  | b + 1 => by
    show st (a + b) (fo st (a + b) s) = st (a + b) (fo (fun i => st (a + i)) b (fo st a s))
    rw [fo_add st a s b]
/-- counting -/
def cS (p : Nat → Bool) (a : Nat) : Nat → Int32 → Int32 := fun i s => if p (a + i) then s + 1 else s
def ct (p : Nat → Bool) (a : Nat) : Nat → Nat
  | 0 => 0
  | n + 1 => ct p a n + (if p (a + n) then 1 else 0)
theorem ct_le (p : Nat → Bool) (a : Nat) : ∀ n, ct p a n ≤ n
  | 0 => Nat.le_refl 0
  | n + 1 => by
    have := ct_le p a n
    show ct p a n + (if p (a + n) then 1 else 0) ≤ n + 1
    split <;> omega
theorem fo_ct (p : Nat → Bool) (a m : Nat) : ∀ n, fo (cS p a) n (nI m) = nI (m + ct p a n)
  | 0 => rfl
  | n + 1 => by
    show cS p a n (fo (cS p a) n (nI m)) = nI (m + (ct p a n + (if p (a + n) then 1 else 0)))
    rw [fo_ct p a m n]
    unfold cS
    by_cases h : p (a + n)
    · rw [if_pos h, if_pos h, nI_1]; rfl
    · rw [if_neg h, if_neg h]; rfl
theorem ct_cong {p q : Nat → Bool} {a : Nat} : ∀ {n : Nat}, (∀ i : Nat, i < n → p (a + i) = q (a + i)) → ct p a n = ct q a n
  | 0, _ => rfl
  | n + 1, h => by
    show ct p a n + (if p (a + n) then 1 else 0) = ct q a n + (if q (a + n) then 1 else 0)
    rw [ct_cong (fun i hi => h i (by omega)), h n (by omega)]
theorem ct_add (p : Nat → Bool) (a n : Nat) : ∀ m, ct p a (n + m) = ct p a n + ct p (a + n) m
  | 0 => rfl
  | m + 1 => by
    show ct p a (n + m) + (if p (a + (n + m)) then 1 else 0) = ct p a n + (ct p (a + n) m + (if p (a + n + m) then 1 else 0))
    rw [ct_add p a n m, show a + (n + m) = a + n + m by omega]
    omega
def tk (g : Nat → Int32) (k : Nat) : Bool := !decide (g k = -1)
def faX (x : Int32) : Int32 := (x >>> (2 &&& 31)) &&& 15
def faM (x : Int32) : Int32 := jrem (x / 3) 16
def hiX (x : Int32) : Int32 := (x >>> (6 &&& 31)) &&& 15
def tbX (g : Nat → Int32) (f : Int32) (k : Nat) : Bool := !decide (g k = -1) && decide (faX (g k) = f)
def tbM (g : Nat → Int32) (f : Int32) (k : Nat) : Bool := !decide (g k = -1) && decide (faM (g k) = f)
theorem tk_t {g : Nat → Int32} {k : Nat} : tk g k = true ↔ ¬ g k = -1 := by unfold tk; simp
theorem tk_f {g : Nat → Int32} {k : Nat} (h : g k = -1) : ¬ tk g k = true := by unfold tk; simp [h]
theorem m9 (p i : Nat) : nI p * 9 + nI i = nI (9 * p + i) := by
  show nI p * nI 9 + nI i = _
  rw [lm, la, Nat.mul_comm]
theorem m9' (p i : Nat) : 9 * nI p + nI i = nI (9 * p + i) := by
  show nI 9 * nI p + nI i = _
  rw [lm, la]
theorem m9'' (p : Nat) : 9 * nI p = nI (9 * p) := lm 9 p
theorem m8 (p i : Nat) : nI p * 8 + nI i = nI (8 * p + i) := by
  show nI p * nI 8 + nI i = _
  rw [lm, la, Nat.mul_comm]
theorem m8' (p i : Nat) : 8 * nI p + nI i = nI (8 * p + i) := by
  show nI 8 * nI p + nI i = _
  rw [lm, la]
theorem pew_eq (s r : Nat) : f_X11_pewOf (nI s) (nI r) = some (nI (8 * s + r)) := by
  unfold f_X11_pewOf
  rw [m8]
theorem le_lit {a b : Nat} (h : a ≤ b) (hb : b < 2 ^ 31) : nI a ≤ nI b := nI_le h hb
theorem xSF (g : Nat → Int32) {a n : Nat} (h : a + n ≤ 144) : f_X0_sittingFrom g (nI a) (nI (a + n)) = some (nI (ct (tk g) a n)) := by
  unfold f_X0_sittingFrom
  have e : (if (0 : Int32) < nI a then nI a else 0) = nI a := by
    by_cases h0 : (0 : Int32) < nI a
    · rw [if_pos h0]
    · rw [if_neg h0]
      rcases Nat.eq_zero_or_pos a with q | q
      · subst q; rfl
      · exact absurd (show nI 0 < nI a from nI_lt q (by omega)) h0
  rw [e]
  have key := fl n (cS (tk g) a) (fun F i s => f_X0_sittingFrom_9 g F (nI (a + n)) s (nI (a + i))) some ?_ ?_ (nI 0) (F := FU) (by unfold FU; omega)
  · rw [fo_ct, Nat.zero_add] at key
    exact key
  · intro F s
    show f_X0_sittingFrom_9 g (F + 1) (nI (a + n)) s (nI (a + n)) = some s
    rw [f_X0_sittingFrom_9, if_pos (nI_le (Nat.le_refl _) (by omega))]
  · intro F i s hi
    show f_X0_sittingFrom_9 g (F + 1) (nI (a + n)) s (nI (a + i)) = f_X0_sittingFrom_9 g F (nI (a + n)) (cS (tk g) a i s) (nI (a + (i + 1)))
    rw [f_X0_sittingFrom_9, if_neg (nI_ge (by omega) (by omega)), if_neg (show ¬ (144 : Int32) ≤ nI (a + i) from nI_ge (b := 144) (by omega) (by decide)), ixn (by omega) (by decide), nI_clamp (by omega), nI_1]
    unfold cS
    by_cases c : g (a + i) = -1
    · rw [if_pos c, if_neg (tk_f c)]; rfl
    · rw [if_neg c, if_pos (tk_t.mpr c)]; rfl
theorem xSI (g : Nat → Int32) {p : Nat} (h : p < 16) : f_X0_sittingIn g (nI p) = some (nI (ct (tk g) (9 * p) 9)) := by
  unfold f_X0_sittingIn
  rw [show nI p * 9 = nI (9 * p) by rw [Nat.mul_comm]; exact lm p 9, show nI (9 * p) + 9 = nI (9 * p + 9) from la _ 9, xSF g (by omega)]
  rfl
theorem xSO (g : Nat → Int32) {p : Nat} (h : p < 2) : f_X0_sittingOn g (nI p) = some (nI (ct (tk g) (72 * p) 72)) := by
  unfold f_X0_sittingOn
  rw [show nI p * 72 = nI (72 * p) by rw [Nat.mul_comm]; exact lm p 72, show nI (72 * p) + 72 = nI (72 * p + 72) from la _ 72, xSF g (by omega)]
  rfl
theorem mSI (g : Nat → Int32) {p : Nat} (h : p < 16) : f_X12_sittersIn g (nI p) = some (nI (ct (tk g) (9 * p) 9)) := by
  unfold f_X12_sittersIn
  have key := fl 9 (cS (tk g) (9 * p)) (fun F i s => f_X12_sittersIn_4 g F (nI p) s (nI i)) some ?_ ?_ (nI 0) (F := FU) (by unfold FU; omega)
  · rw [fo_ct, Nat.zero_add] at key
    exact key
  · intro F s
    show f_X12_sittersIn_4 g (F + 1) (nI p) s (nI 9) = some s
    rw [f_X12_sittersIn_4, if_pos (show (9 : Int32) ≤ nI 9 from nI_le (Nat.le_refl _) (by decide))]
  · intro F i s hi
    show f_X12_sittersIn_4 g (F + 1) (nI p) s (nI i) = f_X12_sittersIn_4 g F (nI p) (cS (tk g) (9 * p) i s) (nI (i + 1))
    rw [f_X12_sittersIn_4, if_neg (show ¬ (9 : Int32) ≤ nI i from nI_ge (b := 9) (by omega) (by decide)), m9', mT g (by omega), bs, nI_1]
    unfold cS
    by_cases c : g (9 * p + i) = -1
    · rw [if_pos c, if_neg (tk_f c), if_pos rfl]
    · rw [if_neg c, if_pos (tk_t.mpr c), if_neg i10]
theorem mSO (g : Nat → Int32) {p : Nat} (h : p < 2) : f_X12_sittersOn g (nI p) = some (nI (ct (tk g) (72 * p) 72)) := by
  unfold f_X12_sittersOn
  have key := loop1 8 (fun i (s : Int32) => s = nI (ct (tk g) (72 * p) (9 * i))) (fun F i s => f_X12_sittersOn_4 g F (nI p) s (nI i)) (fun o => o = some (nI (ct (tk g) (72 * p) 72))) ?_ ?_ 8 0 (nI 0) FU (by omega) (by unfold FU; omega) rfl
  · exact key
  · intro F s hI
    show f_X12_sittersOn_4 g (F + 1) (nI p) s (nI 8) = _
    rw [f_X12_sittersOn_4, if_pos (show (8 : Int32) ≤ nI 8 from nI_le (Nat.le_refl _) (by decide)), hI]
  · intro F i s hi hI ih
    show f_X12_sittersOn_4 g (F + 1) (nI p) s (nI i) = _
    rw [f_X12_sittersOn_4, if_neg (show ¬ (8 : Int32) ≤ nI i from nI_ge (b := 8) (by omega) (by decide)), m8', mSI g (by omega), bs, nI_1]
    refine ih _ ?_
    rw [hI, la, show 9 * (i + 1) = 9 * i + 9 by omega, ct_add, show 72 * p + 9 * i = 9 * (8 * p + i) by omega]
theorem xTB (g : Nat → Int32) (f : Int32) {j : Nat} (h : j < 144) : f_X0_isTakenBy g (nI j) f = some (if tbX g f j then 1 else 0) := by
  unfold f_X0_isTakenBy
  rw [xG g h, bs]
  unfold tbX
  by_cases c : g j = -1
  · rw [if_pos c, if_neg (by simp [c])]
  · rw [if_neg c]
    show (if faX (g j) = f then some (1 : Int32) else some 0) = _
    by_cases d : faX (g j) = f
    · rw [if_pos d, if_pos (by simp [c, d])]
    · rw [if_neg d, if_neg (by simp [d])]
theorem xOI (g : Nat → Int32) (f : Int32) {p : Nat} (h : p < 16) : f_X0_sittingOfIn g f (nI p) = some (nI (ct (tbX g f) (9 * p) 9)) := by
  unfold f_X0_sittingOfIn
  have key := fl 9 (cS (tbX g f) (9 * p)) (fun F i s => f_X0_sittingOfIn_5 g F f (nI p) s (nI i)) some ?_ ?_ (nI 0) (F := FU) (by unfold FU; omega)
  · rw [fo_ct, Nat.zero_add] at key
    exact key
  · intro F s
    show f_X0_sittingOfIn_5 g (F + 1) f (nI p) s (nI 9) = some s
    rw [f_X0_sittingOfIn_5, if_pos (show (9 : Int32) ≤ nI 9 from nI_le (Nat.le_refl _) (by decide))]
  · intro F i s hi
    show f_X0_sittingOfIn_5 g (F + 1) f (nI p) s (nI i) = f_X0_sittingOfIn_5 g F f (nI p) (cS (tbX g f) (9 * p) i s) (nI (i + 1))
    rw [f_X0_sittingOfIn_5, if_neg (show ¬ (9 : Int32) ≤ nI i from nI_ge (b := 9) (by omega) (by decide)), m9, xTB g f (by omega), bs, nI_1]
    unfold cS
    by_cases c : tbX g f (9 * p + i) = true
    · rw [if_pos c, if_neg i10, if_pos c]
    · rw [if_neg c, if_pos rfl, if_neg c]
theorem xOA (g : Nat → Int32) (f : Int32) : f_X0_sittingOf g f = some (nI (ct (tbX g f) 0 144)) := by
  unfold f_X0_sittingOf
  have key := loop1 16 (fun i (s : Int32) => s = nI (ct (tbX g f) 0 (9 * i))) (fun F i s => f_X0_sittingOf_4 g F f s (nI i)) (fun o => o = some (nI (ct (tbX g f) 0 144))) ?_ ?_ 16 0 (nI 0) FU (by omega) (by unfold FU; omega) rfl
  · exact key
  · intro F s hI
    show f_X0_sittingOf_4 g (F + 1) f s (nI 16) = _
    rw [f_X0_sittingOf_4, if_pos (show (16 : Int32) ≤ nI 16 from nI_le (Nat.le_refl _) (by decide)), hI]
  · intro F i s hi hI ih
    show f_X0_sittingOf_4 g (F + 1) f s (nI i) = _
    rw [f_X0_sittingOf_4, if_neg (show ¬ (16 : Int32) ≤ nI i from nI_ge (b := 16) (by omega) (by decide)), xOI g f (by omega), bs, nI_1]
    refine ih _ ?_
    rw [hI, la, show 9 * (i + 1) = 9 * i + 9 by omega, ct_add, Nat.zero_add]
theorem mOI (g : Nat → Int32) (f : Int32) {p : Nat} (h : p < 16) : f_X12_familyIn g (nI p) f = some (nI (ct (tbM g f) (9 * p) 9)) := by
  unfold f_X12_familyIn
  rw [m9'']
  have key := fl 9 (cS (tbM g f) (9 * p)) (fun F i s => f_X12_familyIn_8 g F (nI p) f s (nI (9 * p + i))) some ?_ ?_ (nI 0) (F := FU) (by unfold FU; omega)
  · rw [fo_ct, Nat.zero_add] at key
    exact key
  · intro F s
    show f_X12_familyIn_8 g (F + 1) (nI p) f s (nI (9 * p + 9)) = some s
    rw [f_X12_familyIn_8, m9'', if_pos (show nI (9 * p) + 9 ≤ nI (9 * p + 9) from by rw [show nI (9 * p) + 9 = nI (9 * p + 9) from la _ 9]; exact nI_le (Nat.le_refl _) (by omega))]
  · intro F i s hi
    show f_X12_familyIn_8 g (F + 1) (nI p) f s (nI (9 * p + i)) = f_X12_familyIn_8 g F (nI p) f (cS (tbM g f) (9 * p) i s) (nI (9 * p + (i + 1)))
    rw [f_X12_familyIn_8, m9'', show nI (9 * p) + 9 = nI (9 * p + 9) from la _ 9, if_neg (nI_ge (by omega) (by omega)), mT g (by omega), bs, nI_1, Int32.zero_add, ixn (by omega) (by decide), nI_clamp (by omega)]
    unfold cS tbM
    by_cases c : g (9 * p + i) = -1
    · rw [if_pos c, if_pos rfl, if_neg (by simp [c])]; rfl
    · rw [if_neg c, if_neg i10]
      show (if faM (g (9 * p + i)) = f then _ else _) = _
      by_cases d : faM (g (9 * p + i)) = f
      · rw [if_pos d, if_pos (by simp [c, d])]; rfl
      · rw [if_neg d, if_neg (by simp [d])]; rfl
theorem mOA (g : Nat → Int32) (f : Int32) : f_X12_familyAll g f = some (nI (ct (tbM g f) 0 144)) := by
  unfold f_X12_familyAll
  have key := loop1 16 (fun i (s : Int32) => s = nI (ct (tbM g f) 0 (9 * i))) (fun F i s => f_X12_familyAll_4 g F f s (nI i)) (fun o => o = some (nI (ct (tbM g f) 0 144))) ?_ ?_ 16 0 (nI 0) FU (by omega) (by unfold FU; omega) rfl
  · exact key
  · intro F s hI
    show f_X12_familyAll_4 g (F + 1) f s (nI 16) = _
    rw [f_X12_familyAll_4, if_pos (show (16 : Int32) ≤ nI 16 from nI_le (Nat.le_refl _) (by decide)), hI]
  · intro F i s hi hI ih
    show f_X12_familyAll_4 g (F + 1) f s (nI i) = _
    rw [f_X12_familyAll_4, if_neg (show ¬ (16 : Int32) ≤ nI i from nI_ge (b := 16) (by omega) (by decide)), mOI g f (by omega), bs, nI_1]
    refine ih _ ?_
    rw [hI, la, show 9 * (i + 1) = 9 * i + 9 by omega, ct_add, Nat.zero_add]
/-! both seats alike -/
theorem SR.fa {x m : Int32} (h : SR x m) (hx : ¬ x = -1) : faX x = faM m := by
  obtain ⟨s, f, h', c, i, _, _, _, _, _, ⟨_, a, _⟩, ⟨_, b, _⟩, _⟩ := (h.gr hx).dec
  exact (Option.some.inj a).trans (Option.some.inj b).symm
def Al (gu now : Nat → Int32) : Prop := ∀ k : Nat, k < 144 → SR (gu k) (now k)
theorem Al_tk {gu now : Nat → Int32} (h : Al gu now) {k : Nat} (hk : k < 144) : tk gu k = tk now k := by
  unfold tk
  simp only [(h k hk).iff]
theorem Al_tb {gu now : Nat → Int32} (h : Al gu now) (f : Int32) {k : Nat} (hk : k < 144) : tbX gu f k = tbM now f k := by
  unfold tbX tbM
  by_cases c : gu k = -1
  · have d := (h k hk).iff.mp c
    simp [c, d]
  · have d : ¬ now k = -1 := fun e => c ((h k hk).iff.mpr e)
    simp [c, d, (h k hk).fa c]
theorem Al_ct {gu now : Nat → Int32} (h : Al gu now) {a n : Nat} (hn : a + n ≤ 144) : ct (tk gu) a n = ct (tk now) a n := ct_cong (fun i hi => Al_tk h (by omega))
theorem Al_cf {gu now : Nat → Int32} (h : Al gu now) (f : Int32) {a n : Nat} (hn : a + n ≤ 144) : ct (tbX gu f) a n = ct (tbM now f) a n := ct_cong (fun i hi => Al_tb h f (by omega))
