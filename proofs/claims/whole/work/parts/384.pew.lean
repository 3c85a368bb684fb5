/-! pew -/
def rn (p : Nat → Bool) : Nat → Nat
  | 0 => 0
  | j + 1 => if p j then rn p j + 1 else 0
def lg (p : Nat → Bool) : Nat → Nat
  | 0 => 0
  | j + 1 => max (lg p j) (rn p (j + 1))
theorem rn_le (p : Nat → Bool) : ∀ j, rn p j ≤ j
  | 0 => Nat.le_refl _
  | j + 1 => by
    have := rn_le p j
    show (if p j then rn p j + 1 else 0) ≤ j + 1
    by_cases h : p j = true
    · rw [if_pos h]; omega
    · rw [if_neg h]; omega
theorem lg_le (p : Nat → Bool) : ∀ j, lg p j ≤ j
  | 0 => Nat.le_refl _
  | j + 1 => by
    have := lg_le p j
    have := rn_le p (j + 1)
    show max _ _ ≤ _
    omega
theorem rn_t {p : Nat → Bool} {j : Nat} (h : p j = true) : rn p (j + 1) = rn p j + 1 := if_pos h
theorem rn_f {p : Nat → Bool} {j : Nat} (h : p j = false) : rn p (j + 1) = 0 := by
  show (if p j then rn p j + 1 else 0) = 0
  rw [h]; rfl
theorem mxI {a b : Nat} (ha : a < 2 ^ 31) (hb : b < 2 ^ 31) : (if nI a < nI b then nI b else nI a) = nI (max a b) := by
  by_cases h : a < b
  · rw [if_pos (nI_lt h hb), show max a b = b by omega]
  · rw [if_neg (nI_nlt (by omega) ha), show max a b = a by omega]
theorem mxM {a b : Nat} (ha : a < 2 ^ 31) (hb : b < 2 ^ 31) : f_X12_max (nI a) (nI b) = some (nI (max a b)) := by
  unfold f_X12_max
  by_cases h : a ≤ b
  · rw [if_pos (nI_le h hb), show max a b = b by omega]
  · rw [if_neg (nI_ge (by omega) ha), show max a b = a by omega]
theorem xLT (g : Nat → Int32) {P : Nat} (hP : P < 16) : f_X5_longestTaken g (nI P) = some (nI (lg (fun j => tk g (9 * P + j)) 9)) := by
  unfold f_X5_longestTaken
  refine loop1 9 (fun _ (_ : Unit) => True) (fun F i _ => f_X5_longestTaken_8 g F (nI P) (nI (lg (fun j => tk g (9 * P + j)) i)) (nI (rn (fun j => tk g (9 * P + j)) i)) (nI i)) (fun o => o = _) ?_ ?_ 9 0 () FU (by omega) (by unfold FU; omega) trivial
  · intro F _ _
    show f_X5_longestTaken_8 g (F + 1) (nI P) _ _ (nI 9) = _
    rw [f_X5_longestTaken_8, if_pos (by decide)]
  · intro F i _ hi _ ih
    have ih := ih () trivial
    have l1 := lg_le (fun j => tk g (9 * P + j)) i
    have r1 := rn_le (fun j => tk g (9 * P + j)) i
    show f_X5_longestTaken_8 g (F + 1) (nI P) _ _ (nI i) = _
    rw [f_X5_longestTaken_8, if_neg (show ¬ (9 : Int32) ≤ nI i from nI_ge (b := 9) (by omega) (by decide)), m9, xT g (by omega), bs]
    unfold f_X5_longestTaken_37
    by_cases d : g (9 * P + i) = -1
    · rw [if_pos d, if_pos rfl, nI_1, show (0 : Int32) = nI (rn (fun j => tk g (9 * P + j)) (i + 1)) by rw [rn_f (p := fun j => tk g (9 * P + j)) (j := i) (tk_false d)]; rfl, mxI (by omega) (by have := rn_le (fun j => tk g (9 * P + j)) (i + 1); omega)]
      exact ih
    · rw [if_neg d, if_neg i10, nI_1, nI_1, ← rn_t (p := fun j => tk g (9 * P + j)) (tk_true d), mxI (by omega) (by have := rn_le (fun j => tk g (9 * P + j)) (i + 1); omega)]
      exact ih
theorem mRT (g : Nat → Int32) {P : Nat} (hP : P < 16) : f_X12_ringOf g (nI P) 0 = some (nI (lg (fun j => tk g (9 * P + j)) 9)) := by
  unfold f_X12_ringOf
  rw [m9'']
  have e9 : nI (9 * P) + 9 = nI (9 * P + 9) := la _ 9
  refine loop1 9 (fun _ (_ : Unit) => True) (fun F i _ => f_X12_ringOf_11 g F (nI P) 0 (nI (lg (fun j => tk g (9 * P + j)) i)) (nI (rn (fun j => tk g (9 * P + j)) i)) (nI (9 * P + i))) (fun o => o = _) ?_ ?_ 9 0 () FU (by omega) (by unfold FU; omega) trivial
  · intro F _ _
    show f_X12_ringOf_11 g (F + 1) (nI P) 0 _ _ (nI (9 * P + 9)) = _
    rw [f_X12_ringOf_11, m9'', e9, if_pos (nI_le (Nat.le_refl _) (by omega))]
  · intro F i _ hi _ ih
    have ih := ih () trivial
    have l1 := lg_le (fun j => tk g (9 * P + j)) i
    have r1 := rn_le (fun j => tk g (9 * P + j)) i
    have r2 := rn_le (fun j => tk g (9 * P + j)) (i + 1)
    show f_X12_ringOf_11 g (F + 1) (nI P) 0 _ _ (nI (9 * P + i)) = _
    have st : ∀ y : Int32, f_X12_ringOf_94 g (f_X12_ringOf_11 g F) (nI P) 0 (nI (lg (fun j => tk g (9 * P + j)) i)) (nI (9 * P + i)) y = f_X12_ringOf_94 g (f_X12_ringOf_11 g F) (nI P) 0 (nI (lg (fun j => tk g (9 * P + j)) i)) (nI (9 * P + i)) y := fun _ => rfl
    have fin : f_X12_ringOf_94 g (f_X12_ringOf_11 g F) (nI P) 0 (nI (lg (fun j => tk g (9 * P + j)) i)) (nI (9 * P + i)) (nI (rn (fun j => tk g (9 * P + j)) (i + 1))) = some (nI (lg (fun j => tk g (9 * P + j)) 9)) := by
      unfold f_X12_ringOf_94
      rw [mxM (by omega) (by omega), bs, nI_1]
      exact ih
    rw [f_X12_ringOf_11, m9'', e9, if_neg (nI_ge (by omega) (by omega)), if_pos rfl]
    unfold f_X12_ringOf_65 f_X12_ringOf_66
    rw [mT g (by omega), bs, bs]
    by_cases d : g (9 * P + i) = -1
    · rw [if_pos d, if_pos rfl, if_pos rfl]
      rw [rn_f (p := fun j => tk g (9 * P + j)) (j := i) (tk_false d)] at fin
      rw [show f_X12_ringOf_94 g (f_X12_ringOf_11 g F) (nI P) 0 (nI (lg (fun j => tk g (9 * P + j)) i)) (nI (9 * P + i)) 0 = _ from fin]
      by_cases z : nI (rn (fun j => tk g (9 * P + j)) i) ≤ 0
      · rw [if_pos z]
      · rw [if_neg z]
    · rw [if_neg d, if_neg i10, if_neg i10, if_pos rfl, if_neg i10, nI_1]
      rw [rn_t (p := fun j => tk g (9 * P + j)) (tk_true d)] at fin
      by_cases z : nI (rn (fun j => tk g (9 * P + j)) i) ≤ 0
      · have : rn (fun j => tk g (9 * P + j)) i = 0 := by
          rcases Nat.eq_zero_or_pos (rn (fun j => tk g (9 * P + j)) i) with q | q
          · exact q
          · exact absurd z (nI_nle q (by omega))
        rw [if_pos z]
        rw [this] at fin
        exact fin
      · rw [if_neg z]
        exact fin
/-- the longest of all families before f -/
def mxf (p : Nat → Nat → Bool) : Nat → Nat
  | 0 => 0
  | f + 1 => max (mxf p f) (lg (p f) 9)
theorem mxf_le (p : Nat → Nat → Bool) : ∀ f, mxf p f ≤ 9
  | 0 => by show 0 ≤ 9; omega
  | f + 1 => by
    have := mxf_le p f
    have := lg_le (p f) 9
    show max _ _ ≤ _
    omega
theorem xLF (g : Nat → Int32) {P : Nat} (hP : P < 16) : f_X5_longestOfOneFamily g (nI P) = some (nI (mxf (fun f j => tbX g (nI f) (9 * P + j)) 16)) := by
  unfold f_X5_longestOfOneFamily
  generalize hp : (fun (f j : Nat) => tbX g (nI f) (9 * P + j)) = p
  refine loop1 16 (fun _ (_ : Unit) => True) (fun F i _ => f_X5_longestOfOneFamily_5 g F (nI P) (nI (mxf p i)) (nI i)) (fun o => o = _) ?_ ?_ 16 0 () FU (by omega) (by unfold FU; omega) trivial
  · intro F _ _
    show f_X5_longestOfOneFamily_5 g (F + 1) (nI P) _ (nI 16) = _
    rw [f_X5_longestOfOneFamily_5, if_pos (by decide)]
  · intro F f _ hf _ ih
    have ih := ih () trivial
    have m1 := mxf_le p f
    show f_X5_longestOfOneFamily_5 g (F + 1) (nI P) _ (nI f) = _
    rw [f_X5_longestOfOneFamily_5, if_neg (show ¬ (16 : Int32) ≤ nI f from nI_ge (b := 16) (by omega) (by decide))]
    refine loop1 9 (fun i (s : Int32) => s = nI (max (mxf p f) (lg (p f) i))) (fun G i s => f_X5_longestOfOneFamily_18 g (f_X5_longestOfOneFamily_5 g F) G (nI P) s (nI f) (nI (rn (p f) i)) (nI i)) (fun o => o = _) ?_ ?_ 9 0 (nI (mxf p f)) FU (by omega) (by unfold FU; omega) (by rw [show lg (p f) 0 = 0 from rfl, Nat.max_zero])
    · intro G s hs
      show f_X5_longestOfOneFamily_18 g (f_X5_longestOfOneFamily_5 g F) (G + 1) (nI P) s (nI f) _ (nI 9) = _
      rw [f_X5_longestOfOneFamily_18, if_pos (by decide), nI_1, hs]
      exact ih
    · intro G i s hi hs ih2
      have l1 := lg_le (p f) i
      have r1 := rn_le (p f) i
      have r2 := rn_le (p f) (i + 1)
      show f_X5_longestOfOneFamily_18 g (f_X5_longestOfOneFamily_5 g F) (G + 1) (nI P) s (nI f) _ (nI i) = _
      rw [f_X5_longestOfOneFamily_18, if_neg (show ¬ (9 : Int32) ≤ nI i from nI_ge (b := 9) (by omega) (by decide)), m9, xTB g _ (by omega), bs, show tbX g (nI f) (9 * P + i) = p f i by rw [← hp]]
      unfold f_X5_longestOfOneFamily_49
      rw [nI_1, hs]
      cases d : p f i with
      | false =>
        rw [show (if false = true then (1 : Int32) else 0) = 0 from rfl, if_pos rfl]
        refine (ih2 (nI (max (mxf p f) (lg (p f) (i + 1)))) rfl : f_X5_longestOfOneFamily_18 g (f_X5_longestOfOneFamily_5 g F) G (nI P) _ (nI f) (nI (rn (p f) (i + 1))) (nI (i + 1)) = _).symm ▸ ?_
        rw [rn_f d, show (0 : Int32) = nI 0 from rfl, mxI (by omega) (by omega), show lg (p f) (i + 1) = max (lg (p f) i) (rn (p f) (i + 1)) from rfl, rn_f d]
        rw [show max (max (mxf p f) (lg (p f) i)) 0 = max (mxf p f) (max (lg (p f) i) 0) by omega]
      | true =>
        rw [show (if true = true then (1 : Int32) else 0) = 1 from rfl, if_neg i10]
        refine (ih2 (nI (max (mxf p f) (lg (p f) (i + 1)))) rfl : f_X5_longestOfOneFamily_18 g (f_X5_longestOfOneFamily_5 g F) G (nI P) _ (nI f) (nI (rn (p f) (i + 1))) (nI (i + 1)) = _).symm ▸ ?_
        rw [rn_t d, nI_1, mxI (by omega) (by omega), show lg (p f) (i + 1) = max (lg (p f) i) (rn (p f) (i + 1)) from rfl, rn_t d]
        rw [show max (max (mxf p f) (lg (p f) i)) (rn (p f) i + 1) = max (mxf p f) (max (lg (p f) i) (rn (p f) i + 1)) by omega]
/-- of one family, as they sit -/
def srn (T : Nat → Bool) (fa : Nat → Nat) : Nat → Nat
  | 0 => 0
  | j + 1 => if T j then (if 0 < srn T fa j ∧ fa j = fa (j - 1) then srn T fa j + 1 else 1) else 0
def slg (T : Nat → Bool) (fa : Nat → Nat) : Nat → Nat
  | 0 => 0
  | j + 1 => max (slg T fa j) (srn T fa (j + 1))
theorem srn_le (T : Nat → Bool) (fa : Nat → Nat) : ∀ j, srn T fa j ≤ j
  | 0 => Nat.le_refl _
  | j + 1 => by
    have := srn_le T fa j
    show (if T j then (if 0 < srn T fa j ∧ fa j = fa (j - 1) then srn T fa j + 1 else 1) else 0) ≤ j + 1
    split
    · split <;> omega
    · omega
theorem slg_le (T : Nat → Bool) (fa : Nat → Nat) : ∀ j, slg T fa j ≤ j
  | 0 => Nat.le_refl _
  | j + 1 => by
    have := slg_le T fa j
    have := srn_le T fa (j + 1)
    show max _ _ ≤ _
    omega
theorem srn_rn {p : Nat → Nat → Bool} {T : Nat → Bool} {fa : Nat → Nat} (hp : ∀ f j : Nat, p f j = (T j && decide (fa j = f))) : ∀ j f : Nat, rn (p f) (j + 1) = if T j ∧ fa j = f then srn T fa (j + 1) else 0 := by
  intro j
  induction j with
  | zero =>
    intro f
    show (if p f 0 then 0 + 1 else 0) = if T 0 ∧ fa 0 = f then (if T 0 then (if 0 < 0 ∧ fa 0 = fa (0 - 1) then 0 + 1 else 1) else 0) else 0
    rw [hp]
    cases T 0 <;> by_cases e : fa 0 = f <;> simp [e]
  | succ j ih =>
    intro f
    show (if p f (j + 1) then rn (p f) (j + 1) + 1 else 0) = if T (j + 1) ∧ fa (j + 1) = f then (if T (j + 1) then (if 0 < srn T fa (j + 1) ∧ fa (j + 1) = fa (j + 1 - 1) then srn T fa (j + 1) + 1 else 1) else 0) else 0
    rw [hp, ih f, Nat.add_sub_cancel]
    cases hT : T (j + 1) with
    | false => simp
    | true =>
      by_cases e : fa (j + 1) = f
      · simp only [e, decide_true, Bool.and_self, if_true, and_self, if_pos]
        cases hT2 : T j with
        | false =>
          rw [if_neg (by simp), if_neg (by rw [show srn T fa (j + 1) = 0 by show (if T j then _ else 0) = 0; rw [hT2]; rfl]; omega)]
        | true =>
          by_cases e2 : fa j = f
          · have : 0 < srn T fa (j + 1) := by
              show 0 < (if T j then _ else 0)
              rw [hT2, if_pos rfl]
              split <;> omega
            rw [if_pos ⟨rfl, e2⟩, if_pos ⟨this, e2.symm⟩]
          · rw [if_neg (fun q => e2 q.2), if_neg (fun q => e2 q.2.symm)]
      · simp [e]
theorem slg_mxf {p : Nat → Nat → Bool} {T : Nat → Bool} {fa : Nat → Nat} (hp : ∀ f j : Nat, p f j = (T j && decide (fa j = f))) (hf : ∀ j : Nat, fa j < 16) : slg T fa 9 = mxf p 16 := by
  have A : ∀ (j f : Nat), lg (p f) j ≤ slg T fa j := by
    intro j
    induction j with
    | zero => intro f; exact Nat.le_refl _
    | succ j ih =>
      intro f
      show max _ _ ≤ max _ _
      have := ih f
      have q : rn (p f) (j + 1) ≤ srn T fa (j + 1) := by rw [srn_rn hp j f]; split <;> omega
      omega
  have B : ∀ j : Nat, ∃ f, f < 16 ∧ lg (p f) j = slg T fa j := by
    intro j
    induction j with
    | zero => exact ⟨0, by omega, rfl⟩
    | succ j ih =>
      obtain ⟨f, h1, h2⟩ := ih
      by_cases c : srn T fa (j + 1) ≤ slg T fa j
      · refine ⟨f, h1, ?_⟩
        have := A (j + 1) f
        have e : slg T fa (j + 1) = max (slg T fa j) (srn T fa (j + 1)) := rfl
        have e2 : lg (p f) (j + 1) = max (lg (p f) j) (rn (p f) (j + 1)) := rfl
        omega
      · refine ⟨fa j, hf j, ?_⟩
        have := A (j + 1) (fa j)
        have e : slg T fa (j + 1) = max (slg T fa j) (srn T fa (j + 1)) := rfl
        have e2 : lg (p (fa j)) (j + 1) = max (lg (p (fa j)) j) (rn (p (fa j)) (j + 1)) := rfl
        have e3 := srn_rn hp j (fa j)
        cases hT : T j with
        | false =>
          have : srn T fa (j + 1) = 0 := by show (if T j then _ else 0) = 0; rw [hT]; rfl
          omega
        | true =>
          rw [if_pos ⟨hT, rfl⟩] at e3
          omega
  have C : ∀ n : Nat, (∀ f : Nat, f < n → lg (p f) 9 ≤ mxf p n) ∧ (∃ f : Nat, (f < n ∨ n = 0) ∧ (mxf p n = lg (p f) 9 ∨ mxf p n = 0)) := by
    intro n
    induction n with
    | zero => exact ⟨fun f hf => by omega, 0, Or.inr rfl, Or.inr rfl⟩
    | succ n ih =>
      obtain ⟨i1, f, i2, i3⟩ := ih
      have e : mxf p (n + 1) = max (mxf p n) (lg (p n) 9) := rfl
      refine ⟨fun g hg => ?_, ?_⟩
      · rcases Nat.lt_or_ge g n with q | q
        · have := i1 g q; omega
        · rw [show g = n by omega]; omega
      · by_cases c : mxf p n ≤ lg (p n) 9
        · exact ⟨n, Or.inl (by omega), Or.inl (by omega)⟩
        · rcases i2 with i2 | i2
          · exact ⟨f, Or.inl (by omega), by omega⟩
          · rw [i2] at c; exact absurd (Nat.zero_le _) c
  obtain ⟨f, h1, h2⟩ := B 9
  obtain ⟨c1, g, c2, c3⟩ := C 16
  have := c1 f h1
  have := A 9 g
  omega
theorem faM_eq (x : Int32) : f_X12_familyOf x = some (faM x) := rfl
theorem rn_cong {p q : Nat → Bool} : ∀ {n : Nat}, (∀ j : Nat, j < n → p j = q j) → rn p n = rn q n
  | 0, _ => rfl
  | n + 1, h => by
    show (if p n then rn p n + 1 else 0) = (if q n then rn q n + 1 else 0)
    rw [rn_cong (fun j hj => h j (by omega)), h n (by omega)]
theorem lg_cong {p q : Nat → Bool} : ∀ {n : Nat}, (∀ j : Nat, j < n → p j = q j) → lg p n = lg q n
  | 0, _ => rfl
  | n + 1, h => by
    show max (lg p n) (rn p (n + 1)) = max (lg q n) (rn q (n + 1))
    rw [rn_cong h, lg_cong (fun j hj => h j (by omega))]
theorem mxf_cong {p q : Nat → Nat → Bool} : ∀ {n : Nat}, (∀ f : Nat, f < n → ∀ j : Nat, j < 9 → p f j = q f j) → mxf p n = mxf q n
  | 0, _ => rfl
  | n + 1, h => by
    show max (mxf p n) (lg (p n) 9) = max (mxf q n) (lg (q n) 9)
    rw [mxf_cong (fun f hf => h f (by omega)), lg_cong (h n (by omega))]
theorem mRF (g : Nat → Int32) {P : Nat} (hP : P < 16) (fa : Nat → Nat) (hf : ∀ j : Nat, j < 9 → ¬ g (9 * P + j) = -1 → faM (g (9 * P + j)) = nI (fa j)) (hb : ∀ j, fa j < 16) : f_X12_ringOf g (nI P) 1 = some (nI (slg (fun j => tk g (9 * P + j)) fa 9)) := by
  unfold f_X12_ringOf
  rw [m9'']
  have e9 : nI (9 * P) + 9 = nI (9 * P + 9) := la _ 9
  generalize hT : (fun j => tk g (9 * P + j)) = T
  have hT' : ∀ j, T j = tk g (9 * P + j) := fun j => by rw [← hT]
  refine loop1 9 (fun _ (_ : Unit) => True) (fun F i _ => f_X12_ringOf_11 g F (nI P) 1 (nI (slg T fa i)) (nI (srn T fa i)) (nI (9 * P + i))) (fun o => o = _) ?_ ?_ 9 0 () FU (by omega) (by unfold FU; omega) trivial
  · intro F _ _
    show f_X12_ringOf_11 g (F + 1) (nI P) 1 _ _ (nI (9 * P + 9)) = _
    rw [f_X12_ringOf_11, m9'', e9, if_pos (nI_le (Nat.le_refl _) (by omega))]
  · intro F i _ hi _ ih
    have ih := ih () trivial
    have l1 := slg_le T fa i
    have r1 := srn_le T fa i
    have r2 := srn_le T fa (i + 1)
    show f_X12_ringOf_11 g (F + 1) (nI P) 1 _ _ (nI (9 * P + i)) = _
    have fin : f_X12_ringOf_94 g (f_X12_ringOf_11 g F) (nI P) 1 (nI (slg T fa i)) (nI (9 * P + i)) (nI (srn T fa (i + 1))) = some (nI (slg T fa 9)) := by
      unfold f_X12_ringOf_94
      rw [mxM (by omega) (by omega), bs, nI_1]
      exact ih
    have e : srn T fa (i + 1) = if T i then (if 0 < srn T fa i ∧ fa i = fa (i - 1) then srn T fa i + 1 else 1) else 0 := rfl
    have a0 : f_X12_ringOf_66 g (f_X12_ringOf_11 g F) (nI P) 1 (nI (slg T fa i)) (nI (srn T fa i)) (nI (9 * P + i)) 0 = if T i then f_X12_ringOf_94 g (f_X12_ringOf_11 g F) (nI P) 1 (nI (slg T fa i)) (nI (9 * P + i)) 1 else f_X12_ringOf_94 g (f_X12_ringOf_11 g F) (nI P) 1 (nI (slg T fa i)) (nI (9 * P + i)) 0 := by
      unfold f_X12_ringOf_66
      rw [mT g (by omega), bs, hT']
      by_cases d : g (9 * P + i) = -1
      · rw [if_pos d, if_pos rfl, tk_false d]; rfl
      · rw [if_neg d, if_neg i10, if_pos rfl, tk_true d, if_pos rfl]
    have a1 : f_X12_ringOf_66 g (f_X12_ringOf_11 g F) (nI P) 1 (nI (slg T fa i)) (nI (srn T fa i)) (nI (9 * P + i)) 1 = if T i then f_X12_ringOf_94 g (f_X12_ringOf_11 g F) (nI P) 1 (nI (slg T fa i)) (nI (9 * P + i)) (nI (srn T fa i + 1)) else f_X12_ringOf_94 g (f_X12_ringOf_11 g F) (nI P) 1 (nI (slg T fa i)) (nI (9 * P + i)) 0 := by
      unfold f_X12_ringOf_66
      rw [mT g (by omega), bs, hT', nI_1]
      by_cases d : g (9 * P + i) = -1
      · rw [if_pos d, if_pos rfl, tk_false d]; rfl
      · rw [if_neg d, if_neg i10, if_neg i10, tk_true d, if_pos rfl]
    rw [f_X12_ringOf_11, m9'', e9, if_neg (nI_ge (by omega) (by omega))]
    unfold f_X12_ringOf_65
    rw [a0, a1]
    by_cases z : srn T fa i = 0
    · rw [if_pos (show nI (srn T fa i) ≤ 0 by rw [z]; decide)]
      cases hTi : T i with
      | false => rw [e, hTi] at fin; exact fin
      | true => rw [e, hTi, if_pos rfl, if_neg (by omega)] at fin; exact fin
    · rw [if_neg (nI_nle (by omega) (by omega)), if_neg i10]
      obtain ⟨k, rfl⟩ : ∃ k, i = k + 1 := ⟨i - 1, by
        rcases Nat.eq_zero_or_pos i with q | q
        · rw [q] at z; exact absurd rfl z
        · omega⟩
      have hTk : T k = true := by
        cases hc : T k with
        | true => rfl
        | false => exact absurd (show (if T k then _ else 0) = 0 by rw [hc]; rfl) z
      rw [Int32.zero_add, ixn (by omega) (by decide), show nI (9 * P + (k + 1)) - 1 = nI (9 * P + k) from nI_pred _, faM_eq, bs, ixn (by omega) (by decide), nI_clamp (by omega), nI_clamp (by omega)]
      show (if faM (g (9 * P + (k + 1))) = faM (g (9 * P + k)) then _ else _) = _
      rw [hf k (by omega) (tk_t.mp (by rw [← hT']; exact hTk))]
      cases hTi : T (k + 1) with
      | false =>
        rw [e, hTi] at fin
        rw [show (if false = true then f_X12_ringOf_94 g (f_X12_ringOf_11 g F) (nI P) 1 (nI (slg T fa (k + 1))) (nI (9 * P + (k + 1))) (nI (srn T fa (k + 1) + 1)) else f_X12_ringOf_94 g (f_X12_ringOf_11 g F) (nI P) 1 (nI (slg T fa (k + 1))) (nI (9 * P + (k + 1))) 0) = _ from fin, show (if false = true then f_X12_ringOf_94 g (f_X12_ringOf_11 g F) (nI P) 1 (nI (slg T fa (k + 1))) (nI (9 * P + (k + 1))) 1 else f_X12_ringOf_94 g (f_X12_ringOf_11 g F) (nI P) 1 (nI (slg T fa (k + 1))) (nI (9 * P + (k + 1))) 0) = _ from fin]
        split <;> rfl
      | true =>
        rw [hf (k + 1) hi (tk_t.mp (by rw [← hT']; exact hTi))]
        rw [e, hTi, if_pos rfl, Nat.add_sub_cancel] at fin
        by_cases c : fa (k + 1) = fa k
        · rw [if_pos (show nI (fa (k + 1)) = nI (fa k) by rw [c]), if_pos rfl]
          rw [if_pos ⟨by omega, c⟩] at fin
          exact fin
        · rw [if_neg (fun q => c (nI_inj (by have := hb (k + 1); omega) (by have := hb k; omega) q)), if_pos rfl]
          rw [if_neg (fun q => c q.2)] at fin
          exact fin
theorem cLft {gu co now : Nat → Int32} (h : Al gu now) (hco : ∀ k : Nat, k < 144 → co k = now (288 + k)) {P : Nat} (hP : P < 16) : T2 (f_X5_coatsLeftIn gu co (nI P)) (f_X12_coatsLeft now (nI P)) (fun a b => a = b) := by
  unfold f_X5_coatsLeftIn f_X12_coatsLeft
  rw [m9'']
  have e9 : nI (9 * P) + 9 = nI (9 * P + 9) := la _ 9
  refine loop2 9 (fun _ (s t : Int32) => s = t) (fun F i s => f_X5_coatsLeftIn_5 gu co F (nI P) s (nI i)) (fun F i t => f_X12_coatsLeft_7 now F (nI P) t (nI (9 * P + i))) (fun a b => a = b) ?_ ?_ 9 0 0 0 FU FU (by omega) (by unfold FU; omega) (by unfold FU; omega) rfl
  · intro F F' s t e
    show T2 (f_X5_coatsLeftIn_5 gu co (F + 1) (nI P) s (nI 9)) (f_X12_coatsLeft_7 now (F' + 1) (nI P) t (nI (9 * P + 9))) _
    rw [f_X5_coatsLeftIn_5, f_X12_coatsLeft_7, m9'', e9, if_pos (by decide), if_pos (nI_le (Nat.le_refl _) (by omega))]
    exact T2.ret e
  · intro F F' i s t hi e ih
    show T2 (f_X5_coatsLeftIn_5 gu co (F + 1) (nI P) s (nI i)) (f_X12_coatsLeft_7 now (F' + 1) (nI P) t (nI (9 * P + i))) _
    have q := h (9 * P + i) (by omega)
    rw [f_X5_coatsLeftIn_5, f_X12_coatsLeft_7, m9'', e9, if_neg (show ¬ (9 : Int32) ≤ nI i from nI_ge (b := 9) (by omega) (by decide)), if_neg (nI_ge (by omega) (by omega)), m9, xT gu (by omega), mT now (by omega), bs, bs, nI_1, nI_1, e, show (288 : Int32) + nI (9 * P + i) = nI (288 + (9 * P + i)) from la 288 _, ixn (by omega) (by decide), nI_clamp (by omega), xC co (by omega), bs, hco _ (by omega)]
    by_cases d : gu (9 * P + i) = -1
    · rw [if_pos d, if_pos (q.iff.mp d), if_pos rfl, if_pos rfl]
      by_cases c : now (288 + (9 * P + i)) = -1
      · rw [if_pos c, if_pos c]; exact ih _ _ rfl
      · rw [if_neg c, if_neg c]; exact ih _ _ rfl
    · rw [if_neg d, if_neg (fun z => d (q.iff.mpr z)), if_neg i10, if_neg i10]
      exact ih _ _ rfl
theorem pm_pew {XA : Nat → Nat → Int32} {XI : Nat → Int32} {MA : Nat → Nat → Int32} {MI : Nat → Int32} (h : Inv XA XI MA MI) (x1 : Int32) (x2 : Int32) (x3 : Int32) : ∃ (rX : Int32) (rM : Int32), f_X11_pew (XA 1) (XA 3) x1 x2 x3 = some rX ∧ f_X12_pew (MA 0) x1 x2 x3 = some rM ∧ rX = rM ∧ Inv XA XI MA MI := by
  have h0 := h
  obtain ⟨hT, hC, hk, hkk, hL⟩ := h
  suffices q : T2 (f_X11_pew (XA 1) (XA 3) x1 x2 x3) (f_X12_pew (MA 0) x1 x2 x3) (fun x y => x = y) by
    obtain ⟨rX, rM, q1, q2, q3⟩ := q
    exact ⟨rX, rM, q1, q2, q3, h0⟩
  have H := hC.1
  have HC := hC.2.2.1
  generalize XA 1 = gu at H
  generalize XA 3 = co at HC
  generalize MA 0 = now at H HC
  clear h0 hT hC hk hkk hL
  have bsome : ∀ o : Option Int32, o.bind (fun z => some z) = o := fun o => by cases o <;> rfl
  unfold f_X11_pew f_X12_pew
  rw [isPew_eq]
  rcases isPew2 x1 x2 with e | ⟨s, r, hs, hr, rfl, rfl, e⟩
  · rw [e]; exact T2.ret rfl
  · rw [e, bs, bs, if_neg i10, if_neg i10, pew_eq, m8', show (4 : Int32) = nI 4 from rfl]
    have hP : 8 * s + r < 16 := by omega
    generalize 8 * s + r = P at hP
    simp only [bsome, bs]
    rcases wi x3 4 (by decide) with ⟨c1, -, c3⟩ | ⟨j, hj, rfl, c1, -⟩
    · rw [c1, bs, if_pos rfl, if_neg (show ¬ x3 = 0 from fun q => c3 ⟨0, by omega, q⟩), if_neg (show ¬ x3 = 1 from fun q => c3 ⟨1, by omega, q⟩), if_neg (show ¬ x3 = 2 from fun q => c3 ⟨2, by omega, q⟩), if_neg (show ¬ x3 = 3 from fun q => c3 ⟨3, by omega, q⟩), if_neg (show ¬ x3 = nI 4 from fun q => c3 ⟨4, by omega, q⟩)]
      exact T2.ret rfl
    · rw [c1, bs, if_neg i10]
      have am : ∀ {o o' : Option Int32} {v : Int32}, o = some v → o' = some v → T2 o o' (fun x y => x = y) := fun a b => ⟨_, _, a, b, rfl⟩
      match j, hj with
      | 0, _ =>
        rw [if_pos (show nI 0 = 0 from rfl), if_pos (show nI 0 = 0 from rfl)]
        exact am (xSI gu hP) (by rw [mSI now hP, Al_ct H (by omega)])
      | 1, _ =>
        rw [if_neg (show ¬ nI 1 = 0 by decide), if_neg (show ¬ nI 1 = 0 by decide), if_pos (show nI 1 = 1 from rfl), if_pos (show nI 1 = 1 from rfl), FI2 H hP, mFI now hP]
        exact am rfl rfl
      | 2, _ =>
        rw [if_neg (show ¬ nI 2 = 0 by decide), if_neg (show ¬ nI 2 = 0 by decide), if_neg (show ¬ nI 2 = 1 by decide), if_neg (show ¬ nI 2 = 1 by decide), if_pos (show nI 2 = 2 from rfl), if_pos (show nI 2 = 2 from rfl), xLT gu hP, mRT now hP]
        exact am rfl (by rw [lg_cong (fun j hj => Al_tk H (show 9 * P + j < 144 by omega))])
      | 3, _ =>
        rw [if_neg (show ¬ nI 3 = 0 by decide), if_neg (show ¬ nI 3 = 0 by decide), if_neg (show ¬ nI 3 = 1 by decide), if_neg (show ¬ nI 3 = 1 by decide), if_neg (show ¬ nI 3 = 2 by decide), if_neg (show ¬ nI 3 = 2 by decide), if_pos (show nI 3 = 3 from rfl), if_pos (show nI 3 = 3 from rfl), xLF gu hP]
        have hf : ∀ j : Nat, j < 9 → ¬ now (9 * P + j) = -1 → faM (now (9 * P + j)) = nI ((faM (now (9 * P + j))).toNatClampNeg % 16) := by
          intro j hj hn
          obtain ⟨_, f, _, _, _, _, hf, _, _, _, _, ⟨_, b2, _⟩, _⟩ := (H (9 * P + j) (by omega)).ex (fun z => hn ((H (9 * P + j) (by omega)).iff.mp z))
          have b3 : faM (now (9 * P + j)) = nI f := Option.some.inj b2
          rw [b3, nI_clamp (by omega), Nat.mod_eq_of_lt hf]
        refine am rfl ?_
        rw [mRF now hP (fun j => (faM (now (9 * P + j))).toNatClampNeg % 16) hf (fun j => Nat.mod_lt _ (by omega)), slg_mxf (p := fun f j => tk now (9 * P + j) && decide ((faM (now (9 * P + j))).toNatClampNeg % 16 = f)) (fun _ _ => rfl) (fun j => Nat.mod_lt _ (by omega))]
        refine congrArg (fun z : Nat => some (nI z)) (mxf_cong (fun f hf' j hj => ?_))
        show (tk now (9 * P + j) && decide ((faM (now (9 * P + j))).toNatClampNeg % 16 = f)) = tbX gu (nI f) (9 * P + j)
        rw [Al_tb H (nI f) (show 9 * P + j < 144 by omega)]
        unfold tbM
        by_cases z : now (9 * P + j) = -1
        · rw [tk_false z]; simp [z]
        · rw [tk_true z]
          have := hf j hj z
          generalize hw : (faM (now (9 * P + j))).toNatClampNeg % 16 = w at this
          rw [this]
          have hw16 : w < 16 := by rw [← hw]; exact Nat.mod_lt _ (by omega)
          by_cases c : w = f
          · simp [z, c]
          · have : ¬ nI w = nI f := fun q => c (nI_inj (by omega) (by omega) q)
            simp [z, c, this]
      | 4, _ =>
        rw [if_neg (show ¬ nI 4 = 0 by decide), if_neg (show ¬ nI 4 = 0 by decide), if_neg (show ¬ nI 4 = 1 by decide), if_neg (show ¬ nI 4 = 1 by decide), if_neg (show ¬ nI 4 = 2 by decide), if_neg (show ¬ nI 4 = 2 by decide), if_neg (show ¬ nI 4 = 3 by decide), if_neg (show ¬ nI 4 = 3 by decide), if_pos (show nI 4 = nI 4 from rfl)]
        exact cLft H HC hP
