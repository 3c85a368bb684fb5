/-! sets as numbers, and how few parts hold one -/
abbrev Sub (U S : Nat) : Prop := ∀ i : Nat, U.testBit i = true → S.testBit i = true
def sN (b : Nat → Nat) (S : Nat) : Nat → Nat
  | 0 => 0
  | n + 1 => sN b S n + (if S.testBit n then b n else 0)
theorem sN_split (b : Nat → Nat) {U S : Nat} (h : Sub U S) : ∀ n : Nat, sN b S n = sN b U n + sN b (S ^^^ U) n
  | 0 => rfl
  | n + 1 => by
    show sN b S n + (if S.testBit n then b n else 0) = sN b U n + (if U.testBit n then b n else 0) + (sN b (S ^^^ U) n + (if (S ^^^ U).testBit n then b n else 0))
    rw [sN_split b h n, Nat.testBit_xor]
    have := h n
    cases hU : U.testBit n <;> cases hS : S.testBit n
    · simp
    · simp; omega
    · rw [hU, hS] at this; exact absurd (this rfl) (by decide)
    · simp; omega
theorem sN_z (b : Nat → Nat) {S : Nat} : ∀ {n : Nat}, (∀ i : Nat, i < n → S.testBit i = false) → sN b S n = 0
  | 0, _ => rfl
  | n + 1, h => by
    show sN b S n + (if S.testBit n then b n else 0) = 0
    rw [sN_z b (fun i hi => h i (by omega)), h n (by omega)]
    rfl
theorem sN_0 (b : Nat → Nat) (n : Nat) : sN b 0 n = 0 := sN_z b (fun i _ => Nat.zero_testBit i)
theorem sN_one (b : Nat → Nat) {j : Nat} : ∀ {n : Nat}, j < n → sN b (2 ^ j) n = b j
  | 0, h => by omega
  | n + 1, h => by
    show sN b (2 ^ j) n + (if (2 ^ j).testBit n then b n else 0) = b j
    rw [Nat.testBit_two_pow]
    by_cases e : j = n
    · rw [sN_z b (fun i hi => by rw [Nat.testBit_two_pow]; exact decide_eq_false (by omega)), decide_eq_true e, if_pos rfl, e, Nat.zero_add]
    · rw [sN_one b (show j < n by omega), decide_eq_false e]
      rfl
theorem sN_le {b : Nat → Nat} (hb : ∀ i, b i ≤ 255) (S : Nat) : ∀ n : Nat, sN b S n ≤ 255 * n
  | 0 => Nat.le_refl _
  | n + 1 => by
    show sN b S n + (if S.testBit n then b n else 0) ≤ _
    have := sN_le hb S n
    have := hb n
    split <;> omega
theorem Sub_0 (S : Nat) : Sub 0 S := fun i h => by rw [Nat.zero_testBit] at h; exact absurd h (by decide)
theorem Sub_x {U S : Nat} (h : Sub U S) : Sub (S ^^^ U) S := fun i hi => by
  rw [Nat.testBit_xor] at hi
  have := h i
  cases hU : U.testBit i <;> cases hS : S.testBit i
  · rw [hU, hS] at hi; exact absurd hi (by decide)
  · rfl
  · rw [hU, hS] at this; exact this rfl
  · rfl
theorem Sub_lt {U S n : Nat} (h : Sub U S) (hS : S < 2 ^ n) : U < 2 ^ n := by
  apply Nat.lt_pow_two_of_testBit
  intro i hi
  cases hU : U.testBit i
  · rfl
  · have := h i hU
    rw [Nat.testBit_lt_two_pow (Nat.lt_of_lt_of_le hS (Nat.pow_le_pow_right (by decide) hi))] at this
    exact absurd this (by decide)
def Fit (b : Nat → Nat) (n lim : Nat) : Nat → Nat → Prop
  | 0, S => S = 0
  | k + 1, S => ∃ T, Sub T S ∧ sN b T n ≤ lim ∧ Fit b n lim k (S ^^^ T)
theorem Fit_0 (b : Nat → Nat) (n lim : Nat) : ∀ k : Nat, Fit b n lim k 0
  | 0 => rfl
  | k + 1 => ⟨0, Sub_0 0, by rw [sN_0]; exact Nat.zero_le _, by rw [Nat.xor_self]; exact Fit_0 b n lim k⟩
theorem Fit_up {b : Nat → Nat} {n lim k S : Nat} (h : Fit b n lim k S) : Fit b n lim (k + 1) S := ⟨0, Sub_0 S, by rw [sN_0]; exact Nat.zero_le _, by rw [Nat.xor_zero]; exact h⟩
theorem Fit_le {b : Nat → Nat} {n lim k S : Nat} (h : Fit b n lim k S) : ∀ d : Nat, Fit b n lim (k + d) S
  | 0 => h
  | d + 1 => Fit_up (Fit_le h d)
theorem Fit_one {b : Nat → Nat} {n lim S : Nat} : Fit b n lim 1 S ↔ sN b S n ≤ lim := by
  constructor
  · rintro ⟨T, _, h2, h3⟩
    have h3 : S ^^^ T = 0 := h3
    have : S = T := Nat.eq_of_testBit_eq (fun i => by
      have q := Nat.testBit_xor S T i
      rw [h3, Nat.zero_testBit] at q
      cases hS : S.testBit i <;> cases hT : T.testBit i
      · rfl
      · rw [hS, hT] at q; exact absurd q (by decide)
      · rw [hS, hT] at q; exact absurd q (by decide)
      · rfl)
    rw [this]; exact h2
  · intro h
    exact ⟨S, fun _ a => a, h, Nat.xor_self S⟩
theorem Fit_item {b : Nat → Nat} {n lim j : Nat} (hj : j < n) : ∀ {k S : Nat}, S.testBit j = true → Fit b n lim k S → b j ≤ lim
  | 0, S, h, hF => by
    have hF : S = 0 := hF
    rw [hF, Nat.zero_testBit] at h
    exact absurd h (by decide)
  | k + 1, S, h, hF => by
    obtain ⟨T, h1, h2, h3⟩ := hF
    cases hT : T.testBit j
    · exact Fit_item hj (k := k) (S := S ^^^ T) (by rw [Nat.testBit_xor, h, hT]; rfl) h3
    · have : Sub (2 ^ j) T := fun i hi => by
        rw [Nat.testBit_two_pow, decide_eq_true_eq] at hi
        rw [← hi]; exact hT
      have := sN_split b this n
      rw [sN_one b hj] at this
      omega
def FF (b : Nat → Nat) (n lim S c l : Nat) : Prop := ∃ Q, Sub Q S ∧ sN b Q n = l ∧ Fit b n lim c (S ^^^ Q)
def ext (lim e w : Nat) : Nat := if lim < e % 4096 + w then (e / 4096 + 1) * 4096 + w else e + w
def EV (b : Nat → Nat) (n lim S e : Nat) : Prop := ∃ c l : Nat, e = c * 4096 + l ∧ l ≤ lim ∧ c ≤ S ∧ FF b n lim S c l ∧ ∀ c' l' : Nat, l' ≤ lim → FF b n lim S c' l' → e ≤ c' * 4096 + l'
theorem xor_cut (a b c : Nat) : (a ^^^ c) ^^^ (b ^^^ c) = a ^^^ b := by
  apply Nat.eq_of_testBit_eq
  intro i
  simp only [Nat.testBit_xor]
  cases a.testBit i <;> cases b.testBit i <;> cases c.testBit i <;> rfl
theorem xor_swp (a b c : Nat) : a ^^^ (b ^^^ c) = (a ^^^ c) ^^^ b := by
  apply Nat.eq_of_testBit_eq
  intro i
  simp only [Nat.testBit_xor]
  cases a.testBit i <;> cases b.testBit i <;> cases c.testBit i <;> rfl
theorem xor_bb (a b : Nat) : (a ^^^ b) ^^^ b = a := by
  apply Nat.eq_of_testBit_eq
  intro i
  simp only [Nat.testBit_xor]
  cases a.testBit i <;> cases b.testBit i <;> rfl
theorem bit_of {Q : Nat} (h : Q ≠ 0) : ∃ j, Q.testBit j = true := by
  apply Classical.byContradiction
  intro hn
  apply h
  apply Nat.eq_of_testBit_eq
  intro i
  rw [Nat.zero_testBit]
  cases hq : Q.testBit i
  · rfl
  · exact absurd ⟨i, hq⟩ hn
theorem one_sub {Q j : Nat} (h : Q.testBit j = true) : Sub (2 ^ j) Q := fun i hi => by
  rw [Nat.testBit_two_pow, decide_eq_true_eq] at hi
  rw [← hi]; exact h
theorem ext_core {b : Nat → Nat} {n lim S Q c : Nat} (hl : lim < 4096) (hS : S < 2 ^ n) {e : Nat → Nat} (he : ∀ j : Nat, j < n → S.testBit j = true → EV b n lim (S ^^^ 2 ^ j) (e j)) (hQ : Sub Q S) (hQ0 : Q ≠ 0) (hs : sN b Q n ≤ lim) (hF : Fit b n lim c (S ^^^ Q)) : ∃ j, j < n ∧ S.testBit j = true ∧ ext lim (e j) (b j) ≤ c * 4096 + sN b Q n := by
  obtain ⟨j, hj⟩ := bit_of hQ0
  have hSj := hQ j hj
  have hjn : j < n := by
    rcases Nat.lt_or_ge j n with q | q
    · exact q
    · rw [Nat.testBit_lt_two_pow (Nat.lt_of_lt_of_le hS (Nat.pow_le_pow_right (by decide) q))] at hSj
      exact absurd hSj (by decide)
  obtain ⟨c1, l1, e1, g1, _, _, g2⟩ := he j hjn hSj
  have sp := sN_split b (one_sub hj) n
  rw [sN_one b hjn] at sp
  have := g2 c (sN b Q n - b j) (by omega) ⟨Q ^^^ 2 ^ j, fun i hi => by
    rw [Nat.testBit_xor] at hi ⊢
    rw [Nat.testBit_two_pow] at hi ⊢
    by_cases q : j = i
    · rw [← q, hj] at hi; simp at hi
    · rw [decide_eq_false q, Bool.xor_false] at hi ⊢
      exact hQ i hi, by omega, by rw [xor_cut]; exact hF⟩
  refine ⟨j, hjn, hSj, ?_⟩
  unfold ext
  rw [show e j % 4096 = l1 by omega, show e j / 4096 = c1 by omega]
  split <;> omega
theorem ext_zero {b : Nat → Nat} {n lim S : Nat} (hS : S ≠ 0) : ∀ {c : Nat}, Fit b n lim c S → ∃ c' T, c' < c ∧ T ≠ 0 ∧ Sub T S ∧ sN b T n ≤ lim ∧ Fit b n lim c' (S ^^^ T)
  | 0, h => absurd h hS
  | c + 1, h => by
    obtain ⟨T, h1, h2, h3⟩ := h
    by_cases hT : T = 0
    · rw [hT, Nat.xor_zero] at h3
      obtain ⟨c', T', g1, g2⟩ := ext_zero hS h3
      exact ⟨c', T', by omega, g2⟩
    · exact ⟨c, T, by omega, hT, h1, h2, h3⟩
theorem xorS_t : (List.range 1024).all (fun S => (List.range 10).all (fun j => !S.testBit j || (decide (2 ^ j ≤ S) && decide (S ^^^ 2 ^ j = S - 2 ^ j)))) = true := by decide +kernel
theorem xorS {S j : Nat} (hS : S < 1024) (hj : j < 10) (h : S.testBit j = true) : 2 ^ j ≤ S ∧ S ^^^ 2 ^ j = S - 2 ^ j := by
  have := List.all_eq_true.mp (List.all_eq_true.mp xorS_t S (List.mem_range.mpr hS)) j (List.mem_range.mpr hj)
  rw [h] at this
  simp only [Bool.not_true, Bool.false_or, Bool.and_eq_true, decide_eq_true_eq] at this
  exact this
theorem EV_step {b : Nat → Nat} {n lim S cur : Nat} (hl : lim < 4096) (hbl : ∀ j : Nat, j < n → b j ≤ lim) (hn : n ≤ 10) (hS : S < 2 ^ n) (hS0 : S ≠ 0) {e : Nat → Nat} (he : ∀ j : Nat, j < n → S.testBit j = true → EV b n lim (S ^^^ 2 ^ j) (e j)) (h1 : ∀ j : Nat, j < n → S.testBit j = true → cur ≤ ext lim (e j) (b j)) (h2 : ∃ j, j < n ∧ S.testBit j = true ∧ cur = ext lim (e j) (b j)) : EV b n lim S cur := by
  have h10 : 2 ^ n ≤ 1024 := Nat.le_trans (Nat.pow_le_pow_right (by decide) hn) (by decide)
  obtain ⟨j, hj, hSj, hc⟩ := h2
  obtain ⟨c1, l1, e1, g1, g3, ⟨Q1, k1, k2, k3⟩, _⟩ := he j hj hSj
  obtain ⟨x1, x2⟩ := xorS (by omega) (show j < 10 by omega) hSj
  have hp := Nat.two_pow_pos j
  have com : ∀ c' l' : Nat, l' ≤ lim → FF b n lim S c' l' → cur ≤ c' * 4096 + l' := by
    rintro c' l' hl' ⟨Q, q1, q2, q3⟩
    by_cases hQ : Q = 0
    · rw [hQ, Nat.xor_zero] at q3
      obtain ⟨c2, T, t1, t2, t3, t4, t5⟩ := ext_zero hS0 q3
      obtain ⟨i, i1, i2, i3⟩ := ext_core hl hS he t3 t2 t4 t5
      have := h1 i i1 i2
      omega
    · obtain ⟨i, i1, i2, i3⟩ := ext_core hl hS he q1 hQ (by omega) q3
      have := h1 i i1 i2
      omega
  have nj : Q1.testBit j = false := by
    cases hq : Q1.testBit j
    · rfl
    · have := k1 j hq
      rw [Nat.testBit_xor, hSj, Nat.testBit_two_pow, decide_eq_true rfl] at this
      exact absurd this (by decide)
  unfold ext at hc
  rw [show e j % 4096 = l1 by omega, show e j / 4096 = c1 by omega] at hc
  by_cases d : lim < l1 + b j
  · rw [if_pos d] at hc
    refine ⟨c1 + 1, b j, hc, hbl j hj, by omega, ⟨2 ^ j, one_sub hSj, sN_one b hj, ⟨Q1, k1, by omega, k3⟩⟩, com⟩
  · rw [if_neg d] at hc
    refine ⟨c1, l1 + b j, by omega, by omega, by omega, ⟨Q1 ^^^ 2 ^ j, fun i hi => ?_, ?_, ?_⟩, com⟩
    · rw [Nat.testBit_xor, Nat.testBit_two_pow] at hi
      by_cases q : j = i
      · rw [← q]; exact hSj
      · rw [decide_eq_false q, Bool.xor_false] at hi
        have := k1 i hi
        rw [Nat.testBit_xor, Nat.testBit_two_pow, decide_eq_false q, Bool.xor_false] at this
        exact this
    · have sp := sN_split b (one_sub (Q := Q1 ^^^ 2 ^ j) (j := j) (by rw [Nat.testBit_xor, nj, Nat.testBit_two_pow, decide_eq_true rfl]; rfl)) n
      rw [sN_one b hj, xor_bb, k2] at sp
      omega
    · rw [xor_swp]; exact k3
theorem EV_0 (b : Nat → Nat) (n lim : Nat) : EV b n lim 0 0 := ⟨0, 0, rfl, Nat.zero_le _, Nat.le_refl _, ⟨0, Sub_0 0, sN_0 b n, by rw [Nat.xor_self]; rfl⟩, fun _ _ _ _ => Nat.zero_le _⟩
theorem EV_fit {b : Nat → Nat} {n lim S e m : Nat} (hl : lim < 4096) (hm : 1 ≤ m) (h : EV b n lim S e) : (e / 4096 + (if e % 4096 = 0 then 0 else 1) ≤ m) ↔ Fit b n lim m S := by
  obtain ⟨c, l, e1, g1, _, ⟨Q, q1, q2, q3⟩, g2⟩ := h
  rw [show e % 4096 = l by omega, show e / 4096 = c by omega]
  constructor
  · intro h
    have up : c + 1 ≤ m → Fit b n lim m S := fun hh => by
      have := Fit_le (k := c + 1) (S := S) ⟨Q, q1, by omega, q3⟩ (m - (c + 1))
      rw [show c + 1 + (m - (c + 1)) = m by omega] at this
      exact this
    by_cases z : l = 0
    · rw [if_pos z] at h
      by_cases y : c + 1 ≤ m
      · exact up y
      · obtain ⟨k, rfl⟩ : ∃ k, c = k + 1 := ⟨c - 1, by omega⟩
        rw [show m = k + 1 by omega]
        obtain ⟨T, t1, t2, t3⟩ := q3
        refine ⟨T ^^^ Q, fun i hi => ?_, ?_, ?_⟩
        · rw [Nat.testBit_xor] at hi
          cases hq : Q.testBit i
          · rw [hq, Bool.xor_false] at hi
            exact Sub_x q1 i (t1 i hi)
          · exact q1 i hq
        · have sub : Sub Q (T ^^^ Q) := fun i hi => by
            rw [Nat.testBit_xor, hi]
            cases ht : T.testBit i
            · rfl
            · have := t1 i ht
              rw [Nat.testBit_xor, hi, q1 i hi] at this
              exact absurd this (by decide)
          have sp := sN_split b sub n
          rw [xor_bb] at sp
          omega
        · rw [xor_swp]; exact t3
    · rw [if_neg z] at h
      exact up h
  · intro h
    have := g2 m 0 (Nat.zero_le _) ⟨0, Sub_0 S, sN_0 b n, by rw [Nat.xor_zero]; exact h⟩
    split <;> omega
