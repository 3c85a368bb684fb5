/-! photo -/
theorem nAnd (a b : Nat) : nI a &&& nI b = nI (a &&& b) := by
  apply Int32.toBitVec_inj.mp
  rw [Int32.toBitVec_and]
  show BitVec.ofNat 32 a &&& BitVec.ofNat 32 b = BitVec.ofNat 32 (a &&& b)
  exact (BitVec.ofNat_and ..).symm
def popc (k : Nat) : Nat := k % 2 + k / 2 % 2 + k / 4 % 2 + k / 8 % 2 + k / 16 % 2 + k / 32 % 2 + k / 64 % 2 + k / 128 % 2 + k / 256 % 2
theorem pop_le (k : Nat) : popc k ≤ 9 := by unfold popc; omega
theorem pop_t : (List.range 512).all (fun k => decide (f_J6_bitCount_0f7a4 (nI k) = some (nI (popc k))) && decide (f_X12_bits_4 17 (nI k) 0 0 = some (nI (popc k))) && (decide ((nI k &&& (nI k <<< ((1 : Int32) &&& 31))) = 0) == decide ((nI k &&& (nI k >>> ((1 : Int32) &&& 31))) = 0))) = true := by decide +kernel
theorem pop_b {k : Nat} (h : k < 512) : f_J6_bitCount_0f7a4 (nI k) = some (nI (popc k)) ∧ f_X12_bits_4 17 (nI k) 0 0 = some (nI (popc k)) ∧ ((nI k &&& (nI k <<< ((1 : Int32) &&& 31))) = 0 ↔ (nI k &&& (nI k >>> ((1 : Int32) &&& 31))) = 0) := by
  have := List.all_eq_true.mp pop_t k (List.mem_range.mpr h)
  simp only [Bool.and_eq_true, decide_eq_true_eq, beq_iff_eq, decide_eq_decide] at this
  exact ⟨this.1.1, this.1.2, this.2⟩
theorem bits_f (x : Int32) : ∀ (n i : Nat) (a : Int32) (F : Nat), i + n = 16 → n < F → f_X12_bits_4 F x a (nI i) = f_X12_bits_4 (n + 1) x a (nI i) := by
  intro n
  induction n with
  | zero =>
    intro i a F hi hF
    obtain ⟨F, rfl⟩ : ∃ G, F = G + 1 := ⟨F - 1, by omega⟩
    rw [f_X12_bits_4, f_X12_bits_4, if_pos (show (16 : Int32) ≤ nI i from nI_le (a := 16) (by omega) (by omega)), if_pos (show (16 : Int32) ≤ nI i from nI_le (a := 16) (by omega) (by omega))]
  | succ n ih =>
    intro i a F hi hF
    obtain ⟨F, rfl⟩ : ∃ G, F = G + 1 := ⟨F - 1, by omega⟩
    rw [f_X12_bits_4, f_X12_bits_4, if_neg (show ¬ (16 : Int32) ≤ nI i from nI_ge (b := 16) (by omega) (by decide)), if_neg (show ¬ (16 : Int32) ≤ nI i from nI_ge (b := 16) (by omega) (by decide)), nI_1, ih (i + 1) _ F (by omega) (by omega)]
theorem bits_e {k : Nat} (h : k < 512) : f_X12_bits (nI k) = some (nI (popc k)) := by
  unfold f_X12_bits
  rw [show f_X12_bits_4 FU (nI k) 0 0 = _ from bits_f (nI k) 16 0 0 FU (by omega) (by unfold FU; omega)]
  exact (pop_b h).2.1
/-- one set within another -/
abbrev Sb (t S : Nat) : Prop := ∀ i : Nat, i < 9 → t.testBit i = true → S.testBit i = true
theorem hi9 {t i : Nat} (ht : t < 512) (hi : 9 ≤ i) : t.testBit i = false := Nat.testBit_lt_two_pow (Nat.lt_of_lt_of_le ht (Nat.pow_le_pow_right (n := 2) (by decide) hi : 2 ^ 9 ≤ 2 ^ i))
theorem and0 {t S : Nat} (ht : t < 512) : t &&& S = 0 ↔ ∀ i : Nat, i < 9 → ¬ (t.testBit i = true ∧ S.testBit i = true) := by
  constructor
  · intro h i _ ⟨a, b⟩
    have := Nat.testBit_and t S i
    rw [h, a, b, Nat.zero_testBit] at this
    exact absurd this (by decide)
  · intro h
    apply Nat.eq_of_testBit_eq
    intro i
    rw [Nat.testBit_and, Nat.zero_testBit]
    rcases Nat.lt_or_ge i 9 with q | q
    · have := h i q
      cases a : t.testBit i
      · rfl
      · cases b : S.testBit i
        · rfl
        · exact absurd ⟨a, b⟩ this
    · rw [hi9 ht q]; rfl
theorem bitC {S i : Nat} (hS : S < 512) (hi : i < 9) : (511 - S).testBit i = !S.testBit i := by
  have := Nat.testBit_two_pow_sub_succ (x := S) (n := 9) hS i
  rw [show 2 ^ 9 - (S + 1) = 511 - S by omega, decide_eq_true hi, Bool.true_and] at this
  exact this
theorem and0_Sb {t S : Nat} (ht : t < 512) (hS : S < 512) : t &&& S = 0 ↔ Sb t (511 - S) := by
  rw [and0 ht]
  constructor
  · intro h i hi a
    rw [bitC hS hi]
    cases b : S.testBit i
    · rfl
    · exact absurd ⟨a, b⟩ (h i hi)
  · intro h i hi ⟨a, b⟩
    have := h i hi a
    rw [bitC hS hi, b] at this
    exact absurd this (by decide)
theorem subt_t : (List.range 512).all (fun q => (List.range 9).all (fun b => !q.testBit b || (decide (2 ^ b ≤ q) && (List.range 9).all (fun i => (q - 2 ^ b).testBit i == (q.testBit i && !decide (i = b)))))) = true := by decide +kernel
theorem subt {q b : Nat} (hq : q < 512) (hb : b < 9) (h : q.testBit b = true) : 2 ^ b ≤ q ∧ ∀ i : Nat, i < 9 → (q - 2 ^ b).testBit i = (q.testBit i && !decide (i = b)) := by
  have := List.all_eq_true.mp (List.all_eq_true.mp subt_t q (List.mem_range.mpr hq)) b (List.mem_range.mpr hb)
  rw [h] at this
  simp only [Bool.not_true, Bool.false_or, Bool.and_eq_true, decide_eq_true_eq, List.all_eq_true, List.mem_range, beq_iff_eq] at this
  exact this
def mx (p : Nat → Bool) (E : Nat → Nat) : Nat → Nat
  | 0 => 0
  | n + 1 => if p n then max (mx p E n) (E n) else mx p E n
theorem mx_ge {p : Nat → Bool} {E : Nat → Nat} {t : Nat} (hp : p t = true) : ∀ {n : Nat}, t < n → E t ≤ mx p E n
  | 0, h => by omega
  | n + 1, h => by
    show E t ≤ if p n then max (mx p E n) (E n) else mx p E n
    rcases Nat.lt_or_ge t n with q | q
    · have := mx_ge (E := E) hp q
      split <;> omega
    · rw [show t = n by omega] at hp ⊢
      rw [if_pos hp]; omega
theorem mx_at (p : Nat → Bool) (E : Nat → Nat) : ∀ n : Nat, mx p E n = 0 ∨ ∃ t, t < n ∧ p t = true ∧ mx p E n = E t
  | 0 => Or.inl rfl
  | n + 1 => by
    show (if p n then max (mx p E n) (E n) else mx p E n) = 0 ∨ ∃ t, t < n + 1 ∧ p t = true ∧ (if p n then max (mx p E n) (E n) else mx p E n) = E t
    by_cases c : p n = true
    · rw [if_pos c]
      by_cases d : mx p E n ≤ E n
      · exact Or.inr ⟨n, by omega, c, by omega⟩
      · rcases mx_at p E n with h | ⟨t, h1, h2, h3⟩
        · omega
        · exact Or.inr ⟨t, by omega, h2, by omega⟩
    · rw [if_neg c]
      rcases mx_at p E n with h | ⟨t, h1, h2, h3⟩
      · exact Or.inl h
      · exact Or.inr ⟨t, by omega, h2, h3⟩
theorem mx_b {p : Nat → Bool} {E : Nat → Nat} {B n : Nat} (h : ∀ t : Nat, t < n → p t = true → E t ≤ B) : mx p E n ≤ B := by
  rcases mx_at p E n with q | ⟨t, h1, h2, h3⟩
  · omega
  · rw [h3]; exact h t h1 h2
def Zt (P : Nat → Nat) : Nat → Nat → Nat
  | 0, S => P S
  | b + 1, S => if S.testBit b then max (Zt P b S) (Zt P b (S - 2 ^ b)) else Zt P b S
theorem Zt_ge (P : Nat → Nat) : ∀ (b : Nat), b ≤ 9 → ∀ t S : Nat, t < 512 → S < 512 → Sb t S → (∀ i : Nat, b ≤ i → i < 9 → t.testBit i = S.testBit i) → P t ≤ Zt P b S
  | 0, _, t, S, ht, hS, _, h => by
    have : t = S := Nat.eq_of_testBit_eq (fun i => by
      rcases Nat.lt_or_ge i 9 with q | q
      · exact h i (Nat.zero_le _) q
      · rw [hi9 ht q, hi9 hS q])
    rw [this]
    exact Nat.le_refl _
  | b + 1, hb, t, S, ht, hS, hs, h => by
    show P t ≤ if S.testBit b then max (Zt P b S) (Zt P b (S - 2 ^ b)) else Zt P b S
    by_cases c : t.testBit b = S.testBit b
    · have := Zt_ge P b (by omega) t S ht hS hs (fun i h1 h2 => by
        by_cases e : i = b
        · rw [e]; exact c
        · exact h i (by omega) h2)
      split <;> omega
    · have c1 : S.testBit b = true := by
        cases d : S.testBit b
        · cases d2 : t.testBit b
          · exact absurd (d2.trans d.symm) c
          · have := hs b (by omega) d2
            rw [d] at this
            exact this
        · rfl
      have c2 : t.testBit b = false := by
        cases d2 : t.testBit b
        · rfl
        · exact absurd (d2.trans c1.symm) c
      obtain ⟨q1, q2⟩ := subt hS (show b < 9 by omega) c1
      have := Zt_ge P b (by omega) t (S - 2 ^ b) ht (Nat.lt_of_le_of_lt (Nat.sub_le _ _) hS) (fun i hi a => by
        rw [q2 i hi, hs i hi a, Bool.true_and]
        by_cases e : i = b
        · rw [e, c2] at a; exact absurd a (by decide)
        · simp [e]) (fun i h1 h2 => by
        rw [q2 i h2]
        by_cases e : i = b
        · rw [e, c2]; simp
        · rw [h i (by omega) h2]; simp [e])
      rw [if_pos c1]
      omega
theorem Zt_at (P : Nat → Nat) : ∀ (b : Nat), b ≤ 9 → ∀ S : Nat, S < 512 → ∃ t, t < 512 ∧ Sb t S ∧ Zt P b S = P t
  | 0, _, S, hS => ⟨S, hS, fun _ _ a => a, rfl⟩
  | b + 1, hb, S, hS => by
    show ∃ t, t < 512 ∧ Sb t S ∧ (if S.testBit b then max (Zt P b S) (Zt P b (S - 2 ^ b)) else Zt P b S) = P t
    obtain ⟨t, h1, h2, h3⟩ := Zt_at P b (by omega) S hS
    by_cases c : S.testBit b = true
    · rw [if_pos c]
      obtain ⟨q1, q2⟩ := subt hS (show b < 9 by omega) c
      obtain ⟨u, g1, g2, g3⟩ := Zt_at P b (by omega) (S - 2 ^ b) (Nat.lt_of_le_of_lt (Nat.sub_le _ _) hS)
      by_cases d : Zt P b (S - 2 ^ b) ≤ Zt P b S
      · exact ⟨t, h1, h2, by omega⟩
      · refine ⟨u, g1, fun i hi a => ?_, by omega⟩
        have := g2 i hi a
        rw [q2 i hi] at this
        cases e : S.testBit i
        · rw [e] at this; exact absurd this (by simp)
        · rfl
    · rw [if_neg c]
      exact ⟨t, h1, h2, h3⟩
theorem and2b_t : (List.range 512).all (fun q => (List.range 9).all (fun b => decide ((nI q &&& nI (2 ^ b)) = 0) == !q.testBit b)) = true := by decide +kernel
theorem and2b {q b : Nat} (hq : q < 512) (hb : b < 9) : (nI q &&& nI (2 ^ b)) = 0 ↔ q.testBit b = false := by
  have := List.all_eq_true.mp (List.all_eq_true.mp and2b_t q (List.mem_range.mpr hq)) b (List.mem_range.mpr hb)
  rw [beq_iff_eq] at this
  cases c : q.testBit b
  · rw [c] at this
    exact ⟨fun _ => rfl, fun _ => of_decide_eq_true this⟩
  · rw [c] at this
    exact ⟨fun z => absurd z (of_decide_eq_false this), fun z => absurd z (by decide)⟩
theorem RS {P : Nat → Nat} {B : Nat} (hB : B < 2 ^ 30) (hP : ∀ k : Nat, k < 512 → P k ≤ B) {a : Nat → Int32} (ha : ∀ k : Nat, k < 512 → a k = nI (P k)) : ∃ r, f_X5_raiseToSubsets a = some r ∧ ∀ S : Nat, S < 512 → r S = nI (Zt P 9 S) := by
  have hZ : ∀ b : Nat, b ≤ 9 → ∀ S : Nat, S < 512 → Zt P b S ≤ B := fun b hb S hS => by
    obtain ⟨t, h1, _, h3⟩ := Zt_at P b hb S hS
    rw [h3]; exact hP t h1
  unfold f_X5_raiseToSubsets
  refine loop1 9 (fun b (a : Nat → Int32) => ∀ S : Nat, S < 512 → a S = nI (Zt P b S)) (fun F b a => f_X5_raiseToSubsets_2 F (nI (2 ^ b)) a) (fun o => ∃ r, o = some r ∧ ∀ S : Nat, S < 512 → r S = nI (Zt P 9 S)) ?_ ?_ 9 0 a FU (by omega) (by unfold FU; omega) ha
  · intro F a ha
    show ∃ r, f_X5_raiseToSubsets_2 (F + 1) (nI 512) a = some r ∧ _
    rw [f_X5_raiseToSubsets_2, if_pos (by decide)]
    exact ⟨a, rfl, ha⟩
  · intro F b a hb ha ih
    have hp : 2 ^ b < 512 := Nat.pow_lt_pow_right (n := 9) (by decide) hb
    have hp0 := Nat.two_pow_pos b
    have e2 : nI (2 ^ b) <<< ((1 : Int32) &&& 31) = nI (2 ^ (b + 1)) := pk_shlN (n := 2 ^ b) _ 1 (smk 1 (by omega)) (by omega)
    show ∃ r, f_X5_raiseToSubsets_2 (F + 1) (nI (2 ^ b)) a = some r ∧ _
    rw [f_X5_raiseToSubsets_2, if_neg (show ¬ (512 : Int32) ≤ nI (2 ^ b) from nI_ge (b := 512) hp (by decide))]
    refine loop1 512 (fun q (a : Nat → Int32) => ∀ S : Nat, S < 512 → a S = nI (if S < q then Zt P (b + 1) S else Zt P b S)) (fun G q a => f_X5_raiseToSubsets_11 (f_X5_raiseToSubsets_2 F) G (nI (2 ^ b)) (nI q) a) (fun o => ∃ r, o = some r ∧ ∀ S : Nat, S < 512 → r S = nI (Zt P 9 S)) ?_ ?_ 512 0 a FU (by omega) (by unfold FU; omega) (fun S hS => by rw [if_neg (by omega)]; exact ha S hS)
    · intro G a ha
      show ∃ r, f_X5_raiseToSubsets_11 (f_X5_raiseToSubsets_2 F) (G + 1) (nI (2 ^ b)) (nI 512) a = some r ∧ _
      rw [f_X5_raiseToSubsets_11, if_pos (by decide), e2]
      exact ih a (fun S hS => by rw [ha S hS, if_pos hS])
    · intro G q a hq ha ih2
      show ∃ r, f_X5_raiseToSubsets_11 (f_X5_raiseToSubsets_2 F) (G + 1) (nI (2 ^ b)) (nI q) a = some r ∧ _
      rw [f_X5_raiseToSubsets_11, if_neg (show ¬ (512 : Int32) ≤ nI q from nI_ge (b := 512) hq (by decide)), nI_1]
      have e : Zt P (b + 1) q = if q.testBit b then max (Zt P b q) (Zt P b (q - 2 ^ b)) else Zt P b q := rfl
      by_cases c : q.testBit b = true
      · rw [if_neg (show ¬ (nI q &&& nI (2 ^ b)) = 0 from fun z => by rw [(and2b hq hb).mp z] at c; exact absurd c (by decide))]
        obtain ⟨q1, q2⟩ := subt hq hb c
        have hlow : (q - 2 ^ b).testBit b = false := by rw [q2 b hb]; simp
        have el : Zt P (b + 1) (q - 2 ^ b) = Zt P b (q - 2 ^ b) := by
          show (if (q - 2 ^ b).testBit b then _ else _) = _
          rw [hlow]; rfl
        have b1 := hZ b (by omega) q hq
        have b2 := hZ b (by omega) (q - 2 ^ b) (by omega)
        rw [pk_sub q1, ixn hq (by decide), ixn (by omega) (by decide), ixn hq (by decide), nI_clamp (by omega), nI_clamp (by omega), ha q hq, ha (q - 2 ^ b) (by omega), if_neg (Nat.lt_irrefl q), if_pos (show q - 2 ^ b < q by omega), el, mxI (by omega) (by omega)]
        refine ih2 _ (fun S hS => ?_)
        by_cases d : S = q
        · rw [d, upd_s, if_pos (by omega), e, if_pos c]
        · rw [upd_n d, ha S hS]
          by_cases f : S < q
          · rw [if_pos f, if_pos (by omega)]
          · rw [if_neg f, if_neg (by omega)]
      · have c' : q.testBit b = false := by cases h : q.testBit b; rfl; exact absurd h c
        rw [if_pos ((and2b hq hb).mpr c')]
        refine ih2 a (fun S hS => ?_)
        rw [ha S hS]
        by_cases d : S = q
        · rw [d, if_neg (by omega), if_pos (by omega), e, if_neg c]
        · by_cases f : S < q
          · rw [if_pos f, if_pos (by omega)]
          · rw [if_neg f, if_neg (by omega)]
