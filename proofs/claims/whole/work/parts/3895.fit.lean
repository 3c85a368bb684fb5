/-! moreFit -/
theorem nOr (a b : Nat) : nI a ||| nI b = nI (a ||| b) := by
  apply Int32.toBitVec_inj.mp
  rw [Int32.toBitVec_or]
  show BitVec.ofNat 32 a ||| BitVec.ofNat 32 b = BitVec.ofNat 32 (a ||| b)
  exact (BitVec.ofNat_or ..).symm
abbrev lb (x : Int64) (i : Nat) : Bool := x.toBitVec.getLsbD i
theorem sm64 : ∀ k : Nat, k < 64 → (((nI k).toInt64 &&& 63).toBitVec.smod 64).toNat = k := by decide +kernel
theorem lcmp0 (y : Int64) : lg_cmp y 0 = 0 ↔ y = 0 := by
  unfold lg_cmp
  constructor
  · intro h
    apply Classical.byContradiction
    intro hn
    repeat' split at h
    all_goals first
      | exact absurd h (by decide)
      | exact hn (by assumption)
  · intro h
    rw [h]; decide
theorem lbit (x : Int64) {S : Nat} (hS : S < 64) : lg_cmp ((x >>> ((nI S).toInt64 &&& 63)) &&& 1) 0 = 0 ↔ lb x S = false := by
  rw [lcmp0, ← Int64.toBitVec_inj, Int64.toBitVec_and, Int64.toBitVec_shiftRight]
  have e : BitVec.sshiftRight' x.toBitVec (((nI S).toInt64 &&& 63).toBitVec.smod 64) = x.toBitVec.sshiftRight S := by
    rw [BitVec.sshiftRight', sm64 S hS]
  rw [e]
  have o : ∀ i : Nat, i < 64 → ((1 : Int64).toBitVec).getLsbD i = decide (i = 0) := by decide
  constructor
  · intro h
    have := congrArg (fun v => BitVec.getLsbD v 0) h
    simp only [BitVec.getLsbD_and, BitVec.getLsbD_sshiftRight, o 0 (by decide)] at this
    simpa [hS] using this
  · intro h
    apply BitVec.eq_of_getLsbD_eq
    intro i hi
    rw [BitVec.getLsbD_and, BitVec.getLsbD_sshiftRight, o i hi]
    by_cases z : i = 0
    · subst z
      rw [if_pos (show S + 0 < 64 by omega), Nat.add_zero, show x.toBitVec.getLsbD S = false from h]
      simp
    · simp [z]
theorem lset (x : Int64) {T i : Nat} (hT : T < 64) (hi : i < 64) : lb (x ||| ((1 : Int64) <<< ((nI T).toInt64 &&& 63))) i = (lb x i || decide (i = T)) := by
  unfold lb
  rw [Int64.toBitVec_or, Int64.toBitVec_shiftLeft, BitVec.getLsbD_or]
  have o : ∀ i : Nat, ((1 : Int64).toBitVec).getLsbD i = decide (i = 0) := by
    intro i
    show (1#64).getLsbD i = _
    simp [BitVec.getLsbD_one]
  congr 1
  show (((1 : Int64).toBitVec) <<< ((((nI T).toInt64 &&& 63).toBitVec.smod 64).toNat)).getLsbD i = _
  rw [sm64 T hT, BitVec.getLsbD_shiftLeft, o, decide_eq_true hi]
  by_cases z : i = T
  · simp [z]
  · by_cases y : i < T
    · simp [y, z]
    · simp [y, z]; omega
theorem sw_sN (b : Nat → Nat) (S : Nat) : ∀ n : Nat, sw (fun i => nI (b i)) S n = nI (sN b S n)
  | 0 => rfl
  | n + 1 => by
    show sw (fun i => nI (b i)) S n + (if S.testBit n then nI (b n) else 0) = nI (sN b S n + (if S.testBit n then b n else 0))
    rw [sw_sN b S n]
    cases S.testBit n
    · show nI (sN b S n) + 0 = nI (sN b S n + 0)
      rw [Int32.add_zero, Nat.add_zero]
    · exact la _ _
theorem and_dis {n h s : Nat} (hh : h < 2 ^ n) (hs : s < 2 ^ n) : s &&& h = 0 ↔ Sub h (2 ^ n - 1 - s) := by
  have bc : ∀ i : Nat, i < n → (2 ^ n - 1 - s).testBit i = !s.testBit i := fun i hi => by
    have := Nat.testBit_two_pow_sub_succ (x := s) (n := n) hs i
    rw [show 2 ^ n - (s + 1) = 2 ^ n - 1 - s by omega, decide_eq_true hi, Bool.true_and] at this
    exact this
  have lt : ∀ i, h.testBit i = true → i < n := fun i hi => by
    rcases Nat.lt_or_ge i n with q | q
    · exact q
    · rw [Nat.testBit_lt_two_pow (Nat.lt_of_lt_of_le hh (Nat.pow_le_pow_right (by decide) q))] at hi
      exact absurd hi (by decide)
  constructor
  · intro z i hi
    rw [bc i (lt i hi)]
    have := Nat.testBit_and s h i
    rw [z, Nat.zero_testBit, hi, Bool.and_true] at this
    rw [← this]; rfl
  · intro z
    apply Nat.eq_of_testBit_eq
    intro i
    rw [Nat.testBit_and, Nat.zero_testBit]
    cases hi : h.testBit i
    · rw [Bool.and_false]
    · have := z i hi
      rw [bc i (lt i hi)] at this
      cases hs' : s.testBit i
      · rfl
      · rw [hs'] at this; exact absurd this (by decide)
/-- what one pew more makes of the sets that have found pews -/
def Pw (b : Nat → Nat) (n left : Nat) (C : Nat → Bool) (R : Nat) : Prop := C R = true ∨ ∃ s h, s < 2 ^ n ∧ h < 2 ^ n ∧ 0 < h ∧ C s = true ∧ s &&& h = 0 ∧ sN b h n ≤ left ∧ R = s ||| h
theorem x37 {b : Nat → Nat} {n left s rest : Nat} (hn : n ≤ 6) (hs : s < 2 ^ n) (hr : rest < 2 ^ n) (hl : left ≤ 9) (hb : ∀ i, b i ≤ 255) {low : Nat → Int32} (hlow : ∀ t : Nat, t < 2 ^ n → low t = nI (sN b t n)) (K : Int64 → Int32 → Int32 → Int64 → Int32 → Option Int64) (x1 : Int64) (x3 : Int32) :
    ∀ (F h : Nat) (more : Int64), h < F → Sub h rest → ∃ more', f_X7_withOnePewMore_37 low K F x1 x3 (nI left) more (nI s) (nI rest) (nI h) = K x1 x3 (nI left) more' (nI (s + 1)) ∧ ∀ R : Nat, R < 2 ^ n → (lb more' R = true ↔ (lb more R = true ∨ ∃ U, 0 < U ∧ U ≤ h ∧ Sub U rest ∧ sN b U n ≤ left ∧ R = s ||| U)) := by
  have h64 : 2 ^ n ≤ 64 := Nat.le_trans (Nat.pow_le_pow_right (by decide) hn) (by decide)
  intro F
  induction F with
  | zero => intro h more hF; omega
  | succ F ih =>
    intro h more hF hh
    have hhn : h < 2 ^ n := Sub_lt hh hr
    have hsN : sN b h n ≤ 1530 := Nat.le_trans (sN_le hb h n) (by omega)
    by_cases z : h = 0
    · refine ⟨more, ?_, fun R hR => ⟨Or.inl, ?_⟩⟩
      · rw [z, f_X7_withOnePewMore_37, if_pos (show nI 0 ≤ 0 by decide), nI_1]
      · rintro (q | ⟨U, u1, u2, _⟩)
        · exact q
        · omega
    · obtain ⟨n1, n2⟩ := subT (T := h) (S := rest)
      have n2 := n2 (by omega)
      have hor : s ||| h < 2 ^ n := Nat.or_lt_two_pow hs hhn
      have step : ∀ more1 : Int64, (∀ R : Nat, R < 2 ^ n → (lb more1 R = true ↔ (lb more R = true ∨ (sN b h n ≤ left ∧ R = s ||| h)))) → ∃ more', f_X7_withOnePewMore_66 low K (f_X7_withOnePewMore_37 low K F) x1 x3 (nI left) more1 (nI s) (nI rest) (nI h) = K x1 x3 (nI left) more' (nI (s + 1)) ∧ ∀ R : Nat, R < 2 ^ n → (lb more' R = true ↔ (lb more R = true ∨ ∃ U, 0 < U ∧ U ≤ h ∧ Sub U rest ∧ sN b U n ≤ left ∧ R = s ||| U)) := by
        intro more1 hm
        unfold f_X7_withOnePewMore_66
        rw [show nI h - 1 = nI (h - 1) from pk_sub (b := 1) (by omega), nAnd]
        obtain ⟨m', m1, m2⟩ := ih ((h - 1) &&& rest) more1 (by omega) n1
        refine ⟨m', m1, fun R hR => ?_⟩
        rw [m2 R hR, hm R hR]
        constructor
        · rintro ((q | ⟨q1, q2⟩) | ⟨U, u1, u2, u3⟩)
          · exact Or.inl q
          · exact Or.inr ⟨h, by omega, Nat.le_refl _, hh, q1, q2⟩
          · exact Or.inr ⟨U, u1, by omega, u3⟩
        · rintro (q | ⟨U, u1, u2, u3, u4, u5⟩)
          · exact Or.inl (Or.inl q)
          · by_cases e : U = h
            · rw [e] at u4 u5; exact Or.inl (Or.inr ⟨u4, u5⟩)
            · exact Or.inr ⟨U, u1, subm h rest U hh u3 (by omega), u3, u4, u5⟩
      rw [f_X7_withOnePewMore_37, if_neg (nI_nle (by omega) (by omega)), ixn (by omega) (by decide), nI_clamp (by omega), hlow h hhn]
      by_cases c : left < sN b h n
      · rw [if_pos (nI_lt c (by omega))]
        refine step more (fun R hR => ⟨Or.inl, ?_⟩)
        rintro (q | ⟨q, _⟩)
        · exact q
        · omega
      · rw [if_neg (nI_nlt (by omega) (by omega)), nOr]
        refine step _ (fun R hR => ?_)
        rw [lset more (by omega) (by omega), Bool.or_eq_true, decide_eq_true_eq]
        constructor
        · rintro (q | q)
          · exact Or.inl q
          · exact Or.inr ⟨by omega, q⟩
        · rintro (q | ⟨_, q⟩)
          · exact Or.inl q
          · exact Or.inr q
theorem xPew {b : Nat → Nat} {n left : Nat} (hn : n ≤ 6) (hl : left ≤ 9) (hb : ∀ i, b i ≤ 255) {low : Nat → Int32} (hlow : ∀ t : Nat, t < 2 ^ n → low t = nI (sN b t n)) {C : Nat → Bool} {x : Int64} (hx : ∀ R : Nat, R < 2 ^ n → lb x R = C R) :
    ∃ x', f_X7_withOnePewMore low x (nI (2 ^ n - 1)) (nI left) = some x' ∧ ∀ R : Nat, R < 2 ^ n → (lb x' R = true ↔ Pw b n left C R) := by
  have h64 : 2 ^ n ≤ 64 := Nat.le_trans (Nat.pow_le_pow_right (by decide) hn) (by decide)
  have hp := Nat.two_pow_pos n
  unfold f_X7_withOnePewMore
  refine loop1 (2 ^ n) (fun i (y : Int64) => ∀ R : Nat, R < 2 ^ n → (lb y R = true ↔ (C R = true ∨ ∃ s h, s < i ∧ h < 2 ^ n ∧ 0 < h ∧ C s = true ∧ s &&& h = 0 ∧ sN b h n ≤ left ∧ R = s ||| h))) (fun F i y => f_X7_withOnePewMore_6 low F x (nI (2 ^ n - 1)) (nI left) y (nI i)) (fun o => ∃ x', o = some x' ∧ ∀ R : Nat, R < 2 ^ n → (lb x' R = true ↔ Pw b n left C R)) ?_ ?_ (2 ^ n) 0 x FU (by omega) (by unfold FU; omega) ?_
  · intro F y hy
    show ∃ x', f_X7_withOnePewMore_6 low (F + 1) x (nI (2 ^ n - 1)) (nI left) y (nI (2 ^ n)) = some x' ∧ _
    rw [f_X7_withOnePewMore_6, if_pos (nI_lt (by omega) (by omega))]
    exact ⟨y, rfl, hy⟩
  · intro F i y hi hy ih
    show ∃ x', f_X7_withOnePewMore_6 low (F + 1) x (nI (2 ^ n - 1)) (nI left) y (nI i) = some x' ∧ _
    rw [f_X7_withOnePewMore_6, if_neg (nI_nlt (by omega) (by omega))]
    unfold f_X7_withOnePewMore_31
    by_cases c : C i = true
    · rw [if_neg (fun z => by rw [lbit x (by omega), hx i hi, c] at z; exact absurd z (by decide)), pk_sub (by omega)]
      obtain ⟨m', m1, m2⟩ := x37 (rest := 2 ^ n - 1 - i) hn hi (by omega) hl hb hlow (f_X7_withOnePewMore_6 low F) x (nI (2 ^ n - 1)) FU (2 ^ n - 1 - i) y (by unfold FU; omega) (fun _ h => h)
      rw [m1]
      refine ih m' (fun R hR => ?_)
      rw [m2 R hR, hy R hR]
      constructor
      · rintro ((q | ⟨s, h, s1, s2⟩) | ⟨U, u1, u2, u3, u4, u5⟩)
        · exact Or.inl q
        · exact Or.inr ⟨s, h, by omega, s2⟩
        · have hU : U < 2 ^ n := by omega
          exact Or.inr ⟨i, U, by omega, hU, u1, c, (and_dis hU hi).mpr u3, u4, u5⟩
      · rintro (q | ⟨s, h, s1, s2, s3, s4, s5, s6, s7⟩)
        · exact Or.inl (Or.inl q)
        · by_cases e : s = i
          · rw [e] at s5 s7
            have sb := (and_dis s2 hi).mp s5
            have := sub_add sb (show 2 ^ n - 1 - i < 2 ^ n by omega)
            exact Or.inr ⟨h, s3, by omega, sb, s6, s7⟩
          · exact Or.inl (Or.inr ⟨s, h, by omega, s2, s3, s4, s5, s6, s7⟩)
    · have c' : C i = false := by cases h : C i; rfl; exact absurd h c
      rw [if_pos ((lbit x (by omega)).mpr (by rw [hx i hi]; exact c'))]
      obtain ⟨m', m1, m2⟩ := x37 (rest := 0) hn hi (by omega) hl hb hlow (f_X7_withOnePewMore_6 low F) x (nI (2 ^ n - 1)) FU 0 y (by unfold FU; omega) (fun _ h => h)
      rw [show f_X7_withOnePewMore_37 low (f_X7_withOnePewMore_6 low F) FU x (nI (2 ^ n - 1)) (nI left) y (nI i) 0 0 = _ from m1]
      refine ih m' (fun R hR => ?_)
      rw [m2 R hR, hy R hR]
      constructor
      · rintro ((q | ⟨s, h, s1, s2⟩) | ⟨U, u1, u2, _⟩)
        · exact Or.inl q
        · exact Or.inr ⟨s, h, by omega, s2⟩
        · omega
      · rintro (q | ⟨s, h, s1, s2, s3, s4, s5⟩)
        · exact Or.inl (Or.inl q)
        · by_cases e : s = i
          · rw [e] at s4; exact absurd s4 c
          · exact Or.inl (Or.inr ⟨s, h, by omega, s2, s3, s4, s5⟩)
  · intro R hR
    rw [hx R hR]
    constructor
    · exact Or.inl
    · rintro (q | ⟨s, h, s1, _⟩)
      · exact q
      · omega
