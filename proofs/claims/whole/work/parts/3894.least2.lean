/-! leastTime, the reference -/
theorem sN_pow (S : Nat) : ∀ n : Nat, sN (fun i => 2 ^ i) S n = S % 2 ^ n
  | 0 => by rw [Nat.pow_zero, Nat.mod_one]; rfl
  | n + 1 => by
    show sN (fun i => 2 ^ i) S n + (if S.testBit n then 2 ^ n else 0) = _
    rw [sN_pow S n, Nat.mod_pow_succ, tbq]
    have : S / 2 ^ n % 2 < 2 := Nat.mod_lt _ (by decide)
    by_cases c : S / 2 ^ n % 2 = 1
    · rw [c, decide_eq_true rfl, if_pos rfl, Nat.mul_one]
    · rw [show S / 2 ^ n % 2 = 0 by omega]; rfl
theorem sub_add {T S n : Nat} (h : Sub T S) (hS : S < 2 ^ n) : S = T + (S ^^^ T) := by
  have := sN_split (fun i => 2 ^ i) h n
  rw [sN_pow, sN_pow, sN_pow, Nat.mod_eq_of_lt hS, Nat.mod_eq_of_lt (Sub_lt h hS), Nat.mod_eq_of_lt (Sub_lt (Sub_x h) hS)] at this
  exact this
theorem and_half (a s : Nat) : a &&& s = 2 * (a / 2 &&& s / 2) + (if a % 2 = 1 ∧ s % 2 = 1 then 1 else 0) := by
  have h1 : (a &&& s) / 2 = a / 2 &&& s / 2 := Nat.and_div_two
  have h2 : (a &&& s) % 2 = 1 ↔ a % 2 = 1 ∧ s % 2 = 1 := Nat.and_mod_two_eq_one
  have h3 := Nat.div_add_mod (a &&& s) 2
  rw [h1] at h3
  by_cases c : a % 2 = 1 ∧ s % 2 = 1
  · rw [if_pos c]
    have := h2.mpr c
    omega
  · rw [if_neg c]
    have : ¬ (a &&& s) % 2 = 1 := fun z => c (h2.mp z)
    omega
theorem Sub_half {T S : Nat} (h : Sub T S) : Sub (T / 2) (S / 2) ∧ (T % 2 = 1 → S % 2 = 1) := by
  constructor
  · intro i hi
    rw [← Nat.testBit_succ] at hi ⊢
    exact h (i + 1) hi
  · intro ht
    have := h 0 (by rw [Nat.testBit_zero, decide_eq_true ht])
    rw [Nat.testBit_zero, decide_eq_true_eq] at this
    exact this
theorem subm : ∀ (T S U : Nat), Sub T S → Sub U S → U < T → U ≤ (T - 1) &&& S := by
  intro T
  induction T using Nat.strongRecOn with
  | ind T ih =>
    intro S U hT hU hlt
    obtain ⟨t1, t2⟩ := Sub_half hT
    obtain ⟨u1, u2⟩ := Sub_half hU
    rw [and_half]
    by_cases a : T % 2 = 1
    · rw [show (T - 1) / 2 = T / 2 by omega]
      have hle : U / 2 ≤ T / 2 &&& S / 2 := by
        have : T / 2 &&& S / 2 = T / 2 := by
          apply Nat.eq_of_testBit_eq
          intro i
          rw [Nat.testBit_and]
          cases hb : (T / 2).testBit i
          · rfl
          · rw [t1 i hb]; rfl
        rw [this]; omega
      have : T / 2 &&& S / 2 = T / 2 := by
        apply Nat.eq_of_testBit_eq
        intro i
        rw [Nat.testBit_and]
        cases hb : (T / 2).testBit i
        · rfl
        · rw [t1 i hb]; rfl
      omega
    · have h1 : U / 2 < T / 2 := by omega
      have := ih (T / 2) (by omega) (S / 2) (U / 2) t1 u1 h1
      rw [show (T - 1) / 2 = T / 2 - 1 by omega]
      by_cases c : U % 2 = 1
      · rw [if_pos ⟨by omega, u2 c⟩]; omega
      · omega
theorem subT {T S : Nat} : Sub ((T - 1) &&& S) S ∧ (0 < T → (T - 1) &&& S < T) := by
  constructor
  · intro i hi
    rw [Nat.testBit_and, Bool.and_eq_true] at hi
    exact hi.2
  · intro h
    have : (T - 1) &&& S ≤ T - 1 := Nat.and_le_left
    omega
theorem diffI {S T : Nat} (h : Sub T S) : nI S &&& (nI T ^^^ (-1)) = nI (S ^^^ T) := by
  apply Int32.toBitVec_inj.mp
  apply BitVec.eq_of_getLsbD_eq
  intro i hi
  rw [Int32.toBitVec_and, Int32.toBitVec_xor]
  show (BitVec.ofNat 32 S &&& (BitVec.ofNat 32 T ^^^ (-1 : Int32).toBitVec)).getLsbD i = (BitVec.ofNat 32 (S ^^^ T)).getLsbD i
  rw [BitVec.getLsbD_and, BitVec.getLsbD_xor, BitVec.getLsbD_ofNat, BitVec.getLsbD_ofNat, BitVec.getLsbD_ofNat, Nat.testBit_xor, show (-1 : Int32).toBitVec = BitVec.allOnes 32 from rfl, BitVec.getLsbD_allOnes, decide_eq_true hi]
  have := h i
  cases hS : S.testBit i <;> cases hT : T.testBit i
  · rfl
  · rw [hS, hT] at this; exact absurd (this rfl) (by decide)
  · rfl
  · rfl
theorem mnM {a b : Nat} (ha : a < 2 ^ 31) (hb : b < 2 ^ 31) : f_X12_min (nI a) (nI b) = some (nI (min a b)) := by
  unfold f_X12_min
  by_cases h : b ≤ a
  · rw [if_pos (nI_le h ha), show min a b = b by omega]
  · rw [if_neg (nI_ge (by omega) hb), show min a b = a by omega]
/-- x is the least that k parts of T hold -/
def VA (b : Nat → Nat) (n k T : Nat) (x : Int32) : Prop := ∃ v : Nat, v ≤ 2550 ∧ x = nI v ∧ ∀ lim : Nat, v ≤ lim ↔ Fit b n lim k T
theorem m91 {tape : Nat → Int32} {b : Nat → Nat} {n k S : Nat} (hn : n ≤ 10) (hS : S < 2 ^ n) (hb : ∀ i, b i ≤ 255) (hw : ∀ i : Nat, i < n → f_X12_octet tape (nI i) = some (nI (b i))) (K73 : Int32 → Int32 → Int32 → Int32 → Int32 → (Nat → Int32) → Option (Int32 × Int32 × (Nat → Int32))) (K82 : Int32 → Int32 → Int32 → Int32 → Int32 → Int32 → (Nat → Int32) → Option (Int32 × Int32 × (Nat → Int32))) (x2 x3 x4 : Int32) (a : Nat → Int32) (ha : ∀ T : Nat, T < S → VA b n k T (a T)) :
    ∀ (F T cur : Nat), T < F → Sub T S → cur ≤ 2550 → (∀ lim : Nat, cur ≤ lim ↔ (Fit b n lim k S ∨ ∃ U, Sub U S ∧ T < U ∧ sN b U n ≤ lim ∧ Fit b n lim k (S ^^^ U))) →
      ∃ v, v ≤ 2550 ∧ (∀ lim : Nat, v ≤ lim ↔ Fit b n lim (k + 1) S) ∧ f_X12_leastTime_91 tape K73 K82 F (nI n) x2 x3 x4 (nI S) (nI T) 0 (upd a S (nI cur)) = K82 (nI n) x2 x3 x4 (nI S + (-1)) 0 (upd a S (nI v)) := by
  have h10 : 2 ^ n ≤ 1024 := Nat.le_trans (Nat.pow_le_pow_right (by decide) hn) (by decide)
  intro F
  induction F with
  | zero => intro T cur h; omega
  | succ F ih =>
    intro T cur hT hTS hc hcur
    have hTn : T < 2 ^ n := Sub_lt hTS hS
    by_cases z : T = 0
    · refine ⟨cur, hc, fun lim => ?_, ?_⟩
      · rw [hcur lim]
        constructor
        · rintro (h | ⟨U, u1, u2, u3, u4⟩)
          · exact Fit_up h
          · exact ⟨U, u1, u3, u4⟩
        · rintro ⟨U, u1, u3, u4⟩
          by_cases u : U = 0
          · rw [u, Nat.xor_zero] at u4; exact Or.inl u4
          · exact Or.inr ⟨U, u1, by omega, u3, u4⟩
      · rw [z, f_X12_leastTime_91, if_pos (show nI 0 ≤ 0 by decide)]
    · have hadd := sub_add hTS hS
      obtain ⟨v, v1, v2, v3⟩ := ha (S ^^^ T) (by omega)
      have hs : sN b T n ≤ 2550 := Nat.le_trans (sN_le hb T n) (by omega)
      obtain ⟨n1, n2⟩ := subT (T := T) (S := S)
      have n2 := n2 (by omega)
      rw [f_X12_leastTime_91, if_neg (nI_nle (by omega) (by omega)), ixn (by omega) (by decide), sumM (by omega) (by omega) hw, bs, diffI hTS, ixn (by omega) (by decide), nI_clamp (by omega), nI_clamp (by omega), upd_n (show S ^^^ T ≠ S by omega), v2, mxM (by omega) (by omega), bs, upd_s, mnM (by omega) (by omega), bs, ixn (by omega) (by decide), upd_upd, show nI T - 1 = nI (T - 1) from pk_sub (b := 1) (by omega), nAnd]
      refine ih _ _ (by omega) n1 (by omega) (fun lim => ?_)
      rw [show (min cur (max (sN b T n) v) ≤ lim) ↔ (cur ≤ lim ∨ (sN b T n ≤ lim ∧ v ≤ lim)) by omega, hcur lim, v3 lim]
      constructor
      · rintro ((h | ⟨U, u1, u2, u3⟩) | ⟨h1, h2⟩)
        · exact Or.inl h
        · exact Or.inr ⟨U, u1, by omega, u3⟩
        · exact Or.inr ⟨T, hTS, n2, h1, h2⟩
      · rintro (h | ⟨U, u1, u2, u3, u4⟩)
        · exact Or.inl (Or.inl h)
        · rcases Nat.lt_trichotomy U T with q | q | q
          · have := subm T S U hTS u1 q; omega
          · rw [q] at u3 u4; exact Or.inr ⟨u3, u4⟩
          · exact Or.inl (Or.inr ⟨U, u1, q, u3, u4⟩)
theorem VA_0 {b : Nat → Nat} {n k : Nat} {x : Int32} (h : VA b n k 0 x) : VA b n (k + 1) 0 x := by
  obtain ⟨v, v1, v2, v3⟩ := h
  exact ⟨v, v1, v2, fun lim => ⟨fun _ => Fit_0 b n lim (k + 1), fun _ => (v3 lim).mpr (Fit_0 b n lim k)⟩⟩
theorem bestM {tape : Nat → Int32} {b : Nat → Nat} {n m : Nat} (hn1 : 1 ≤ n) (hn : n ≤ 10) (hm1 : 1 ≤ m) (hm : m ≤ 8) (hb : ∀ i, b i ≤ 255) (hw : ∀ i : Nat, i < n → f_X12_octet tape (nI i) = some (nI (b i))) (a : Nat → Int32) :
    ∃ ans r, (∀ lim : Nat, ans ≤ lim ↔ Fit b n lim m (2 ^ n - 1)) ∧ f_X12_leastTime_44 tape FU (nI n) (nI m) (nI (2 ^ n - 1)) 0 0 a = some (nI ans, 0, r) := by
  have h10 : 2 ^ n ≤ 1024 := Nat.le_trans (Nat.pow_le_pow_right (by decide) hn) (by decide)
  have hp := Nat.two_pow_pos n
  refine loop1 (2 ^ n) (fun i (a : Nat → Int32) => ∀ T : Nat, T < i → VA b n 1 T (a T)) (fun F i a => f_X12_leastTime_44 tape F (nI n) (nI m) (nI (2 ^ n - 1)) (nI i) 0 a) (fun o => ∃ ans r, (∀ lim : Nat, ans ≤ lim ↔ Fit b n lim m (2 ^ n - 1)) ∧ o = some (nI ans, 0, r)) ?_ ?_ (2 ^ n) 0 a FU (by omega) (by unfold FU; omega) (fun T hT => by omega)
  · intro F a ha
    show ∃ ans r, _ ∧ f_X12_leastTime_44 tape (F + 1) (nI n) (nI m) (nI (2 ^ n - 1)) (nI (2 ^ n)) 0 a = _
    rw [f_X12_leastTime_44, if_pos (nI_lt (by omega) (by omega))]
    refine loop1 (m - 1) (fun i (a : Nat → Int32) => ∀ T : Nat, T < 2 ^ n → VA b n (i + 1) T (a T)) (fun F i a => f_X12_leastTime_73 tape F (nI n) (nI m) (nI (2 ^ n - 1)) (nI (i + 1)) 0 a) (fun o => ∃ ans r, (∀ lim : Nat, ans ≤ lim ↔ Fit b n lim m (2 ^ n - 1)) ∧ o = some (nI ans, 0, r)) ?_ ?_ (m - 1) 0 a FU (by omega) (by unfold FU; omega) ha
    · intro F a ha
      show ∃ ans r, _ ∧ f_X12_leastTime_73 tape (F + 1) (nI n) (nI m) (nI (2 ^ n - 1)) (nI (m - 1 + 1)) 0 a = _
      rw [show m - 1 + 1 = m by omega] at ha ⊢
      obtain ⟨v, v1, v2, v3⟩ := ha (2 ^ n - 1) (by omega)
      rw [f_X12_leastTime_73, if_pos (nI_le (Nat.le_refl _) (by omega)), ixn (by omega) (by decide), nI_clamp (by omega), v2]
      exact ⟨v, a, v3, rfl⟩
    · intro F i a hi ha ih
      show ∃ ans r, _ ∧ f_X12_leastTime_73 tape (F + 1) (nI n) (nI m) (nI (2 ^ n - 1)) (nI (i + 1)) 0 a = _
      rw [f_X12_leastTime_73, if_neg (nI_ge (by omega) (by omega))]
      refine loop1 (2 ^ n - 1) (fun d (a : Nat → Int32) => (∀ T : Nat, T ≤ 2 ^ n - 1 - d → VA b n (i + 1) T (a T)) ∧ ∀ T : Nat, 2 ^ n - 1 - d < T → T < 2 ^ n → VA b n (i + 1 + 1) T (a T)) (fun G d a => f_X12_leastTime_82 tape (f_X12_leastTime_73 tape F) G (nI n) (nI m) (nI (2 ^ n - 1)) (nI (i + 1)) (nI (2 ^ n - 1 - d)) 0 a) (fun o => ∃ ans r, (∀ lim : Nat, ans ≤ lim ↔ Fit b n lim m (2 ^ n - 1)) ∧ o = some (nI ans, 0, r)) ?_ ?_ (2 ^ n - 1) 0 a FU (by omega) (by unfold FU; omega) ⟨fun T hT => ha T (by omega), fun T h1 h2 => by omega⟩
      · rintro G a ⟨g1, g2⟩
        show ∃ ans r, _ ∧ f_X12_leastTime_82 tape (f_X12_leastTime_73 tape F) (G + 1) (nI n) (nI m) (nI (2 ^ n - 1)) (nI (i + 1)) (nI (2 ^ n - 1 - (2 ^ n - 1))) 0 a = _
        rw [Nat.sub_self] at g1 g2 ⊢
        rw [f_X12_leastTime_82, if_pos (show nI 0 ≤ 0 by decide), nI_1]
        refine ih a (fun T hT => ?_)
        by_cases z : T = 0
        · rw [z]; exact VA_0 (g1 0 (Nat.le_refl _))
        · exact g2 T (by omega) hT
      · rintro G d a hd ⟨g1, g2⟩ ih2
        show ∃ ans r, _ ∧ f_X12_leastTime_82 tape (f_X12_leastTime_73 tape F) (G + 1) (nI n) (nI m) (nI (2 ^ n - 1)) (nI (i + 1)) (nI (2 ^ n - 1 - d)) 0 a = _
        generalize hSd : 2 ^ n - 1 - d = S at g1 g2
        have hS : S < 2 ^ n := by omega
        have hS0 : 0 < S := by omega
        rw [f_X12_leastTime_82, if_neg (nI_nle hS0 (by omega))]
        obtain ⟨v, v1, v2, v3⟩ := g1 S (Nat.le_refl _)
        have hself : a = upd a S (nI v) := by
          funext j
          by_cases q : j = S
          · rw [q, upd_s, v2]
          · rw [upd_n q]
        obtain ⟨v', w1, w2, w3⟩ := m91 (k := i + 1) hn hS hb hw (f_X12_leastTime_73 tape F) (f_X12_leastTime_82 tape (f_X12_leastTime_73 tape F) G) (nI m) (nI (2 ^ n - 1)) (nI (i + 1)) a (fun T hT => g1 T (by omega)) FU S v (by unfold FU; omega) (fun _ h => h) v1 (fun lim => by
          rw [v3 lim]
          constructor
          · exact Or.inl
          · rintro (h | ⟨U, u1, u2, _⟩)
            · exact h
            · have := sub_add u1 hS; omega)
        rw [← hself] at w3
        rw [w3, show nI S + (-1) = nI (2 ^ n - 1 - (d + 1)) by
          obtain ⟨S', rfl⟩ : ∃ S', S = S' + 1 := ⟨S - 1, by omega⟩
          rw [pk_m1, show 2 ^ n - 1 - (d + 1) = S' by omega]]
        refine ih2 _ ⟨fun T hT => ?_, fun T h1 h2 => ?_⟩
        · rw [upd_n (by omega)]; exact g1 T (by omega)
        · by_cases q : T = S
          · rw [q, upd_s]; exact ⟨v', w1, rfl, w2⟩
          · rw [upd_n q]; exact g2 T (by omega) h2
  · intro F i a hi ha ih
    show ∃ ans r, _ ∧ f_X12_leastTime_44 tape (F + 1) (nI n) (nI m) (nI (2 ^ n - 1)) (nI i) 0 a = _
    have hs : sN b i n ≤ 2550 := Nat.le_trans (sN_le hb i n) (by omega)
    rw [f_X12_leastTime_44, if_neg (nI_nlt (by omega) (by omega)), sumM (by omega) (by omega) hw, bs, ixn (by omega) (by decide), nI_clamp (by omega), nI_1]
    refine ih _ (fun T hT => ?_)
    by_cases q : T = i
    · rw [q, upd_s]; exact ⟨_, hs, rfl, fun lim => Fit_one.symm⟩
    · rw [upd_n q]; exact ha T (by omega)
theorem bnat {XA0' MA3 : Nat → Int32} (hb : ∀ k : Nat, k < 260 → XA0' k = MA3 k &&& 255) : ∃ b : Nat → Nat, (∀ i, b i ≤ 255) ∧ ∀ i : Nat, i < 260 → XA0' i = nI (b i) := by
  refine ⟨fun i => (XA0' i).toNatClampNeg % 256, fun i => by have := Nat.mod_lt (XA0' i).toNatClampNeg (show 0 < 256 by decide); show (XA0' i).toNatClampNeg % 256 ≤ 255; omega, fun i hi => ?_⟩
  obtain ⟨c, h1, h2⟩ := and255 (MA3 i)
  show XA0' i = nI ((XA0' i).toNatClampNeg % 256)
  rw [hb i hi, h2, nI_clamp (by omega), Nat.mod_eq_of_lt h1]
theorem wi18 {x : Int32} (e : f_X11_isWithin x 1 8 = some 1) : ∃ m : Nat, 1 ≤ m ∧ m ≤ 8 ∧ x = nI m := by
  unfold f_X11_isWithin at e
  by_cases q : x < 1
  · rw [if_pos q] at e; exact absurd e (by decide)
  · rw [if_neg q] at e
    by_cases q2 : (8 : Int32) < x
    · rw [if_pos q2] at e; exact absurd e (by decide)
    · have q0 : ¬ x < 0 := fun w => q (Int32.lt_trans w (by decide))
      obtain ⟨m, hm, rfl⟩ := nI_of q0
      refine ⟨m, ?_, ?_, rfl⟩
      · rcases Nat.eq_zero_or_pos m with w | w
        · rw [w] at q; exact absurd (by decide) q
        · exact w
      · rcases Nat.lt_or_ge 8 m with w | w
        · exact absurd (show nI 8 < nI m from nI_lt w hm) q2
        · exact w
theorem pm_leastTime {XA : Nat → Nat → Int32} {XI : Nat → Int32} {MA : Nat → Nat → Int32} {MI : Nat → Int32} (h : Inv XA XI MA MI) (x1 : Int32) (x2 : Int32) : ∃ (rX : Int32 × Int32 × (Nat → Int32)) (rM : Int32 × Int32 × (Nat → Int32)), f_X11_leastTime (XI 1) (XA 0) (XA 21) x1 x2 = some rX ∧ f_X12_leastTime (MI 0) (MA 3) (MA 23) x1 x2 = some rM ∧ rX.1 = rM.1 ∧ Inv (va_up XA 21 rX.2.2) (va_up XI 1 rX.2.1) (va_up MA 23 rM.2.2) (va_up MI 0 rM.2.1) := by
  obtain ⟨⟨⟨n, hn, e1, e2⟩, hb⟩, hC, hk, hkk, hL⟩ := h
  have same : ∀ (a b : Nat → Int32), Inv (va_up XA 21 a) (va_up XI 1 (nI n)) (va_up MA 23 b) (va_up MI 0 (nI n)) := fun a b => ⟨⟨⟨n, hn, rfl, rfl⟩, hb⟩, hC, hk, hkk, hL⟩
  have done : ∀ (a b : Nat → Int32), Inv (va_up XA 21 a) (va_up XI 1 0) (va_up MA 23 b) (va_up MI 0 0) := fun a b => ⟨⟨⟨0, by decide, rfl, rfl⟩, hb⟩, hC, hk, hkk, hL⟩
  unfold f_X11_leastTime f_X12_leastTime f_X8_clear
  rw [e1, e2]
  rcases holds_eq hn x1 1 10 (by decide) (by decide) with ⟨d1, d2⟩ | ⟨j, j1, j2, j3, rfl, d1, d2, d3, d4⟩
  · have d1 : f_X8_holds (nI n) x1 1 10 = some 0 := d1
    rw [d1, bs, if_pos rfl]
    rcases d2 with d2 | ⟨d2, d3, -⟩
    · have d2 : f_X12_in x1 1 10 = some 0 := d2
      rw [d2, bs, if_pos rfl]
      exact ⟨_, _, rfl, rfl, rfl, same _ _⟩
    · have d2 : f_X12_in x1 1 10 = some 1 := d2
      rw [d2, bs, if_neg i10, if_neg d3, same_in]
      rcases wi01 x2 1 8 with e | e
      · rw [e, bs, if_pos rfl]; exact ⟨_, _, rfl, rfl, rfl, same _ _⟩
      · rw [e, bs, if_neg i10]; exact ⟨_, _, rfl, rfl, rfl, same _ _⟩
  · have d1 : f_X8_holds (nI n) (nI j) 1 10 = some 1 := d1
    have d2 : f_X12_in (nI j) 1 10 = some 1 := d2
    rw [d1, d2, bs, bs, if_neg i10, if_neg i10, same_in]
    rcases wi01 x2 1 8 with e | e
    · rw [e, bs, bs, if_pos rfl, if_pos rfl]; exact ⟨_, _, rfl, rfl, rfl, same _ _⟩
    · obtain ⟨m, m1, m8, rfl⟩ := wi18 e
      obtain ⟨b, hb1, hb2⟩ := bnat hb
      have hw := fun (i : Nat) (hi : i < j) => byte_eq hb (show i < n by omega) hn
      obtain ⟨ans, r, a1, a2⟩ := bestM (tape := MA 3) (b := b) j1 j2 m1 m8 hb1 (fun i hi => by rw [(hw i hi).2, hb2 i (by omega)]) (MA 23)
      obtain ⟨r', a3⟩ := bestX (bt := XA 0) (L := nI n) (b := b) j1 j2 m1 m8 hb1 (fun i hi => by rw [(hw i hi).1, hb2 i (by omega)]) a1 (XA 21)
      have hp := Nat.two_pow_pos j
      rw [e, bs, bs, if_neg i10, if_neg i10, if_pos d3, sl1 (by omega), show nI (2 ^ j) - 1 = nI (2 ^ j - 1) from pk_sub (b := 1) (by omega), a2, a3, bs, bs]
      exact ⟨_, _, rfl, rfl, rfl, done _ _⟩
