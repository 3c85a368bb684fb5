/-! leastTime -/
theorem bitI {s i : Nat} (hs : s < 2 ^ 31) (hi : i < 31) : ((nI s >>> (nI i &&& 31)) &&& 1) = 1 ↔ s.testBit i = true := by
  have := has1 hs hi
  unfold f_X12_has at this
  constructor
  · intro h
    rw [if_pos h] at this
    cases hq : s.testBit i
    · rw [hq] at this; exact absurd this (by decide)
    · rfl
  · intro h
    apply Classical.byContradiction
    intro hn
    rw [if_neg hn, h] at this
    exact absurd this (by decide)
theorem sumM {tape : Nat → Int32} {b : Nat → Nat} {n S : Nat} (hn : n ≤ 12) (hS : S < 2 ^ 31) (hw : ∀ i : Nat, i < n → f_X12_octet tape (nI i) = some (nI (b i))) : f_X12_sumOf tape (nI S) (nI n) = some (nI (sN b S n)) := by
  unfold f_X12_sumOf
  refine loop1 n (fun i (s : Int32) => s = nI (sN b S i)) (fun F i s => f_X12_sumOf_5 tape F (nI S) (nI n) s (nI i)) (fun o => o = some (nI (sN b S n))) ?_ ?_ n 0 0 FU (by omega) (by unfold FU; omega) rfl
  · intro F s hs
    show f_X12_sumOf_5 tape (F + 1) (nI S) (nI n) s (nI n) = _
    rw [f_X12_sumOf_5, if_pos (nI_le (Nat.le_refl _) (by omega)), hs]
  · intro F i s hi hs ih
    show f_X12_sumOf_5 tape (F + 1) (nI S) (nI n) s (nI i) = _
    rw [f_X12_sumOf_5, if_neg (nI_ge (by omega) (by omega)), has1 hS (by omega), bs, hw i hi, bs, nI_1]
    have e : sN b S (i + 1) = sN b S i + (if S.testBit i then b i else 0) := rfl
    cases hq : S.testBit i with
    | false => rw [show (if false = true then (1 : Int32) else 0) = 0 from rfl, if_pos rfl]; exact ih s (by rw [e, hq, hs]; rfl)
    | true => rw [show (if true = true then (1 : Int32) else 0) = 1 from rfl, if_neg i10]; exact ih _ (by rw [e, hq, hs, la]; rfl)
theorem ext1 {lim e w : Nat} (hl : lim < 4096) (he : e < 2 ^ 24) (hw : w ≤ 255) : f_X7_withOneMore (nI e) (nI w) (nI lim) = some (nI (ext lim e w)) := by
  unfold f_X7_withOneMore ext
  rw [show jrem (nI e) 4096 = nI (e % 4096) from rm_eq (by omega) (by decide) (by decide), show nI e / 4096 = nI (e / 4096) from dv_eq (by omega) (by decide) (by decide), la, nI_1, show nI (e / 4096 + 1) * 4096 = nI ((e / 4096 + 1) * 4096) from lm _ 4096, la, la]
  by_cases c : lim < e % 4096 + w
  · rw [if_pos c, if_pos (nI_lt c (by omega))]
  · rw [if_neg c, if_neg (nI_nlt (by omega) (by omega))]
theorem EV_b {b : Nat → Nat} {n lim S e : Nat} (hl : lim < 4096) (hS : S < 1024) (h : EV b n lim S e) : e < 2 ^ 23 := by
  obtain ⟨c, l, h1, h2, h3, _⟩ := h
  omega
theorem ext_b {lim e w : Nat} (he : e < 2 ^ 23) (hw : w ≤ 255) : ext lim e w < 2 ^ 24 := by
  unfold ext
  split <;> omega
theorem ushF {bt : Nat → Int32} {L : Int32} {b : Nat → Nat} {n lim : Nat} (hn1 : 1 ≤ n) (hn : n ≤ 10) (hl : lim < 4096) (hb : ∀ i, b i ≤ 255) (hbl : ∀ j : Nat, j < n → b j ≤ lim) (hw : ∀ i : Nat, i < n → f_X8_byteAt L bt (nI i) = some (nI (b i))) (a : Nat → Int32) :
    ∃ r e, f_X7_ushersFor L bt a (nI n) (nI lim) = some (nI (e / 4096 + (if e % 4096 = 0 then 0 else 1)), r) ∧ EV b n lim (2 ^ n - 1) e := by
  have h10 : 2 ^ n ≤ 1024 := Nat.le_trans (Nat.pow_le_pow_right (by decide) hn) (by decide)
  have hp := Nat.two_pow_pos n
  unfold f_X7_ushersFor
  rw [show ∀ o : Option (Int32 × (Nat → Int32)), ix 1024 0 o = o from fun o => ixn (j := 0) (by decide) (by decide), show (0 : Int32).toNatClampNeg = 0 from rfl]
  refine loop1 (2 ^ n - 1) (fun i (a : Nat → Int32) => ∀ T : Nat, T < i + 1 → ∃ e, a T = nI e ∧ EV b n lim T e) (fun F i a => f_X7_ushersFor_9 L bt F (nI n) (nI lim) (nI (i + 1)) a) (fun o => ∃ r e, o = some (nI (e / 4096 + (if e % 4096 = 0 then 0 else 1)), r) ∧ EV b n lim (2 ^ n - 1) e) ?_ ?_ (2 ^ n - 1) 0 (upd a 0 0) FU (by omega) (by unfold FU; omega) ?_
  · intro F a ha
    obtain ⟨e, e1, e2⟩ := ha (2 ^ n - 1) (by omega)
    have eb := EV_b hl (by omega) e2
    show ∃ r e, f_X7_ushersFor_9 L bt (F + 1) (nI n) (nI lim) (nI (2 ^ n - 1 + 1)) a = _ ∧ _
    rw [f_X7_ushersFor_9, sl1 (by omega), if_pos (nI_le (by omega) (by omega))]
    unfold f_X7_ushersFor_107
    rw [sl1 (by omega), show nI (2 ^ n) - 1 = nI (2 ^ n - 1) from pk_sub (b := 1) (by omega), ixn (by omega) (by decide), nI_clamp (by omega), e1, show jrem (nI e) 4096 = nI (e % 4096) from rm_eq (by omega) (by decide) (by decide), show nI e / 4096 = nI (e / 4096) from dv_eq (by omega) (by decide) (by decide)]
    refine ⟨a, e, ?_, e2⟩
    by_cases z : e % 4096 = 0
    · rw [z, if_pos (show nI 0 ≤ 0 by decide), if_pos rfl, Int32.add_zero, Nat.add_zero]
    · rw [if_neg (nI_nle (by omega) (by omega)), if_neg z, nI_1]
  · intro F i a hi ha ih
    show ∃ r e, f_X7_ushersFor_9 L bt (F + 1) (nI n) (nI lim) (nI (i + 1)) a = _ ∧ _
    rw [f_X7_ushersFor_9, sl1 (by omega), if_neg (nI_ge (by omega) (by omega)), if_neg (show ¬ (1024 : Int32) ≤ nI (i + 1) from nI_ge (b := 1024) (by omega) (by decide)), ixn (by omega) (by decide), nI_clamp (by omega)]
    have hS : i + 1 < 2 ^ n := by omega
    have hS0 : i + 1 ≠ 0 := by omega
    generalize hSd : i + 1 = S at hS hS0 ha
    have hS10 : S < 1024 := by omega
    have ea : ∀ T : Nat, T < S → a T = nI (a T).toNatClampNeg ∧ EV b n lim T (a T).toNatClampNeg := fun T hT => by
      obtain ⟨e, e1, e2⟩ := ha T hT
      have := EV_b hl (by omega) e2
      rw [e1, nI_clamp (by omega)]
      exact ⟨rfl, e2⟩
    have he : ∀ j : Nat, j < n → S.testBit j = true → EV b n lim (S ^^^ 2 ^ j) (a (S ^^^ 2 ^ j)).toNatClampNeg := fun j hj hb' => by
      obtain ⟨x1, x2⟩ := xorS hS10 (show j < 10 by omega) hb'
      have := Nat.two_pow_pos j
      exact (ea _ (by omega)).2
    refine loop1 n (fun j (a' : Nat → Int32) => (∀ T : Nat, T < S → a' T = a T) ∧ ∃ cur, a' S = nI cur ∧ cur ≤ 1073741824 ∧ (∀ i : Nat, i < j → S.testBit i = true → cur ≤ ext lim (a (S ^^^ 2 ^ i)).toNatClampNeg (b i)) ∧ ((cur = 1073741824 ∧ ∀ i : Nat, i < j → S.testBit i = false) ∨ ∃ i, i < j ∧ S.testBit i = true ∧ cur = ext lim (a (S ^^^ 2 ^ i)).toNatClampNeg (b i))) (fun G j a' => f_X7_ushersFor_36 L bt (f_X7_ushersFor_9 L bt F) G (nI n) (nI lim) (nI S) (nI j) a') (fun o => ∃ r e, o = some (nI (e / 4096 + (if e % 4096 = 0 then 0 else 1)), r) ∧ EV b n lim (2 ^ n - 1) e) ?_ ?_ n 0 (upd a S 1073741824) FU (by omega) (by unfold FU; omega) ?_
    · rintro G a' ⟨g1, cur, g2, g3, g4, g5⟩
      show ∃ r e, f_X7_ushersFor_36 L bt (f_X7_ushersFor_9 L bt F) (G + 1) (nI n) (nI lim) (nI S) (nI n) a' = _ ∧ _
      rw [f_X7_ushersFor_36, if_pos (nI_le (Nat.le_refl _) (by omega)), nI_1]
      rw [hSd] at ih
      refine ih a' (fun T hT => ?_)
      by_cases q : T = S
      · rw [q, g2]
        refine ⟨cur, rfl, EV_step hl hbl hn hS hS0 he g4 ?_⟩
        rcases g5 with ⟨_, z⟩ | z
        · obtain ⟨j, hj⟩ := bit_of hS0
          rcases Nat.lt_or_ge j n with y | y
          · rw [z j y] at hj; exact absurd hj (by decide)
          · rw [Nat.testBit_lt_two_pow (Nat.lt_of_lt_of_le hS (Nat.pow_le_pow_right (by decide) y))] at hj
            exact absurd hj (by decide)
        · exact z
      · have hT : T < S := by omega
        rw [g1 T hT]
        exact ⟨_, (ea T hT).1, (ea T hT).2⟩
    · rintro G j a' hj ⟨g1, cur, g2, g3, g4, g5⟩ ih2
      show ∃ r e, f_X7_ushersFor_36 L bt (f_X7_ushersFor_9 L bt F) (G + 1) (nI n) (nI lim) (nI S) (nI j) a' = _ ∧ _
      rw [f_X7_ushersFor_36, if_neg (nI_ge (by omega) (by omega)), nI_1]
      by_cases c : S.testBit j = true
      · obtain ⟨x1, x2⟩ := xorS hS10 (show j < 10 by omega) c
        have hp2 := Nat.two_pow_pos j
        have hx : S ^^^ 2 ^ j < S := by omega
        have eb := EV_b hl (by omega) (he j hj c)
        have eb2 := ext_b (lim := lim) eb (hb j)
        rw [if_pos ((bitI (by omega) (by omega)).mpr c), sl1 (by omega), pk_sub x1, ← x2, ixn (by omega) (by decide), ixn hS10 (by decide), hw j hj, bs, nI_clamp (by omega), nI_clamp (by omega), g1 _ hx, (ea _ hx).1, ext1 hl (by omega) (hb j), bs, ixn hS10 (by decide), g2]
        have mn : (if nI (ext lim (a (S ^^^ 2 ^ j)).toNatClampNeg (b j)) < nI cur then nI (ext lim (a (S ^^^ 2 ^ j)).toNatClampNeg (b j)) else nI cur) = nI (min (ext lim (a (S ^^^ 2 ^ j)).toNatClampNeg (b j)) cur) := by
          by_cases y : ext lim (a (S ^^^ 2 ^ j)).toNatClampNeg (b j) < cur
          · rw [if_pos (nI_lt y (by omega)), show min (ext lim (a (S ^^^ 2 ^ j)).toNatClampNeg (b j)) cur = ext lim (a (S ^^^ 2 ^ j)).toNatClampNeg (b j) by omega]
          · rw [if_neg (nI_nlt (by omega) (by omega)), show min (ext lim (a (S ^^^ 2 ^ j)).toNatClampNeg (b j)) cur = cur by omega]
        rw [mn]
        refine ih2 _ ⟨fun T hT => ?_, min (ext lim (a (S ^^^ 2 ^ j)).toNatClampNeg (b j)) cur, upd_s, by omega, fun i hi hc => ?_, Or.inr ?_⟩
        · rw [upd_n (by omega)]; exact g1 T hT
        · by_cases y : i = j
          · rw [y]; omega
          · have := g4 i (by omega) hc; omega
        · by_cases y : ext lim (a (S ^^^ 2 ^ j)).toNatClampNeg (b j) ≤ cur
          · exact ⟨j, by omega, c, by omega⟩
          · rcases g5 with ⟨z, _⟩ | ⟨i, i1, i2, i3⟩
            · omega
            · exact ⟨i, by omega, i2, by omega⟩
      · rw [if_neg (fun z => c ((bitI (by omega) (by omega)).mp z))]
        have c' : S.testBit j = false := by cases h : S.testBit j; rfl; exact absurd h c
        refine ih2 a' ⟨g1, cur, g2, g3, fun i hi hc => ?_, ?_⟩
        · by_cases y : i = j
          · rw [y] at hc; exact absurd hc c
          · exact g4 i (by omega) hc
        · rcases g5 with ⟨z, z2⟩ | ⟨i, i1, i2, i3⟩
          · refine Or.inl ⟨z, fun i hi => ?_⟩
            by_cases y : i = j
            · rw [y]; exact c'
            · exact z2 i (by omega)
          · exact Or.inr ⟨i, by omega, i2, i3⟩
    · exact ⟨fun T hT => upd_n (by omega), 1073741824, upd_s, Nat.le_refl _, fun i hi => by omega, Or.inl ⟨rfl, fun i hi => by omega⟩⟩
  · intro T hT
    rw [show T = 0 by omega]
    exact ⟨0, upd_s, EV_0 b n lim⟩
def mxl (b : Nat → Nat) : Nat → Nat
  | 0 => 0
  | n + 1 => max (mxl b n) (b n)
theorem mxl_ge (b : Nat → Nat) {j : Nat} : ∀ {n : Nat}, j < n → b j ≤ mxl b n
  | 0, h => by omega
  | n + 1, h => by
    show b j ≤ max (mxl b n) (b n)
    rcases Nat.lt_or_ge j n with q | q
    · have := mxl_ge b q; omega
    · rw [show j = n by omega]; omega
theorem mxl_at (b : Nat → Nat) : ∀ n : Nat, mxl b n = 0 ∨ ∃ j, j < n ∧ mxl b n = b j
  | 0 => Or.inl rfl
  | n + 1 => by
    show max (mxl b n) (b n) = 0 ∨ ∃ j, j < n + 1 ∧ max (mxl b n) (b n) = b j
    by_cases c : mxl b n ≤ b n
    · exact Or.inr ⟨n, by omega, by omega⟩
    · rcases mxl_at b n with q | ⟨j, j1, j2⟩
      · omega
      · exact Or.inr ⟨j, by omega, by omega⟩
theorem full_bit {n i : Nat} (h : i < n) : (2 ^ n - 1).testBit i = true := by
  rw [Nat.testBit_two_pow_sub_one]
  exact decide_eq_true h
theorem tot_sN (b : Nat → Nat) (n : Nat) : ∀ m : Nat, m ≤ n → tot (fun i => nI (b i)) m = nI (sN b (2 ^ n - 1) m)
  | 0, _ => rfl
  | m + 1, h => by
    show tot (fun i => nI (b i)) m + nI (b m) = nI (sN b (2 ^ n - 1) m + (if (2 ^ n - 1).testBit m then b m else 0))
    rw [tot_sN b n m (by omega), full_bit (show m < n by omega), if_pos rfl, la]
theorem bestX {bt : Nat → Int32} {L : Int32} {b : Nat → Nat} {n m ans : Nat} (hn1 : 1 ≤ n) (hn : n ≤ 10) (hm1 : 1 ≤ m) (hm : m ≤ 8) (hb : ∀ i, b i ≤ 255) (hw : ∀ i : Nat, i < n → f_X8_byteAt L bt (nI i) = some (nI (b i))) (ha : ∀ lim : Nat, ans ≤ lim ↔ Fit b n lim m (2 ^ n - 1)) (a : Nat → Int32) :
    ∃ r, f_X7_leadInBestRow L bt a (nI n) (nI m) = some (nI ans, r) := by
  unfold f_X7_leadInBestRow
  have hlong : mxl b n ≤ ans := by
    rcases mxl_at b n with q | ⟨j, j1, j2⟩
    · omega
    · rw [j2]
      exact Fit_item j1 (full_bit j1) ((ha ans).mp (Nat.le_refl _))
  have hsum : ans ≤ sN b (2 ^ n - 1) n := (ha _).mpr (by
    have := Fit_le (k := 1) (Fit_one.mpr (Nat.le_refl (sN b (2 ^ n - 1) n))) (m - 1)
    rw [show 1 + (m - 1) = m by omega] at this
    exact this)
  have hs2 : sN b (2 ^ n - 1) n ≤ 2550 := Nat.le_trans (sN_le hb _ n) (by omega)
  refine loop1 n (fun i (s : Int32) => s = nI (mxl b i)) (fun F i s => f_X7_leadInBestRow_5 L bt F (nI n) (nI m) s (nI i) a) (fun o => ∃ r, o = some (nI ans, r)) ?_ ?_ n 0 0 FU (by omega) (by unfold FU; omega) rfl
  · intro F s hs
    show ∃ r, f_X7_leadInBestRow_5 L bt (F + 1) (nI n) (nI m) s (nI n) a = _
    rw [f_X7_leadInBestRow_5, if_pos (nI_le (Nat.le_refl _) (by omega)), SoF (w := fun i => nI (b i)) (by omega) hw, bs, tot_sN b n n (Nat.le_refl _), hs]
    refine loop1 32 (fun i (s : Nat × Nat × (Nat → Int32)) => mxl b n ≤ s.1 ∧ s.1 ≤ ans ∧ ans ≤ s.2.1 ∧ s.2.1 ≤ 2550 ∧ (s.2.1 - s.1) * 2 ^ i ≤ 2550) (fun F i s => f_X7_leadInBestRow_44 L bt F (nI n) (nI m) (nI s.1) (nI s.2.1) (nI i) s.2.2) (fun o => ∃ r, o = some (nI ans, r)) ?_ ?_ 32 0 (mxl b n, sN b (2 ^ n - 1) n, a) FU (by omega) (by unfold FU; omega) ⟨Nat.le_refl _, hlong, hsum, hs2, by show (sN b (2 ^ n - 1) n - mxl b n) * 1 ≤ 2550; omega⟩
    · rintro F ⟨lo, hi, a⟩ ⟨g1, g2, g3, g4, g5⟩
      show ∃ r, f_X7_leadInBestRow_44 L bt (F + 1) (nI n) (nI m) (nI lo) (nI hi) (nI 32) a = _
      simp only at g1 g2 g3 g4 g5
      rw [f_X7_leadInBestRow_44, if_pos (by decide), show ans = lo by omega]
      exact ⟨a, rfl⟩
    · rintro F i ⟨lo, hi, a⟩ hi32 ⟨g1, g2, g3, g4, g5⟩ ih
      show ∃ r, f_X7_leadInBestRow_44 L bt (F + 1) (nI n) (nI m) (nI lo) (nI hi) (nI i) a = _
      simp only at g1 g2 g3 g4 g5
      rw [f_X7_leadInBestRow_44, if_neg (show ¬ (32 : Int32) ≤ nI i from nI_ge (b := 32) hi32 (by decide))]
      by_cases c : hi ≤ lo
      · rw [if_pos (nI_le c (by omega)), show ans = lo by omega]
        exact ⟨a, rfl⟩
      · rw [if_neg (nI_ge (by omega) (by omega)), la, show nI (lo + hi) / 2 = nI ((lo + hi) / 2) from dv_eq (by omega) (by decide) (by decide)]
        generalize hmid : (lo + hi) / 2 = mid
        obtain ⟨r, e, f1, f2⟩ := ushF (lim := mid) hn1 hn (by omega) hb (fun j hj => by have := mxl_ge b hj; omega) hw a
        have eq := EV_fit (m := m) (by omega) hm1 f2
        rw [← ha mid] at eq
        rw [f1, bs, nI_1, nI_1]
        have pw : 2 ^ (i + 1) = 2 * 2 ^ i := by rw [Nat.pow_succ, Nat.mul_comm]
        have half : ∀ d : Nat, 2 * d ≤ hi - lo → d * 2 ^ (i + 1) ≤ 2550 := fun d hd => by
          rw [pw, ← Nat.mul_assoc, Nat.mul_comm d 2]
          exact Nat.le_trans (Nat.mul_le_mul_right _ hd) g5
        by_cases d : ans ≤ mid
        · have := eq.mpr d
          rw [if_neg (nI_nlt this (by omega))]
          exact ih (lo, mid, r) ⟨g1, g2, d, by show mid ≤ 2550; omega, half _ (by show 2 * (mid - lo) ≤ _; omega)⟩
        · have : ¬ (e / 4096 + (if e % 4096 = 0 then 0 else 1) ≤ m) := fun z => d (eq.mp z)
          have eb := EV_b (by omega) (by have := Nat.pow_le_pow_right (n := 2) (by decide) hn; omega) f2
          have eb2 : e / 4096 + (if e % 4096 = 0 then 0 else 1) < 2 ^ 31 := by split <;> omega
          rw [if_pos (nI_lt (by omega) eb2)]
          exact ih (mid + 1, hi, r) ⟨by show _ ≤ mid + 1; omega, by show mid + 1 ≤ ans; omega, g3, g4, half _ (by show 2 * (hi - (mid + 1)) ≤ _; omega)⟩
  · intro F i s hi hs ih
    show ∃ r, f_X7_leadInBestRow_5 L bt (F + 1) (nI n) (nI m) s (nI i) a = _
    have h1 : mxl b i ≤ 255 := by
      rcases mxl_at b i with q | ⟨j, j1, j2⟩
      · omega
      · rw [j2]; exact hb j
    have h2 := hb i
    rw [f_X7_leadInBestRow_5, if_neg (nI_ge (by omega) (by omega)), hw i hi, bs, nI_1, hs, mxI (by omega) (by omega)]
    exact ih _ rfl
