/-! together, seesNothing -/
theorem rm_eq {a d : Nat} (ha : a < 2 ^ 31) (h0 : 0 < d) (hd : d < 2 ^ 31) : jrem (nI a) (nI d) = nI (a % d) := pk_rem ha h0 hd
theorem dv_eq {a d : Nat} (ha : a < 2 ^ 31) (h0 : 0 < d) (hd : d < 2 ^ 31) : nI a / nI d = nI (a / d) := pk_div ha h0 hd
theorem ct_part (p : Nat → Bool) {a n m : Nat} (h : a + n ≤ m) : ct p a n ≤ ct p 0 m := by
  have e : m = a + (n + (m - a - n)) := by omega
  rw [e, ct_add, ct_add, Nat.zero_add]
  omega
theorem gather2 {gu now : Nat → Int32} (h : Al gu now) (f w : Int32) : T2 (f_X5_gather gu f w) ((f_X12_familyAll now f).bind (fun z23 => (if z23 = 0 then some ((-3)) else f_X12_together_46 now FU f w z23 (-2) 1000000 0))) (fun a b => a = b) := by
  unfold f_X5_gather
  rw [xOA gu f, mOA now f, bs, bs, Al_cf h f (by omega)]
  have hall : ct (tbM now f) 0 144 ≤ 144 := ct_le _ _ _
  have hpart : ∀ i : Nat, i < 16 → ct (tbM now f) (9 * i) 9 ≤ ct (tbM now f) 0 144 := fun i hi => ct_part _ (by omega)
  generalize ct (tbM now f) 0 144 = all at hall hpart
  by_cases c : nI all = 0
  · rw [if_pos c, if_pos c]
    exact T2.ret rfl
  · rw [if_neg c, if_neg c, nI_1]
    refine loop2 16 (fun i (s t : Int32 × Int32) => s.2 = t.1 ∧ ((s.2 = -2 ∧ s.1 = nI (all + 1) ∧ t.2 = 1000000) ∨ (¬ s.2 = -2 ∧ s.1 = t.2))) (fun F i s => f_X5_gather_28 gu F f w (nI all) s.1 s.2 (nI i)) (fun F i t => f_X12_together_46 now F f w (nI all) t.1 t.2 (nI i)) (fun a b => a = b) ?_ ?_ 16 0 (nI (all + 1), -2) (-2, 1000000) FU FU (by omega) (by unfold FU; omega) (by unfold FU; omega) ⟨rfl, Or.inl ⟨rfl, rfl, rfl⟩⟩
    · intro F F' s t hI
      obtain ⟨h1, h2⟩ := hI
      show T2 (f_X5_gather_28 gu (F + 1) f w (nI all) s.1 s.2 (nI 16)) (f_X12_together_46 now (F' + 1) f w (nI all) t.1 t.2 (nI 16)) _
      rw [f_X5_gather_28, f_X12_together_46, if_pos (show (16 : Int32) ≤ nI 16 from nI_le (Nat.le_refl _) (by decide)), if_pos (show (16 : Int32) ≤ nI 16 from nI_le (Nat.le_refl _) (by decide)), ← h1]
      rcases h2 with ⟨a, b, d⟩ | ⟨a, b⟩
      · rw [if_pos a]
        by_cases e : w = 1
        · rw [if_pos e]; exact T2.ret rfl
        · rw [if_neg e, if_pos a]; exact T2.ret rfl
      · rw [if_neg a]
        by_cases e : w = 1
        · rw [if_pos e, if_pos e]; exact T2.ret rfl
        · rw [if_neg e, if_neg e, if_neg a, b]; exact T2.ret rfl
    · intro F F' i s t hi hI ih
      obtain ⟨h1, h2⟩ := hI
      show T2 (f_X5_gather_28 gu (F + 1) f w (nI all) s.1 s.2 (nI i)) (f_X12_together_46 now (F' + 1) f w (nI all) t.1 t.2 (nI i)) _
      have hp := hpart i hi
      have h9 : ct (tk now) (9 * i) 9 ≤ 9 := ct_le _ _ _
      rw [f_X5_gather_28, f_X12_together_46, if_neg (show ¬ (16 : Int32) ≤ nI i from nI_ge (b := 16) (by omega) (by decide)), if_neg (show ¬ (16 : Int32) ≤ nI i from nI_ge (b := 16) (by omega) (by decide)), xOI gu f hi, mOI now f hi, bs, bs, xSI gu hi, mSI now hi, bs, bs, Al_ct h (by omega), Al_cf h f (by omega), show (9 : Int32) - nI (ct (tk now) (9 * i) 9) = nI (9 - ct (tk now) (9 * i) 9) from pk_sub h9, pk_sub hp, nI_1]
      by_cases d : nI (9 - ct (tk now) (9 * i) 9) < nI (all - ct (tbM now f) (9 * i) 9)
      · rw [if_pos d, if_pos d]
        exact ih s t ⟨h1, h2⟩
      · rw [if_neg d, if_neg d]
        have hi2 : ¬ nI i = -2 := by
          intro e
          have e2 := congrArg Int32.toInt e
          rw [nI_toInt (by omega)] at e2
          have : (-2 : Int32).toInt = -2 := by decide
          omega
        rcases h2 with ⟨a, b, e⟩ | ⟨a, b⟩
        · rw [b, e, if_neg (nI_ge (show all - ct (tbM now f) (9 * i) 9 < all + 1 by omega) (by omega)), if_pos (show nI (all - ct (tbM now f) (9 * i) 9) < (1000000 : Int32) from nI_lt (b := 1000000) (by omega) (by decide))]
          exact ih (_, nI i) (nI i, _) ⟨rfl, Or.inr ⟨hi2, rfl⟩⟩
        · rw [b]
          by_cases q : t.2 ≤ nI (all - ct (tbM now f) (9 * i) 9)
          · rw [if_pos q, if_neg (Int32.not_lt.mpr q)]
            exact ih (t.2, s.2) t ⟨h1, Or.inr ⟨a, rfl⟩⟩
          · rw [if_neg q, if_pos (Int32.not_le.mp q)]
            exact ih (_, nI i) (nI i, _) ⟨rfl, Or.inr ⟨hi2, rfl⟩⟩
theorem pm_together {XA : Nat → Nat → Int32} {XI : Nat → Int32} {MA : Nat → Nat → Int32} {MI : Nat → Int32} (h : Inv XA XI MA MI) (x1 : Int32) (x2 : Int32) : ∃ (rX : Int32) (rM : Int32), f_X11_together (XA 1) x1 x2 = some rX ∧ f_X12_together (MA 0) x1 x2 = some rM ∧ rX = rM ∧ Inv XA XI MA MI := by
  have h0 := h
  obtain ⟨hT, hC, hk, hkk, hL⟩ := h
  unfold f_X11_together f_X12_together
  rw [same_in, same_in]
  rcases wi01 x1 0 15 with e | e
  · rw [e]
    exact ⟨_, _, rfl, rfl, rfl, h0⟩
  · rw [e, bs, bs, if_neg i10, if_neg i10]
    rcases wi01 x2 0 1 with d | d
    · rw [d]
      exact ⟨_, _, rfl, rfl, rfl, h0⟩
    · rw [d, bs, bs, if_neg i10, if_neg i10]
      obtain ⟨a, b, ea, eb, rfl⟩ := gather2 hC.1 x1 x2
      rw [ea, eb]
      exact ⟨_, _, rfl, rfl, rfl, h0⟩
/-! the first place of a kind -/
def isF (p : Nat → Bool) (lo hi : Nat) (v : Int32) : Prop := ((∀ k : Nat, lo ≤ k → k < hi → p k = false) ∧ v = -2) ∨ ∃ k : Nat, lo ≤ k ∧ k < hi ∧ p k = true ∧ (∀ j : Nat, lo ≤ j → j < k → p j = false) ∧ v = nI k
theorem isF_one {p : Nat → Bool} {lo hi : Nat} {v w : Int32} (h : isF p lo hi v) (h' : isF p lo hi w) : v = w := by
  rcases h with ⟨a, b⟩ | ⟨k, a, b, c, d, e⟩
  · rcases h' with ⟨a', b'⟩ | ⟨k, a', b', c', d', e'⟩
    · rw [b, b']
    · rw [a k a' b'] at c'; cases c'
  · rcases h' with ⟨a', b'⟩ | ⟨k', a', b', c', d', e'⟩
    · rw [a' k a b] at c; cases c
    · rcases Nat.lt_trichotomy k k' with q | q | q
      · rw [d' k a q] at c; cases c
      · rw [e, e', q]
      · rw [d k' a' q] at c'; cases c'
theorem nI_nm2 {a : Nat} (ha : a < 2 ^ 31) : ¬ nI a = -2 := by
  intro h
  have h1 := congrArg Int32.toInt h
  rw [nI_toInt ha] at h1
  have h2 : (-2 : Int32).toInt = -2 := by decide
  omega
/-- one more place, from the left -/
theorem isF_up {p : Nat → Bool} {n : Nat} {v : Int32} (hn : n < 2 ^ 31) (h : isF p 0 n v) : isF p 0 (n + 1) (if p n then (if v = -2 then nI n else v) else v) := by
  by_cases c : p n = true
  · rw [if_pos c]
    rcases h with ⟨a, b⟩ | ⟨k, a, b, d, e, f⟩
    · rw [if_pos b]
      exact Or.inr ⟨n, Nat.zero_le n, by omega, c, a, rfl⟩
    · rw [if_neg (by rw [f]; exact nI_nm2 (by omega))]
      exact Or.inr ⟨k, a, by omega, d, e, f⟩
  · rw [if_neg c]
    have c' : p n = false := by cases h : p n <;> simp_all
    rcases h with ⟨a, b⟩ | ⟨k, a, b, d, e, f⟩
    · refine Or.inl ⟨fun k h1 h2 => ?_, b⟩
      rcases Nat.lt_or_ge k n with q | q
      · exact a k h1 q
      · rw [show k = n by omega]; exact c'
    · exact Or.inr ⟨k, a, by omega, d, e, f⟩
/-- one more place, from the right -/
theorem isF_dn {p : Nat → Bool} {n N : Nat} {v : Int32} (hn : n < N) (h : isF p (n + 1) N v) : isF p n N (if p n then nI n else v) := by
  by_cases c : p n = true
  · rw [if_pos c]
    exact Or.inr ⟨n, Nat.le_refl n, hn, c, fun j h1 h2 => by omega, rfl⟩
  · rw [if_neg c]
    have c' : p n = false := by cases h : p n <;> simp_all
    rcases h with ⟨a, b⟩ | ⟨k, a, b, d, e, f⟩
    · refine Or.inl ⟨fun k h1 h2 => ?_, b⟩
      rcases Nat.lt_or_ge n k with q | q
      · exact a k q h2
      · rw [show k = n by omega]; exact c'
    · refine Or.inr ⟨k, by omega, b, d, fun j h1 h2 => ?_, f⟩
      rcases Nat.lt_or_ge n j with q | q
      · exact e j q h2
      · rw [show j = n by omega]; exact c'
theorem loopd {σ ρ : Type} (I : Nat → σ → Prop) (L : Nat → Nat → σ → Option ρ) (P : Option ρ → Prop) (hx : ∀ (F : Nat) (s : σ), I 0 s → P (L (F + 1) 0 s)) (hs : ∀ (F k : Nat) (s : σ), I (k + 1) s → (∀ s' : σ, I k s' → P (L F k s')) → P (L (F + 1) (k + 1) s)) : ∀ (k : Nat) (s : σ) (F : Nat), k < F → I k s → P (L F k s) := by
  intro k
  induction k with
  | zero =>
    intro s F h1 hI
    obtain ⟨F, rfl⟩ : ∃ G, F = G + 1 := ⟨F - 1, by omega⟩
    exact hx F s hI
  | succ k ih =>
    intro s F h1 hI
    obtain ⟨F, rfl⟩ : ∃ G, F = G + 1 := ⟨F - 1, by omega⟩
    exact hs F k s hI (fun s' h => ih s' F (by omega) h)
def ixd : Nat → Int32
  | 0 => -1
  | k + 1 => nI k
theorem ixd_m (k : Nat) : ixd (k + 1) + (-1) = ixd k := by
  cases k with
  | zero => decide
  | succ k => exact pk_m1 k
theorem ct_front (p : Nat → Bool) (a n : Nat) : ct p a (n + 1) = (if p a then 1 else 0) + ct p (a + 1) n := by
  rw [show n + 1 = 1 + n by omega, ct_add]
  show 0 + (if p (a + 0) then 1 else 0) + _ = _
  rw [Nat.zero_add, Nat.add_zero]
theorem nsub9 {k : Nat} (h : 9 ≤ k) : nI k - 9 = nI (k - 9) := pk_sub h
theorem blind1 {gu now : Nat → Int32} (h : Al gu now) {k : Nat} (hk : k < 144) : ∃ b : Bool, f_X5_isBlind gu (nI k) = some (if b then 1 else 0) ∧ f_X12_seesNot now (nI k) = some (if b then 1 else 0) := by
  unfold f_X5_isBlind f_X12_seesNot
  rw [show jrem (nI k) 72 = nI (k % 72) from rm_eq (by omega) (by decide) (by decide), mT now hk, bs]
  have q := h k hk
  by_cases c : nI (k % 72) < 9
  · rw [if_pos c, if_pos c]
    refine ⟨false, rfl, ?_⟩
    by_cases d : now k = -1
    · rw [if_pos d, if_pos rfl]; rfl
    · rw [if_neg d, if_neg i10]; rfl
  · rw [if_neg c, if_neg c, xT gu hk, bs]
    have c9 : 9 ≤ k := by
      rcases Nat.lt_or_ge k 9 with z | z
      · exact absurd (show nI (k % 72) < nI 9 from nI_lt (by omega) (by decide)) c
      · exact z
    by_cases d : gu k = -1
    · rw [if_pos d, if_pos (q.iff.mp d), if_pos rfl, if_pos rfl]
      exact ⟨false, rfl, rfl⟩
    · have d' : ¬ now k = -1 := fun e => d (q.iff.mpr e)
      rw [if_neg d, if_neg d', if_neg i10, if_neg i10, nsub9 c9, xT gu (by omega), mT now (by omega), bs, bs, Int32.zero_add, nsub9 c9, ixn (by omega) (by decide), nI_clamp (by omega), xG gu (by omega), bs]
      have q9 := h (k - 9) (by omega)
      by_cases d2 : gu (k - 9) = -1
      · rw [if_pos d2, if_pos (q9.iff.mp d2), if_pos rfl, if_pos rfl]
        exact ⟨false, rfl, rfl⟩
      · have d2' : ¬ now (k - 9) = -1 := fun e => d2 (q9.iff.mpr e)
        obtain ⟨_, _, h1, _, _, _, _, _, _, _, ⟨_, _, a1, _⟩, ⟨_, _, b1, _⟩, _⟩ := (q.gr d).dec
        obtain ⟨_, _, h2, _, _, _, _, _, _, _, ⟨_, _, a2, _⟩, ⟨_, _, b2, _⟩, _⟩ := (q9.gr d2).dec
        rw [if_neg d2, if_neg d2', if_neg i10, if_neg i10, a2, b2, bs, bs, xG gu hk, bs, a1, ixn (by omega) (by decide), nI_clamp (by omega), b1, bs]
        by_cases e : nI h2 ≤ nI h1
        · rw [if_pos e]
          exact ⟨false, rfl, rfl⟩
        · rw [if_neg e]
          exact ⟨true, rfl, rfl⟩
/-- forwards here, backwards there: how many, and the first -/
theorem many_first {w : Int32} {p : Nat → Bool} {fX fM : Int32 → Option Int32} {LX LM : Nat → Int32 → Int32 → Int32 → Option Int32} (hX : ∀ k : Nat, k < 144 → fX (nI k) = some (if p k then 1 else 0)) (hM : ∀ k : Nat, k < 144 → fM (nI k) = some (if p k then 1 else 0))
    (eX : ∀ (F : Nat) (a b i : Int32), LX (F + 1) a b i = if 144 ≤ i then (if w = 0 then some a else some b) else (fX i).bind (fun z => if z = 0 then LX F a b (i + 1) else (if b = -2 then LX F (a + 1) i (i + 1) else LX F (a + 1) b (i + 1))))
    (eM : ∀ (F : Nat) (a b i : Int32), LM (F + 1) a b i = if i < 0 then (if w = 0 then some a else some b) else (fM i).bind (fun z => if z = 0 then LM F a b (i + (-1)) else LM F (a + 1) i (i + (-1)))) : T2 (LX FU 0 (-2) 0) (LM FU 0 (-2) 143) (fun a b => a = b) := by
  have kx : ∃ v, isF p 0 144 v ∧ LX FU 0 (-2) 0 = if w = 0 then some (nI (ct p 0 144)) else some v := by
    refine loop1 144 (fun i (s : Int32 × Int32) => s.1 = nI (ct p 0 i) ∧ isF p 0 i s.2) (fun F i s => LX F s.1 s.2 (nI i)) (fun o => ∃ v, isF p 0 144 v ∧ o = if w = 0 then some (nI (ct p 0 144)) else some v) ?_ ?_ 144 0 (0, -2) FU (by omega) (by unfold FU; omega) ⟨rfl, Or.inl ⟨fun k h1 h2 => by omega, rfl⟩⟩
    · intro F s hI
      refine ⟨s.2, hI.2, ?_⟩
      show LX (F + 1) s.1 s.2 (nI 144) = _
      rw [eX, if_pos (show (144 : Int32) ≤ nI 144 from nI_le (Nat.le_refl _) (by decide)), hI.1]
    · intro F i s hi hI ih
      show ∃ v, isF p 0 144 v ∧ LX (F + 1) s.1 s.2 (nI i) = _
      rw [eX, if_neg (show ¬ (144 : Int32) ≤ nI i from nI_ge (b := 144) hi (by decide)), hX i hi, bs, nI_1]
      have up := isF_up (by omega) hI.2
      by_cases c : p i = true
      · rw [if_pos c, if_neg i10]
        rw [if_pos c] at up
        have e1 : s.1 + 1 = nI (ct p 0 (i + 1)) := by
          rw [hI.1, nI_1]
          show _ = nI (ct p 0 i + (if p (0 + i) then 1 else 0))
          rw [Nat.zero_add, if_pos c]
        by_cases d : s.2 = -2
        · rw [if_pos d]
          rw [if_pos d] at up
          exact ih (_, _) ⟨e1, up⟩
        · rw [if_neg d]
          rw [if_neg d] at up
          exact ih (_, _) ⟨e1, up⟩
      · rw [if_neg c, if_pos rfl]
        rw [if_neg c] at up
        refine ih s ⟨?_, up⟩
        rw [hI.1]
        show _ = nI (ct p 0 i + (if p (0 + i) then 1 else 0))
        rw [Nat.zero_add, if_neg c]
        rfl
  have km : ∃ v, isF p 0 144 v ∧ LM FU 0 (-2) 143 = if w = 0 then some (nI (ct p 0 144)) else some v := by
    refine loopd (fun k (s : Int32 × Int32) => k ≤ 144 ∧ s.1 = nI (ct p k (144 - k)) ∧ isF p k 144 s.2) (fun F k s => LM F s.1 s.2 (ixd k)) (fun o => ∃ v, isF p 0 144 v ∧ o = if w = 0 then some (nI (ct p 0 144)) else some v) ?_ ?_ 144 (0, -2) FU (by unfold FU; omega) ⟨Nat.le_refl _, rfl, Or.inl ⟨fun k h1 h2 => by omega, rfl⟩⟩
    · intro F s hI
      refine ⟨s.2, hI.2.2, ?_⟩
      show LM (F + 1) s.1 s.2 (-1) = _
      rw [eM, if_pos (by decide), hI.2.1]
    · intro F k s hI ih
      show ∃ v, isF p 0 144 v ∧ LM (F + 1) s.1 s.2 (nI k) = _
      have hk := hI.1
      have dn := isF_dn (show k < 144 by omega) hI.2.2
      have ef := ct_front p k (143 - k)
      rw [show 143 - k + 1 = 144 - k by omega] at ef
      rw [eM, if_neg (nI_pos (by omega)), hM k (by omega), bs, show nI k + (-1) = ixd k from ixd_m k]
      by_cases c : p k = true
      · rw [if_pos c, if_neg i10]
        rw [if_pos c] at dn ef
        refine ih (_, _) ⟨by omega, ?_, dn⟩
        rw [hI.2.1, nI_1, ef, show 144 - (k + 1) = 143 - k by omega, Nat.add_comm]
      · rw [if_neg c, if_pos rfl]
        rw [if_neg c] at dn ef
        refine ih s ⟨by omega, ?_, dn⟩
        rw [hI.2.1, ef, show 144 - (k + 1) = 143 - k by omega, Nat.zero_add]
  obtain ⟨v, v1, v2⟩ := kx
  obtain ⟨u, u1, u2⟩ := km
  rw [v2, u2, isF_one v1 u1]
  by_cases c : w = 0
  · rw [if_pos c]; exact T2.ret rfl
  · rw [if_neg c]; exact T2.ret rfl
theorem pm_seesNothing {XA : Nat → Nat → Int32} {XI : Nat → Int32} {MA : Nat → Nat → Int32} {MI : Nat → Int32} (h : Inv XA XI MA MI) (x1 : Int32) : ∃ (rX : Int32) (rM : Int32), f_X11_seesNothing (XA 1) x1 = some rX ∧ f_X12_seesNothing (MA 0) x1 = some rM ∧ rX = rM ∧ Inv XA XI MA MI := by
  have h0 := h
  obtain ⟨hT, hC, hk, hkk, hL⟩ := h
  unfold f_X11_seesNothing f_X12_seesNothing
  rw [same_in]
  rcases wi01 x1 0 1 with e | e
  · rw [e]
    exact ⟨_, _, rfl, rfl, rfl, h0⟩
  · rw [e, bs, bs, if_neg i10, if_neg i10]
    have key := many_first (w := x1) (p := fun k => decide (f_X5_isBlind (XA 1) (nI k) = some 1)) (fX := f_X5_isBlind (XA 1)) (fM := f_X12_seesNot (MA 0)) (LX := fun F a b i => f_X5_blind_9 (XA 1) F x1 a b i) (LM := fun F a b i => f_X12_seesNothing_21 (MA 0) F x1 a b i) ?_ ?_ (fun F a b i => by rw [f_X5_blind_9]) (fun F a b i => by rw [f_X12_seesNothing_21])
    · obtain ⟨a, b, ea, eb, rfl⟩ := key
      have ea : f_X5_blind (XA 1) x1 = some a := ea
      rw [ea, eb]
      exact ⟨_, _, rfl, rfl, rfl, h0⟩
    · intro k hk
      obtain ⟨b, e1, e2⟩ := blind1 hC.1 hk
      rw [e1]
      cases b <;> rfl
    · intro k hk
      obtain ⟨b, e1, e2⟩ := blind1 hC.1 hk
      rw [e1, e2]
      cases b <;> rfl
