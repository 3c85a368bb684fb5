/-! FAMILIES of a pew, torn ones, check, count -/
theorem wi_lt {x : Int32} {n : Nat} : True := trivial
theorem xFI (g : Nat → Int32) {p : Nat} (h : p < 16) : f_X5_familiesIn g (nI p) = some (fo (fun i s => if g (9 * p + i) = -1 then s else s ||| (1 <<< (faX (g (9 * p + i)) &&& 31))) 9 0) := by
  unfold f_X5_familiesIn
  refine fl 9 (fun i s => if g (9 * p + i) = -1 then s else s ||| (1 <<< (faX (g (9 * p + i)) &&& 31))) (fun F i s => f_X5_familiesIn_5 g F (nI p) s (nI i)) some ?_ ?_ 0 (F := FU) (by unfold FU; omega)
  · intro F s
    show f_X5_familiesIn_5 g (F + 1) (nI p) s (nI 9) = some s
    rw [f_X5_familiesIn_5, if_pos (show (9 : Int32) ≤ nI 9 from nI_le (Nat.le_refl _) (by decide))]
  · intro F i s hi
    show f_X5_familiesIn_5 g (F + 1) (nI p) s (nI i) = f_X5_familiesIn_5 g F (nI p) _ (nI (i + 1))
    rw [f_X5_familiesIn_5, if_neg (show ¬ (9 : Int32) ≤ nI i from nI_ge (b := 9) (by omega) (by decide)), m9, xG g (by omega), bs, nI_1]
    by_cases c : g (9 * p + i) = -1
    · rw [if_pos c, if_pos c]
    · rw [if_neg c, if_neg c]; rfl
theorem mFI (g : Nat → Int32) {p : Nat} (h : p < 16) : f_X12_familiesIn g (nI p) = some (fo (fun i s => if g (9 * p + i) = -1 then s else s ||| (1 <<< (faM (g (9 * p + i)) &&& 31))) 9 0) := by
  unfold f_X12_familiesIn
  rw [m9'']
  refine fl 9 (fun i s => if g (9 * p + i) = -1 then s else s ||| (1 <<< (faM (g (9 * p + i)) &&& 31))) (fun F i s => f_X12_familiesIn_7 g F (nI p) s (nI (9 * p + i))) some ?_ ?_ 0 (F := FU) (by unfold FU; omega)
  · intro F s
    show f_X12_familiesIn_7 g (F + 1) (nI p) s (nI (9 * p + 9)) = some s
    rw [f_X12_familiesIn_7, m9'', show nI (9 * p) + 9 = nI (9 * p + 9) from la _ 9, if_pos (nI_le (Nat.le_refl _) (by omega))]
  · intro F i s hi
    show f_X12_familiesIn_7 g (F + 1) (nI p) s (nI (9 * p + i)) = f_X12_familiesIn_7 g F (nI p) _ (nI (9 * p + (i + 1)))
    rw [f_X12_familiesIn_7, m9'', show nI (9 * p) + 9 = nI (9 * p + 9) from la _ 9, if_neg (nI_ge (by omega) (by omega)), mT g (by omega), bs, nI_1, Int32.zero_add, ixn (by omega) (by decide), nI_clamp (by omega)]
    by_cases c : g (9 * p + i) = -1
    · rw [if_pos c, if_pos rfl, if_pos c]; rfl
    · rw [if_neg c, if_neg i10, if_neg c]; rfl
theorem FI2 {gu now : Nat → Int32} (h : Al gu now) {p : Nat} (hp : p < 16) : f_X5_familiesIn gu (nI p) = f_X12_familiesIn now (nI p) := by
  rw [xFI gu hp, mFI now hp]
  congr 1
  refine fo_cong (fun i hi s => ?_)
  have q := h (9 * p + i) (by omega)
  by_cases c : gu (9 * p + i) = -1
  · rw [if_pos c, if_pos (q.iff.mp c)]
  · rw [if_neg c, if_neg (fun e => c (q.iff.mpr e)), q.fa c]
theorem torn2 {gu now : Nat → Int32} (h : Al gu now) : T2 (f_X5_tornFamilies gu) (f_X12_torn now) (fun a b => a = b) := by
  unfold f_X5_tornFamilies f_X12_torn
  refine loop2 16 (fun i (s t : Int32 × Int32) => s = t) (fun F i s => f_X5_tornFamilies_7 gu F s.1 s.2 (nI i)) (fun F i s => f_X12_torn_6 now F s.1 s.2 (nI i)) (fun a b => a = b) ?_ ?_ 16 0 (0, 0) (0, 0) FU FU (by omega) (by unfold FU; omega) (by unfold FU; omega) rfl
  · intro F F' s t hI
    subst hI
    show T2 (f_X5_tornFamilies_7 gu (F + 1) s.1 s.2 (nI 16)) (f_X12_torn_6 now (F' + 1) s.1 s.2 (nI 16)) _
    rw [f_X5_tornFamilies_7, f_X12_torn_6, if_pos (show (16 : Int32) ≤ nI 16 from nI_le (Nat.le_refl _) (by decide)), if_pos (show (16 : Int32) ≤ nI 16 from nI_le (Nat.le_refl _) (by decide))]
    exact T2.ret rfl
  · intro F F' i s t hi hI ih
    subst hI
    show T2 (f_X5_tornFamilies_7 gu (F + 1) s.1 s.2 (nI i)) (f_X12_torn_6 now (F' + 1) s.1 s.2 (nI i)) _
    rw [f_X5_tornFamilies_7, f_X12_torn_6, if_neg (show ¬ (16 : Int32) ≤ nI i from nI_ge (b := 16) (by omega) (by decide)), if_neg (show ¬ (16 : Int32) ≤ nI i from nI_ge (b := 16) (by omega) (by decide)), FI2 h hi, mFI now hi, bs, bs, bs, nI_1]
    exact ih (_, _) (_, _) rfl
theorem pm_torn {XA : Nat → Nat → Int32} {XI : Nat → Int32} {MA : Nat → Nat → Int32} {MI : Nat → Int32} (h : Inv XA XI MA MI) : ∃ (rX : Int32) (rM : Int32), f_X11_torn (XA 1) = some rX ∧ f_X12_torn (MA 0) = some rM ∧ rX = rM ∧ Inv XA XI MA MI := by
  have h0 := h
  obtain ⟨hT, hC, hk, hkk, hL⟩ := h
  unfold f_X11_torn
  obtain ⟨a, b, ea, eb, rfl⟩ := torn2 hC.1
  rw [ea, eb]
  exact ⟨_, _, rfl, rfl, rfl, h0⟩
theorem holds_eq {n : Nat} (hn : n ≤ 260) (x : Int32) (lo hi : Nat) (hh : hi < 2 ^ 31) (hlo : lo ≤ hi) : (f_X8_holds (nI n) x (nI lo) (nI hi) = some 0 ∧ (f_X12_in x (nI lo) (nI hi) = some 0 ∨ (f_X12_in x (nI lo) (nI hi) = some 1 ∧ ¬ x ≤ nI n ∧ nI n < x))) ∨ (∃ j : Nat, lo ≤ j ∧ j ≤ hi ∧ j ≤ n ∧ x = nI j ∧ f_X8_holds (nI n) x (nI lo) (nI hi) = some 1 ∧ f_X12_in x (nI lo) (nI hi) = some 1 ∧ x ≤ nI n ∧ ¬ nI n < x) := by
  unfold f_X8_holds
  rw [same_in]
  unfold f_X11_isWithin
  by_cases h0 : x < nI lo
  · rw [if_pos h0]; exact Or.inl ⟨rfl, Or.inl rfl⟩
  · rw [if_neg h0]
    by_cases h1 : nI hi < x
    · rw [if_pos h1]; exact Or.inl ⟨rfl, Or.inl rfl⟩
    · rw [if_neg h1, bs, if_neg i10]
      have hx0 : ¬ x < 0 := by
        intro c
        apply h0
        have a := Int32.lt_iff_toInt_lt.mp c
        apply Int32.lt_iff_toInt_lt.mpr
        rw [nI_toInt (by omega)]
        have : (0 : Int32).toInt = 0 := by decide
        omega
      obtain ⟨j, hj, rfl⟩ := nI_of hx0
      have j1 : lo ≤ j := by
        rcases Nat.lt_or_ge j lo with q | q
        · exact absurd (nI_lt q (by omega)) h0
        · exact q
      have j2 : j ≤ hi := by
        rcases Nat.lt_or_ge hi j with q | q
        · exact absurd (nI_lt q hj) h1
        · exact q
      by_cases h2 : nI n < nI j
      · rw [if_pos h2]
        refine Or.inl ⟨rfl, Or.inr ⟨rfl, ?_, h2⟩⟩
        have := (nI_ltI (by omega) hj).mp h2
        exact nI_ge this hj
      · rw [if_neg h2]
        have j3 : j ≤ n := by
          rcases Nat.lt_or_ge n j with q | q
          · exact absurd (nI_lt q hj) h2
          · exact q
        exact Or.inr ⟨j, j1, j2, j3, rfl, rfl, rfl, nI_le j3 (by omega), h2⟩
/-- a byte of the tape -/
theorem byte_eq {n : Nat} {by' tape : Nat → Int32} (h : ∀ k : Nat, k < 260 → by' k = tape k &&& 255) {j : Nat} (hj : j < n) (hn : n ≤ 260) : f_X8_byteAt (nI n) by' (nI j) = some (by' j) ∧ f_X12_octet tape (nI j) = some (by' j) := by
  unfold f_X8_byteAt f_X12_octet
  rw [if_neg (nI_pos (by omega)), if_neg (nI_ge hj (by omega)), ixn (by omega) (by decide), ixn (by omega) (by decide), nI_clamp (by omega), h j (by omega)]
  exact ⟨rfl, rfl⟩
theorem wrong2 {gu now by' tape : Nat → Int32} (h : Al gu now) (hb : ∀ k : Nat, k < 260 → by' k = tape k &&& 255) {n s m : Nat} (hn : n ≤ 260) (hs : s < 2) (hm : m ≤ n) (hm8 : m ≤ 8) : T2 (f_X11_firstWrongRow (nI n) by' gu (nI s) (nI m)) (f_X12_check_37 now tape FU (nI s) (nI m) 0 0) (fun a b => b = (a, 0)) := by
  unfold f_X11_firstWrongRow
  refine loop2 m (fun i (_ _ : Unit) => True) (fun F i _ => f_X11_firstWrongRow_2 (nI n) by' gu F (nI s) (nI m) (nI i)) (fun F i _ => f_X12_check_37 now tape F (nI s) (nI m) (nI i) 0) (fun a b => b = (a, 0)) ?_ ?_ m 0 () () FU FU (by omega) (by unfold FU; omega) (by unfold FU; omega) trivial
  · intro F F' _ _ _
    show T2 (f_X11_firstWrongRow_2 (nI n) by' gu (F + 1) (nI s) (nI m) (nI m)) (f_X12_check_37 now tape (F' + 1) (nI s) (nI m) (nI m) 0) _
    rw [f_X11_firstWrongRow_2, f_X12_check_37, if_pos (nI_le (Nat.le_refl m) (by omega)), if_pos (nI_le (Nat.le_refl m) (by omega))]
    exact T2.ret rfl
  · intro F F' i _ _ hi _ ih
    show T2 (f_X11_firstWrongRow_2 (nI n) by' gu (F + 1) (nI s) (nI m) (nI i)) (f_X12_check_37 now tape (F' + 1) (nI s) (nI m) (nI i) 0) _
    obtain ⟨b1, b2⟩ := byte_eq hb (show i < n by omega) hn
    rw [f_X11_firstWrongRow_2, f_X12_check_37, if_neg (nI_ge hi (by omega)), if_neg (nI_ge hi (by omega)), pew_eq, bs, xSI gu (by omega), bs, b1, bs, b2, bs, m8', mSI now (by omega), bs, Al_ct h (by omega), nI_1]
    by_cases c : nI (ct (tk now) (9 * (8 * s + i)) 9) = by' i
    · rw [if_pos c, if_pos c.symm]
      exact ih () () trivial
    · rw [if_neg c, if_neg (fun e => c e.symm)]
      exact T2.ret rfl
theorem pm_check {XA : Nat → Nat → Int32} {XI : Nat → Int32} {MA : Nat → Nat → Int32} {MI : Nat → Int32} (h : Inv XA XI MA MI) (x1 : Int32) (x2 : Int32) : ∃ (rX : Int32 × Int32) (rM : Int32 × Int32), f_X11_check (XI 1) (XA 0) (XA 1) x1 x2 = some rX ∧ f_X12_check (MI 0) (MA 0) (MA 3) x1 x2 = some rM ∧ rX.1 = rM.1 ∧ Inv XA (va_up XI 1 rX.2) MA (va_up MI 0 rM.2) := by
  have h0 := h
  obtain ⟨⟨⟨n, hn, e1, e2⟩, hb⟩, hC, hk, hkk, hL⟩ := h
  unfold f_X11_check f_X12_check
  rw [isSide_eq, show (1 : Int32) = nI 1 from rfl, e1, e2]
  have hT : TpR (XI 1) (XA 0) (MI 0) (MA 3) := ⟨⟨n, hn, e1, e2⟩, hb⟩
  rcases wi x1 1 (by decide) with ⟨c1, c2, -⟩ | ⟨s, hs, rfl, c1, c2⟩
  · rw [c1, c2]
    exact ⟨_, _, rfl, rfl, rfl, ⟨⟨n, hn, rfl, rfl⟩, hb⟩, hC, hk, hkk, hL⟩
  · rw [c1, c2, bs, bs, if_neg (show ¬ (1 : Int32) = 0 by decide), if_neg (show ¬ (1 : Int32) = 0 by decide)]
    rcases holds_eq hn x2 0 8 (by decide) (by decide) with ⟨d1, d2⟩ | ⟨j, j1, j2, j3, rfl, d1, d2, d3, d4⟩
    · have d1 : f_X8_holds (nI n) x2 0 8 = some 0 := d1
      rw [d1, bs, if_pos rfl]
      rcases d2 with d2 | ⟨d2, d3, -⟩
      · have d2 : f_X12_in x2 0 8 = some 0 := d2
        rw [d2, bs, if_pos rfl]
        exact ⟨_, _, rfl, rfl, rfl, ⟨⟨n, hn, rfl, rfl⟩, hb⟩, hC, hk, hkk, hL⟩
      · have d2 : f_X12_in x2 0 8 = some 1 := d2
        rw [d2, bs, if_neg i10, if_neg d3]
        exact ⟨_, _, rfl, rfl, rfl, ⟨⟨n, hn, rfl, rfl⟩, hb⟩, hC, hk, hkk, hL⟩
    · have d1 : f_X8_holds (nI n) (nI j) 0 8 = some 1 := d1
      have d2 : f_X12_in (nI j) 0 8 = some 1 := d2
      rw [d1, d2, bs, bs, if_neg i10, if_neg i10, if_pos d3]
      obtain ⟨a, b, ea, eb, rfl⟩ := wrong2 hC.1 hb hn (show s < 2 by omega) j3 j2
      rw [ea, bs]
      exact ⟨_, _, rfl, eb, rfl, ⟨⟨0, by decide, rfl, rfl⟩, hb⟩, hC, hk, hkk, hL⟩
