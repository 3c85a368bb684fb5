/-! moreFit, the reference -/
def BA (n : Nat) (arr : Nat → Int32) (C : Nat → Bool) : Prop := ∀ S : Nat, S < 2 ^ n → arr S = if C S then 1 else 0
theorem vb (c : Bool) : vp_nar .boolean (if c then (1 : Int32) else 0) = if c then 1 else 0 := by cases c <;> rfl
theorem vb1 : vp_nar .boolean (1 : Int32) = 1 := rfl
theorem m171 {b : Nat → Nat} {n h : Nat} (hn : n ≤ 6) (hh : h < 2 ^ n) (now tape : Nat → Int32) (K95 : Int32 → Int32 → Int32 → Int32 → (Nat → Int32) → (Nat → Int32) → Option (Int32 × Int32 × (Nat → Int32) × (Nat → Int32))) (K145 : Int32 → Int32 → Int32 → Int32 → Int32 → Int32 → (Nat → Int32) → (Nat → Int32) → Option (Int32 × Int32 × (Nat → Int32) × (Nat → Int32))) (x2 x3 x4 : Int32) {sit : Nat → Int32} {C : Nat → Bool} (hs : BA n sit C) {nx : Nat → Int32} {D : Nat → Bool} (hx : BA n nx D) :
    ∃ nx' D', f_X12_moreFit_171 now tape K95 K145 FU (nI n) x2 x3 x4 (nI h) 0 0 sit nx = K145 (nI n) x2 x3 x4 (nI (h + 1)) 0 sit nx' ∧ BA n nx' D' ∧ ∀ R : Nat, D' R = true ↔ (D R = true ∨ ∃ s, s < 2 ^ n ∧ C s = true ∧ s &&& h = 0 ∧ R = s ||| h) := by
  have h64 : 2 ^ n ≤ 64 := Nat.le_trans (Nat.pow_le_pow_right (by decide) hn) (by decide)
  refine loop1 (2 ^ n) (fun i (nx : Nat → Int32) => ∃ D' : Nat → Bool, BA n nx D' ∧ ∀ R : Nat, D' R = true ↔ (D R = true ∨ ∃ s, s < i ∧ C s = true ∧ s &&& h = 0 ∧ R = s ||| h)) (fun F i nx => f_X12_moreFit_171 now tape K95 K145 F (nI n) x2 x3 x4 (nI h) (nI i) 0 sit nx) (fun o => ∃ nx' D', o = K145 (nI n) x2 x3 x4 (nI (h + 1)) 0 sit nx' ∧ BA n nx' D' ∧ ∀ R : Nat, D' R = true ↔ (D R = true ∨ ∃ s, s < 2 ^ n ∧ C s = true ∧ s &&& h = 0 ∧ R = s ||| h)) ?_ ?_ (2 ^ n) 0 nx FU (by omega) (by unfold FU; omega) ⟨D, hx, fun R => ⟨Or.inl, fun q => q.elim id (fun ⟨s, s1, _⟩ => by omega)⟩⟩
  · rintro F nx ⟨D', d1, d2⟩
    show ∃ nx' D', f_X12_moreFit_171 now tape K95 K145 (F + 1) (nI n) x2 x3 x4 (nI h) (nI (2 ^ n)) 0 sit nx = _ ∧ _
    rw [f_X12_moreFit_171, sl1 (by omega), if_pos (nI_le (Nat.le_refl _) (by omega)), nI_1]
    exact ⟨nx, D', rfl, d1, d2⟩
  · rintro F i nx hi ⟨D', d1, d2⟩ ih
    show ∃ nx' D', f_X12_moreFit_171 now tape K95 K145 (F + 1) (nI n) x2 x3 x4 (nI h) (nI i) 0 sit nx = _ ∧ _
    rw [f_X12_moreFit_171, sl1 (by omega), if_neg (nI_ge (by omega) (by omega)), ixn (by omega) (by decide), nI_clamp (by omega), hs i hi, nI_1]
    have skip : ¬ (C i = true ∧ i &&& h = 0) → ∃ D'' : Nat → Bool, BA n nx D'' ∧ ∀ R : Nat, D'' R = true ↔ (D R = true ∨ ∃ s, s < i + 1 ∧ C s = true ∧ s &&& h = 0 ∧ R = s ||| h) := fun hn' => ⟨D', d1, fun R => by
      rw [d2 R]
      constructor
      · rintro (q | ⟨s, s1, s2⟩)
        · exact Or.inl q
        · exact Or.inr ⟨s, by omega, s2⟩
      · rintro (q | ⟨s, s1, s2, s3, s4⟩)
        · exact Or.inl q
        · by_cases e : s = i
          · rw [e] at s2 s3; exact absurd ⟨s2, s3⟩ hn'
          · exact Or.inr ⟨s, by omega, s2, s3, s4⟩⟩
    cases c : C i with
    | false =>
      rw [show (if false = true then (1 : Int32) else 0) = 0 from rfl, if_pos rfl]
      exact ih nx (skip (fun q => by rw [c] at q; exact absurd q.1 (by decide)))
    | true =>
      rw [show (if true = true then (1 : Int32) else 0) = 1 from rfl, if_neg i10, nAnd]
      by_cases d : i &&& h = 0
      · have hor : i ||| h < 2 ^ n := Nat.or_lt_two_pow hi hh
        rw [d, if_pos (show nI 0 = 0 from rfl), nOr, ixn (by omega) (by decide), nI_clamp (by omega), vb1]
        refine ih _ ⟨fun R => D' R || decide (R = i ||| h), fun S hS => ?_, fun R => ?_⟩
        · by_cases e : S = i ||| h
          · rw [e, upd_s]; simp
          · rw [upd_n e, d1 S hS]; simp [e]
        · rw [Bool.or_eq_true, decide_eq_true_eq, d2 R]
          constructor
          · rintro ((q | ⟨s, s1, s2⟩) | q)
            · exact Or.inl q
            · exact Or.inr ⟨s, by omega, s2⟩
            · exact Or.inr ⟨i, by omega, c, d, q⟩
          · rintro (q | ⟨s, s1, s2, s3, s4⟩)
            · exact Or.inl (Or.inl q)
            · by_cases e : s = i
              · rw [e] at s4; exact Or.inr s4
              · exact Or.inl (Or.inr ⟨s, by omega, s2, s3, s4⟩)
      · have ql : i &&& h ≤ i := Nat.and_le_left
        rw [if_neg (nI_ne0 (Nat.pos_of_ne_zero d) (by omega))]
        exact ih nx (skip (fun q => d q.2))
theorem mPew {b : Nat → Nat} {n left : Nat} (hn : n ≤ 6) (hl : left ≤ 9) (hb : ∀ i, b i ≤ 255) (now tape : Nat → Int32) (hw : ∀ i : Nat, i < n → f_X12_octet tape (nI i) = some (nI (b i))) (K : Int32 → Int32 → Int32 → Int32 → (Nat → Int32) → (Nat → Int32) → Option (Int32 × Int32 × (Nat → Int32) × (Nat → Int32))) (x2 x3 : Int32) {sit nx : Nat → Int32} {C : Nat → Bool} (hs : BA n sit C) :
    ∃ sit' nx' C', f_X12_moreFit_114 now tape K FU (nI n) x2 x3 (nI left) 0 0 sit nx = K (nI n) x2 (x3 + 1) 0 sit' nx' ∧ BA n sit' C' ∧ ∀ R : Nat, C' R = true ↔ Pw b n left C R := by
  have h64 : 2 ^ n ≤ 64 := Nat.le_trans (Nat.pow_le_pow_right (by decide) hn) (by decide)
  have hp := Nat.two_pow_pos n
  refine loop1 (2 ^ n) (fun i (nx : Nat → Int32) => ∀ S : Nat, S < i → nx S = if C S then 1 else 0) (fun F i nx => f_X12_moreFit_114 now tape K F (nI n) x2 x3 (nI left) (nI i) 0 sit nx) (fun o => ∃ sit' nx' C', o = K (nI n) x2 (x3 + 1) 0 sit' nx' ∧ BA n sit' C' ∧ ∀ R : Nat, C' R = true ↔ Pw b n left C R) ?_ ?_ (2 ^ n) 0 nx FU (by omega) (by unfold FU; omega) (fun S hS => by omega)
  · intro F nx hnx
    show ∃ sit' nx' C', f_X12_moreFit_114 now tape K (F + 1) (nI n) x2 x3 (nI left) (nI (2 ^ n)) 0 sit nx = _ ∧ _
    rw [f_X12_moreFit_114, sl1 (by omega), if_pos (nI_le (Nat.le_refl _) (by omega))]
    refine loop1 (2 ^ n - 1) (fun i (nx : Nat → Int32) => ∃ D : Nat → Bool, BA n nx D ∧ ∀ R : Nat, D R = true ↔ (C R = true ∨ ∃ s h, s < 2 ^ n ∧ h < i + 1 ∧ 0 < h ∧ C s = true ∧ s &&& h = 0 ∧ sN b h n ≤ left ∧ R = s ||| h)) (fun F i nx => f_X12_moreFit_145 now tape K F (nI n) x2 x3 (nI left) (nI (i + 1)) 0 sit nx) (fun o => ∃ sit' nx' C', o = K (nI n) x2 (x3 + 1) 0 sit' nx' ∧ BA n sit' C' ∧ ∀ R : Nat, C' R = true ↔ Pw b n left C R) ?_ ?_ (2 ^ n - 1) 0 nx FU (by omega) (by unfold FU; omega) ⟨C, hnx, fun R => ⟨Or.inl, fun q => q.elim id (fun ⟨s, h, s1, s2, s3, _⟩ => by omega)⟩⟩
    · rintro F nx ⟨D, d1, d2⟩
      show ∃ sit' nx' C', f_X12_moreFit_145 now tape K (F + 1) (nI n) x2 x3 (nI left) (nI (2 ^ n - 1 + 1)) 0 sit nx = _ ∧ _
      rw [show 2 ^ n - 1 + 1 = 2 ^ n by omega] at d2 ⊢
      rw [f_X12_moreFit_145, sl1 (by omega), if_pos (nI_le (Nat.le_refl _) (by omega))]
      refine loop1 (2 ^ n) (fun i (st : Nat → Int32) => ∀ S : Nat, S < i → st S = if D S then 1 else 0) (fun F i st => f_X12_moreFit_223 now tape K F (nI n) x2 x3 (nI i) 0 st nx) (fun o => ∃ sit' nx' C', o = K (nI n) x2 (x3 + 1) 0 sit' nx' ∧ BA n sit' C' ∧ ∀ R : Nat, C' R = true ↔ Pw b n left C R) ?_ ?_ (2 ^ n) 0 sit FU (by omega) (by unfold FU; omega) (fun S hS => by omega)
      · intro F st hst
        show ∃ sit' nx' C', f_X12_moreFit_223 now tape K (F + 1) (nI n) x2 x3 (nI (2 ^ n)) 0 st nx = _ ∧ _
        rw [f_X12_moreFit_223, sl1 (by omega), if_pos (nI_le (Nat.le_refl _) (by omega))]
        exact ⟨st, nx, D, rfl, hst, d2⟩
      · intro F i st hi hst ih
        show ∃ sit' nx' C', f_X12_moreFit_223 now tape K (F + 1) (nI n) x2 x3 (nI i) 0 st nx = _ ∧ _
        rw [f_X12_moreFit_223, sl1 (by omega), if_neg (nI_ge (by omega) (by omega)), ixn (by omega) (by decide), ixn (by omega) (by decide), nI_clamp (by omega), d1 i hi, vb, nI_1]
        refine ih _ (fun S hS => ?_)
        by_cases e : S = i
        · rw [e, upd_s]
        · rw [upd_n e]; exact hst S (by omega)
    · rintro F i nx hi ⟨D, d1, d2⟩ ih
      show ∃ sit' nx' C', f_X12_moreFit_145 now tape K (F + 1) (nI n) x2 x3 (nI left) (nI (i + 1)) 0 sit nx = _ ∧ _
      have hsN : sN b (i + 1) n ≤ 1530 := Nat.le_trans (sN_le hb (i + 1) n) (by omega)
      rw [f_X12_moreFit_145, sl1 (by omega), if_neg (nI_ge (by omega) (by omega)), sumM (by omega) (by omega) hw, bs]
      by_cases c : sN b (i + 1) n ≤ left
      · rw [if_pos (nI_le c (by omega))]
        obtain ⟨nx', D', e1, e2, e3⟩ := m171 (b := b) hn (show i + 1 < 2 ^ n by omega) now tape K (f_X12_moreFit_145 now tape K F) x2 x3 (nI left) hs d1
        rw [e1]
        refine ih nx' ⟨D', e2, fun R => ?_⟩
        rw [e3 R, d2 R]
        constructor
        · rintro ((q | ⟨s, h, s1, s2, s3⟩) | ⟨s, s1, s2, s3, s4⟩)
          · exact Or.inl q
          · exact Or.inr ⟨s, h, s1, by omega, s3⟩
          · exact Or.inr ⟨s, i + 1, s1, by omega, by omega, s2, s3, c, s4⟩
        · rintro (q | ⟨s, h, s1, s2, s3, s4, s5, s6, s7⟩)
          · exact Or.inl (Or.inl q)
          · by_cases e : h = i + 1
            · rw [e] at s5 s7; exact Or.inr ⟨s, s1, s4, s5, s7⟩
            · exact Or.inl (Or.inr ⟨s, h, s1, by omega, s3, s4, s5, s6, s7⟩)
      · rw [if_neg (nI_ge (by omega) (by omega)), nI_1]
        refine ih nx ⟨D, d1, fun R => ?_⟩
        rw [d2 R]
        constructor
        · rintro (q | ⟨s, h, s1, s2, s3⟩)
          · exact Or.inl q
          · exact Or.inr ⟨s, h, s1, by omega, s3⟩
        · rintro (q | ⟨s, h, s1, s2, s3, s4, s5, s6, s7⟩)
          · exact Or.inl q
          · by_cases e : h = i + 1
            · rw [e] at s6; exact absurd s6 c
            · exact Or.inr ⟨s, h, s1, by omega, s3, s4, s5, s6, s7⟩
  · intro F i nx hi hnx ih
    show ∃ sit' nx' C', f_X12_moreFit_114 now tape K (F + 1) (nI n) x2 x3 (nI left) (nI i) 0 sit nx = _ ∧ _
    rw [f_X12_moreFit_114, sl1 (by omega), if_neg (nI_ge (by omega) (by omega)), ixn (by omega) (by decide), ixn (by omega) (by decide), nI_clamp (by omega), hs i hi, vb, nI_1]
    refine ih _ (fun S hS => ?_)
    by_cases e : S = i
    · rw [e, upd_s]
    · rw [upd_n e]; exact hnx S (by omega)
/-- the best of the sets, at last -/
theorem fin2 {n : Nat} (hn : n ≤ 6) (L : Int32) (bt gu now tape : Nat → Int32) (x2 : Int32) {C : Nat → Bool} {x : Int64} (hx : ∀ R : Nat, R < 2 ^ n → lb x R = C R) {sit nx low : Nat → Int32} (hs : BA n sit C) :
    T2 (f_X7_fitFamilies_97 L bt gu FU x2 (nI (2 ^ n - 1)) x 0 0 low) (f_X12_moreFit_262 now tape FU (nI n) x2 0 1 0 sit nx) (fun x y => x.1 = y.1 ∧ y.2.1 = 0) := by
  have h64 : 2 ^ n ≤ 64 := Nat.le_trans (Nat.pow_le_pow_right (by decide) hn) (by decide)
  have hp := Nat.two_pow_pos n
  have main : ∀ F F' : Nat, 2 ^ n < F + 1 → 2 ^ n < F' + 1 → T2 (f_X7_fitFamilies_97 L bt gu F x2 (nI (2 ^ n - 1)) x (nI 0) (nI 1) low) (f_X12_moreFit_262 now tape F' (nI n) x2 (nI 0) (nI 1) 0 sit nx) (fun x y => x.1 = y.1 ∧ y.2.1 = 0) := by
    intro F F' hF hF'
    refine loop2 (2 ^ n - 1) (fun _ (s t : Nat) => s = t ∧ s < 512) (fun F i s => f_X7_fitFamilies_97 L bt gu F x2 (nI (2 ^ n - 1)) x (nI s) (nI (i + 1)) low) (fun F i t => f_X12_moreFit_262 now tape F (nI n) x2 (nI t) (nI (i + 1)) 0 sit nx) (fun x y => x.1 = y.1 ∧ y.2.1 = 0) ?_ ?_ (2 ^ n - 1) 0 0 0 F F' (by omega) (by omega) (by omega) ⟨rfl, by decide⟩
    · rintro F F' s t ⟨rfl, h5⟩
      show T2 (f_X7_fitFamilies_97 L bt gu (F + 1) x2 (nI (2 ^ n - 1)) x (nI s) (nI (2 ^ n - 1 + 1)) low) (f_X12_moreFit_262 now tape (F' + 1) (nI n) x2 (nI s) (nI (2 ^ n - 1 + 1)) 0 sit nx) _
      rw [f_X7_fitFamilies_97, f_X12_moreFit_262, sl1 (by omega), if_pos (nI_lt (by omega) (by omega)), if_pos (nI_le (by omega) (by omega)), (pop_b h5).1, bits_e h5, bs, bs]
      by_cases z : x2 = 0
      · rw [if_pos z, if_pos z]; exact T2.ret ⟨rfl, rfl⟩
      · rw [if_neg z, if_neg z]; exact T2.ret ⟨rfl, rfl⟩
    · rintro F F' i s t hi ⟨rfl, h5⟩ ih
      show T2 (f_X7_fitFamilies_97 L bt gu (F + 1) x2 (nI (2 ^ n - 1)) x (nI s) (nI (i + 1)) low) (f_X12_moreFit_262 now tape (F' + 1) (nI n) x2 (nI s) (nI (i + 1)) 0 sit nx) _
      rw [f_X7_fitFamilies_97, f_X12_moreFit_262, sl1 (by omega), if_neg (nI_nlt (by omega) (by omega)), if_neg (nI_ge (by omega) (by omega)), (pop_b h5).1, bits_e h5, (pop_b (show i + 1 < 512 by omega)).1, bits_e (show i + 1 < 512 by omega), bs, bs, bs, bs, nI_1, ixn (by omega) (by decide), nI_clamp (by omega), hs (i + 1) (by omega)]
      cases c : C (i + 1) with
      | false =>
        rw [if_pos ((lbit x (by omega)).mpr (by rw [hx (i + 1) (by omega)]; exact c)), show (if false = true then (1 : Int32) else 0) = 0 from rfl, if_pos rfl]
        exact ih s s ⟨rfl, h5⟩
      | true =>
        rw [if_neg (fun z => by rw [lbit x (by omega), hx (i + 1) (by omega), c] at z; exact absurd z (by decide)), show (if true = true then (1 : Int32) else 0) = 1 from rfl, if_neg i10]
        by_cases d : nI (popc (i + 1)) ≤ nI (popc s)
        · rw [if_pos d, if_pos d]; exact ih s s ⟨rfl, h5⟩
        · rw [if_neg d, if_neg d]; exact ih (i + 1) (i + 1) ⟨rfl, by omega⟩
  have hF : FU = (FU - 1) + 1 := rfl
  have first : f_X7_fitFamilies_97 L bt gu FU x2 (nI (2 ^ n - 1)) x 0 0 low = f_X7_fitFamilies_97 L bt gu (FU - 1) x2 (nI (2 ^ n - 1)) x (nI 0) (nI 1) low := by
    rw [hF, f_X7_fitFamilies_97, if_neg (show ¬ nI (2 ^ n - 1) < 0 from nI_pos (by omega)), show f_J6_bitCount_0f7a4 0 = some (nI (popc 0)) from (pop_b (k := 0) (by decide)).1, bs, bs, if_pos (show nI (popc 0) ≤ nI (popc 0) from Int32.le_refl _)]
    split <;> rfl
  rw [first]
  exact main (FU - 1) FU (by unfold FU; omega) (by unfold FU; omega)
theorem fit2 {bt tape gu now : Nat → Int32} (h : Al gu now) {b : Nat → Nat} {L : Int32} {n : Nat} (hn : n ≤ 6) (hb : ∀ i, b i ≤ 255) (hw : ∀ i : Nat, i < n → f_X8_byteAt L bt (nI i) = some (nI (b i)) ∧ f_X12_octet tape (nI i) = some (nI (b i))) (x2 : Int32) (low sit nx : Nat → Int32) :
    T2 (f_X7_fitFamilies L bt low gu (nI n) x2) (f_X12_moreFit_36 now tape FU (nI n) x2 0 0 sit nx) (fun x y => x.1 = y.1 ∧ y.2.1 = 0) := by
  have h64 : 2 ^ n ≤ 64 := Nat.le_trans (Nat.pow_le_pow_right (by decide) hn) (by decide)
  have hp := Nat.two_pow_pos n
  unfold f_X7_fitFamilies
  refine loop2 n (fun _ (_ _ : Unit) => True) (fun F i _ => f_X7_fitFamilies_3 L bt gu F (nI n) x2 (nI i) low) (fun F i _ => f_X12_moreFit_36 now tape F (nI n) x2 (nI i) 0 sit nx) (fun x y => x.1 = y.1 ∧ y.2.1 = 0) ?_ ?_ n 0 () () FU FU (by omega) (by unfold FU; omega) (by unfold FU; omega) trivial
  · intro F F' _ _ _
    show T2 (f_X7_fitFamilies_3 L bt gu (F + 1) (nI n) x2 (nI n) low) (f_X12_moreFit_36 now tape (F' + 1) (nI n) x2 (nI n) 0 sit nx) _
    obtain ⟨r, f1, f2⟩ := FS (bt := bt) (L := L) (w := fun i => nI (b i)) (a := 0) (m := n) hn (by omega) (fun i hi => by rw [Nat.zero_add]; exact (hw i hi).1) low
    rw [f_X7_fitFamilies_3, f_X12_moreFit_36, if_pos (nI_le (Nat.le_refl _) (by omega)), if_pos (nI_le (Nat.le_refl _) (by omega)), show f_X7_fillSums L bt low 0 (nI n) = some r from f1, bs, sl1 (by omega), show nI (2 ^ n) - 1 = nI (2 ^ n - 1) from pk_sub (b := 1) (by omega)]
    have i0 : ∃ sit' : Nat → Int32, (∀ k : Nat, k < 64 → sit' k = if k = 0 then 1 else 0) ∧ f_X12_moreFit_66 now tape FU (nI n) x2 0 0 sit nx = f_X12_moreFit_95 now tape FU (nI n) x2 0 0 sit' nx := by
      refine loop1 64 (fun i (s : Nat → Int32) => ∀ k : Nat, k < i → s k = if k = 0 then 1 else 0) (fun F i s => f_X12_moreFit_66 now tape F (nI n) x2 (nI i) 0 s nx) (fun o => ∃ sit' : Nat → Int32, (∀ k : Nat, k < 64 → sit' k = if k = 0 then 1 else 0) ∧ o = f_X12_moreFit_95 now tape FU (nI n) x2 0 0 sit' nx) ?_ ?_ 64 0 sit FU (by omega) (by unfold FU; omega) (fun k hk => by omega)
      · intro F s hs
        show ∃ sit' : Nat → Int32, _ ∧ f_X12_moreFit_66 now tape (F + 1) (nI n) x2 (nI 64) 0 s nx = _
        rw [f_X12_moreFit_66, if_pos (by decide)]
        exact ⟨s, hs, rfl⟩
      · intro F i s hi hs ih
        show ∃ sit' : Nat → Int32, _ ∧ f_X12_moreFit_66 now tape (F + 1) (nI n) x2 (nI i) 0 s nx = _
        unfold f_X12_moreFit_66 f_X12_moreFit_86
        rw [if_neg (show ¬ (64 : Int32) ≤ nI i from nI_ge (b := 64) hi (by decide)), ixn hi (by decide), ixn hi (by decide), nI_clamp (by omega), nI_1]
        by_cases z : i = 0
        · rw [z, if_pos (show nI 0 = 0 from rfl)]
          rw [z] at ih
          refine ih _ (fun k hk => ?_)
          rw [show k = 0 by omega, upd_s]
          rfl
        · rw [if_neg (nI_ne0 (by omega) (by omega))]
          refine ih _ (fun k hk => ?_)
          by_cases e : k = i
          · rw [e, upd_s, if_neg z]; rfl
          · rw [upd_n e]; exact hs k (by omega)
    obtain ⟨sit', s1, s2⟩ := i0
    rw [s2]
    refine loop2 16 (fun _ (x : Int64) (t : (Nat → Int32) × (Nat → Int32)) => ∃ C : Nat → Bool, (∀ R : Nat, R < 2 ^ n → lb x R = C R) ∧ BA n t.1 C) (fun F i x => f_X7_fitFamilies_59 L bt gu F x2 (nI (2 ^ n - 1)) x (nI i) r) (fun F i t => f_X12_moreFit_95 now tape F (nI n) x2 (nI i) 0 t.1 t.2) (fun x y => x.1 = y.1 ∧ y.2.1 = 0) ?_ ?_ 16 0 1 (sit', nx) FU FU (by omega) (by unfold FU; omega) (by unfold FU; omega) ⟨fun R => decide (R = 0), fun R hR => ?_, fun S hS => ?_⟩
    · rintro F F' x t ⟨C, c1, c2⟩
      show T2 (f_X7_fitFamilies_59 L bt gu (F + 1) x2 (nI (2 ^ n - 1)) x (nI 16) r) (f_X12_moreFit_95 now tape (F' + 1) (nI n) x2 (nI 16) 0 t.1 t.2) _
      rw [f_X7_fitFamilies_59, f_X12_moreFit_95, if_pos (by decide), if_pos (by decide)]
      exact fin2 hn L bt gu now tape x2 c1 c2
    · rintro F F' i x t hi ⟨C, c1, c2⟩ ih
      show T2 (f_X7_fitFamilies_59 L bt gu (F + 1) x2 (nI (2 ^ n - 1)) x (nI i) r) (f_X12_moreFit_95 now tape (F' + 1) (nI n) x2 (nI i) 0 t.1 t.2) _
      have q9 := ct_le (tk now) (9 * i) 9
      rw [f_X7_fitFamilies_59, f_X12_moreFit_95, if_neg (show ¬ (16 : Int32) ≤ nI i from nI_ge (b := 16) hi (by decide)), if_neg (show ¬ (16 : Int32) ≤ nI i from nI_ge (b := 16) hi (by decide)), xSI gu hi, mSI now hi, bs, bs, Al_ct h (by omega), show (9 : Int32) - nI (ct (tk now) (9 * i) 9) = nI (9 - ct (tk now) (9 * i) 9) from pk_sub (a := 9) q9]
      obtain ⟨x', p1, p2⟩ := xPew (left := 9 - ct (tk now) (9 * i) 9) hn (by omega) hb (low := r) (fun t ht => by rw [f2 t ht, sw_sN]) c1
      obtain ⟨st', nx', C', q1, q2, q3⟩ := mPew (left := 9 - ct (tk now) (9 * i) 9) hn (by omega) hb now tape (fun i hi => (hw i hi).2) (f_X12_moreFit_95 now tape F') x2 (nI i) (nx := t.2) c2
      rw [p1, bs, q1, nI_1]
      refine ih x' (st', nx') ⟨C', fun R hR => ?_, q2⟩
      have := (p2 R hR).trans (q3 R).symm
      cases a : lb x' R <;> cases c : C' R
      · rfl
      · rw [a, c] at this; exact absurd (this.mpr rfl) (by decide)
      · rw [a, c] at this; exact absurd (this.mp rfl) (by decide)
      · rfl
    · show ((1 : Int64).toBitVec).getLsbD R = _
      show (1#64).getLsbD R = _
      simp [BitVec.getLsbD_one]
    · show sit' S = _
      rw [s1 S (by omega)]
      by_cases e : S = 0
      · simp [e]
      · simp [e]
  · intro F F' i _ _ hi _ ih
    show T2 (f_X7_fitFamilies_3 L bt gu (F + 1) (nI n) x2 (nI i) low) (f_X12_moreFit_36 now tape (F' + 1) (nI n) x2 (nI i) 0 sit nx) _
    rw [f_X7_fitFamilies_3, f_X12_moreFit_36, if_neg (nI_ge (by omega) (by omega)), if_neg (nI_ge (by omega) (by omega)), (hw i hi).1, (hw i hi).2, bs, bs, same_in, nI_1]
    rcases wi01 (nI (b i)) 1 9 with e | e
    · rw [e, bs, bs, if_pos rfl, if_pos rfl]; exact T2.ret ⟨rfl, rfl⟩
    · rw [e, bs, bs, if_neg i10, if_neg i10]; exact ih () () trivial
theorem pm_moreFit {XA : Nat → Nat → Int32} {XI : Nat → Int32} {MA : Nat → Nat → Int32} {MI : Nat → Int32} (h : Inv XA XI MA MI) (x1 : Int32) (x2 : Int32) : ∃ (rX : Int32 × Int32 × (Nat → Int32)) (rM : Int32 × Int32 × (Nat → Int32) × (Nat → Int32)), f_X11_moreFit (XI 1) (XA 0) (XA 1) (XA 17) x1 x2 = some rX ∧ f_X12_moreFit (MI 0) (MA 0) (MA 3) (MA 18) (MA 19) x1 x2 = some rM ∧ rX.1 = rM.1 ∧ Inv (va_up XA 17 rX.2.2) (va_up XI 1 rX.2.1) (va_up (va_up MA 18 rM.2.2.1) 19 rM.2.2.2) (va_up MI 0 rM.2.1) := by
  obtain ⟨⟨⟨n, hn, e1, e2⟩, hb⟩, hC, hk, hkk, hL⟩ := h
  have same : ∀ (a b c : Nat → Int32), Inv (va_up XA 17 a) (va_up XI 1 (nI n)) (va_up (va_up MA 18 b) 19 c) (va_up MI 0 (nI n)) := fun a b c => ⟨⟨⟨n, hn, rfl, rfl⟩, hb⟩, hC, hk, hkk, hL⟩
  have done : ∀ (a b c : Nat → Int32), Inv (va_up XA 17 a) (va_up XI 1 0) (va_up (va_up MA 18 b) 19 c) (va_up MI 0 0) := fun a b c => ⟨⟨⟨0, by decide, rfl, rfl⟩, hb⟩, hC, hk, hkk, hL⟩
  unfold f_X11_moreFit f_X12_moreFit f_X8_clear
  rw [e1, e2]
  rcases holds_eq hn x1 1 6 (by decide) (by decide) with ⟨d1, d2⟩ | ⟨j, j1, j2, j3, rfl, d1, d2, d3, d4⟩
  · have d1 : f_X8_holds (nI n) x1 1 6 = some 0 := d1
    rw [d1, bs, if_pos rfl]
    rcases d2 with d2 | ⟨d2, d3, -⟩
    · have d2 : f_X12_in x1 1 6 = some 0 := d2
      rw [d2, bs, if_pos rfl]
      exact ⟨_, _, rfl, rfl, rfl, same _ _ _⟩
    · have d2 : f_X12_in x1 1 6 = some 1 := d2
      rw [d2, bs, if_neg i10, if_neg d3, same_in]
      rcases wi01 x2 0 1 with e | e
      · rw [e, bs, if_pos rfl]; exact ⟨_, _, rfl, rfl, rfl, same _ _ _⟩
      · rw [e, bs, if_neg i10]; exact ⟨_, _, rfl, rfl, rfl, same _ _ _⟩
  · have d1 : f_X8_holds (nI n) (nI j) 1 6 = some 1 := d1
    have d2 : f_X12_in (nI j) 1 6 = some 1 := d2
    rw [d1, d2, bs, bs, if_neg i10, if_neg i10, same_in]
    rcases wi01 x2 0 1 with e | e
    · rw [e, bs, bs, if_pos rfl, if_pos rfl]; exact ⟨_, _, rfl, rfl, rfl, same _ _ _⟩
    · obtain ⟨b, hb1, hb2⟩ := bnat hb
      obtain ⟨⟨u1, u2⟩, ⟨v1, v2, v3⟩, p1, p2, p3, p4⟩ := fit2 (tape := MA 3) (bt := XA 0) (L := nI n) (b := b) hC.1 j2 hb1 (fun i hi => by
        rw [← hb2 i (by omega)]
        exact byte_eq hb (show i < n by omega) hn) x2 (XA 17) (MA 18) (MA 19)
      simp only at p3 p4
      subst p3 p4
      rw [e, bs, bs, if_neg i10, if_neg i10, if_pos d3, p1, p2, bs, bs]
      exact ⟨_, _, rfl, rfl, rfl, done _ _ _⟩
