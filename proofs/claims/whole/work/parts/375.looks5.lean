theorem pm_count {XA : Nat → Nat → Int32} {XI : Nat → Int32} {MA : Nat → Nat → Int32} {MI : Nat → Int32} (h : Inv XA XI MA MI) (x1 : Int32) : ∃ (rX : Int32) (rM : Int32), f_X11_count (XI 1) (XI 7) (XI 8) (XI 9) (XI 10) (XI 11) (XA 1) (XA 4) (XI 26) x1 = some rX ∧ f_X12_count (MI 0) (MI 9) (MA 0) x1 = some rM ∧ rX = rM ∧ Inv XA XI MA MI := by
  have h0 := h
  obtain ⟨⟨⟨n, hn, t1, t2⟩, hb⟩, hC, hk, hkk, hL⟩ := h
  obtain ⟨hA, hNu, hCo, ⟨w, hw, e1, e2, hG⟩, g5, g6, g7, g8⟩ := hC
  obtain ⟨r, hr, r1, r2, -⟩ := hL
  unfold f_X11_count f_X12_count
  have s0 : f_X0_sittingOn (XA 1) 0 = f_X12_sittersOn (MA 0) 0 := by
    rw [show (0 : Int32) = nI 0 from rfl, xSO _ (by decide), mSO _ (by decide), Al_ct hA (by decide)]
  have s1 : f_X0_sittingOn (XA 1) 1 = f_X12_sittersOn (MA 0) 1 := by
    rw [show (1 : Int32) = nI 1 from rfl, xSO _ (by decide), mSO _ (by decide), Al_ct hA (by decide)]
  have q0 : f_X12_sittersOn (MA 0) 0 = some (nI (ct (tk (MA 0)) 0 72)) := mSO _ (p := 0) (by decide)
  have q1 : f_X12_sittersOn (MA 0) 1 = some (nI (ct (tk (MA 0)) 72 72)) := mSO _ (p := 1) (by decide)
  rw [s0, s1, q0, q1, show (633 : Int32) = nI 633 from rfl, show (634 : Int32) = nI 634 from rfl, show (635 : Int32) = nI 635 from rfl, show (636 : Int32) = nI 636 from rfl, ixn (by decide) (by decide), ixn (by decide) (by decide), ixn (by decide) (by decide), ixn (by decide) (by decide), lit_632, nI_clamp (by decide), nI_clamp (by decide), nI_clamp (by decide), nI_clamp (by decide), clamp_632, e2, ← g5, ← g6, ← g7, ← g8, e1, t1, t2, r1, r2]
  by_cases z0 : x1 = 0
  · subst z0; exact ⟨_, _, rfl, rfl, rfl, h0⟩
  by_cases z1 : x1 = 1
  · subst z1; exact ⟨_, _, rfl, rfl, rfl, h0⟩
  by_cases z2 : x1 = 2
  · subst z2; exact ⟨_, _, rfl, rfl, rfl, h0⟩
  by_cases z3 : x1 = 3
  · subst z3; exact ⟨_, _, rfl, rfl, rfl, h0⟩
  by_cases z4 : x1 = 4
  · subst z4; exact ⟨_, _, rfl, rfl, rfl, h0⟩
  by_cases z5 : x1 = 5
  · subst z5; exact ⟨_, _, rfl, rfl, rfl, h0⟩
  by_cases z6 : x1 = 6
  · subst z6; exact ⟨_, _, rfl, rfl, rfl, h0⟩
  by_cases z7 : x1 = 7
  · subst z7; exact ⟨_, _, rfl, rfl, rfl, h0⟩
  by_cases z8 : x1 = 8
  · subst z8; exact ⟨_, _, rfl, rfl, rfl, h0⟩
  by_cases z9 : x1 = 9
  · subst z9; exact ⟨_, _, rfl, rfl, rfl, h0⟩
  rw [if_neg z0, if_neg z1, if_neg z2, if_neg z3, if_neg z4, if_neg z5, if_neg z6, if_neg z7, if_neg z8, if_neg z9, if_neg z0, if_neg z1, if_neg z2, if_neg z3, if_neg z4, if_neg z5, if_neg z6, if_neg z7, if_neg z8, if_neg z9, same_in, xOA, mOA, Al_cf hA _ (by omega)]
  rcases wi01 x1 10 25 with c | c
  · rw [c]
    simp only [bs, eq_self, if_true, lit_632]
    rw [same_in]
    by_cases hx : ∃ j : Nat, 30 ≤ j ∧ j ≤ 229 ∧ x1 = nI j
    · obtain ⟨j, j1, j2, rfl⟩ := hx
      have d : f_X11_isWithin (nI j) 30 229 = some 1 := by
        unfold f_X11_isWithin
        rw [if_neg (show ¬ nI j < 30 from nI_nlt (b := 30) j1 (by omega)), if_neg (show ¬ (229 : Int32) < nI j from nI_nlt (a := 229) j2 (by decide))]
      rw [d, bs, if_neg i10, show nI j - 30 = nI (j - 30) from pk_sub j1, show (29 : Int32) + nI w = nI (29 + w) from la 29 w, c432, show nI (432 + j) - 30 = nI (432 + (j - 30)) by rw [show (30 : Int32) = nI 30 from rfl, pk_sub (by omega)]; congr 1; omega]
      by_cases e : nI w ≤ nI (j - 30)
      · have e' := (nI_leI (by omega) (by omega)).mp e
        have d2 : f_X11_isWithin (nI j) 30 (nI (29 + w)) = some 0 := by
          unfold f_X11_isWithin
          rw [if_neg (show ¬ nI j < 30 from nI_nlt (b := 30) j1 (by omega)), if_pos (nI_lt (by omega) (by omega))]
        rw [if_pos e, d2]
        exact ⟨_, _, rfl, rfl, rfl, h0⟩
      · have e' : j - 30 < w := by
          rcases Nat.lt_or_ge (j - 30) w with z | z
          · exact z
          · exact absurd (nI_le z (by omega)) e
        have d2 : f_X11_isWithin (nI j) 30 (nI (29 + w)) = some 1 := by
          unfold f_X11_isWithin
          rw [if_neg (show ¬ nI j < 30 from nI_nlt (b := 30) j1 (by omega)), if_neg (nI_nlt (by omega) (by omega))]
        obtain ⟨_, f, _, _, _, _, _, _, _, _, ⟨_, a2, _⟩, ⟨_, b2, _⟩, _⟩ := (hG (j - 30) e').dec
        rw [if_neg e, d2, bs, if_neg i10, ixn (by omega) (by decide), ixn (by omega) (by decide), nI_clamp (by omega), nI_clamp (by omega), a2, b2]
        exact ⟨_, _, rfl, rfl, rfl, h0⟩
    · have no : ∀ m : Nat, m ≤ 229 → f_X11_isWithin x1 30 (nI m) = some 0 := by
        intro m hm
        unfold f_X11_isWithin
        by_cases y : x1 < 30
        · rw [if_pos y]
        · rw [if_neg y]
          by_cases y2 : nI m < x1
          · rw [if_pos y2]
          · exfalso
            have hx0 : ¬ x1 < 0 := by
              intro c
              apply y
              have a := Int32.lt_iff_toInt_lt.mp c
              apply Int32.lt_iff_toInt_lt.mpr
              have : (0 : Int32).toInt = 0 := by decide
              have : (30 : Int32).toInt = 30 := by decide
              omega
            obtain ⟨j, hj, rfl⟩ := nI_of hx0
            refine hx ⟨j, ?_, ?_, rfl⟩
            · rcases Nat.lt_or_ge j 30 with z | z
              · exact absurd (show nI j < nI 30 from nI_lt z (by decide)) y
              · exact z
            · rcases Nat.lt_or_ge m j with z | z
              · exact absurd (nI_lt z hj) y2
              · omega
      rw [show (29 : Int32) + nI w = nI (29 + w) from la 29 w, no _ (by omega), show f_X11_isWithin x1 30 229 = some 0 from no 229 (by omega)]
      exact ⟨_, _, rfl, rfl, rfl, h0⟩
  · rw [c]
    exact ⟨_, _, rfl, rfl, rfl, h0⟩
/-! fathers -/
theorem fath_in {gu now : Nat → Int32} (h : Al gu now) {s a B : Nat} (hB : B < 100000) (hs : s < 2) (ha : a < 72 * s + 72) (ht : ¬ tk now a = true) (ap w : Int32) {kX kM : Int32 → Int32 → Int32 → Int32 → Int32 → Int32 → Int32 → Option Int32}
    (hk : ∀ (m : Nat) (lo up : Int32), m ≤ B → (m = 0 ↔ lo = -2) → T2 (kX ap w (nI m) lo up (nI (72 * s + 72)) (nI (a + 1))) (kM (nI s) ap w (nI m) lo up (nI (a + 1))) (fun x y => x = y)) :
    ∀ (n b : Nat) (F F' : Nat) (m : Nat) (lo up : Int32), b + n = 72 * s + 72 → n < F → n < F' → m + n ≤ B → (m = 0 ↔ lo = -2) → T2 (f_X5_seatTwo_40 gu kX F ap w (nI m) lo up (nI (72 * s + 72)) (nI a) (nI b)) (f_X12_fathers_65 now kM F' (nI s) ap w (nI m) lo up (nI a) (nI b)) (fun x y => x = y) := by
  have e72 : (72 : Int32) * nI s + 72 = nI (72 * s + 72) := by rw [show (72 : Int32) * nI s = nI (72 * s) from lm 72 s]; exact la _ 72
  intro n
  induction n with
  | zero =>
    intro b F F' m lo up h1 h2 h3 h4 h5
    obtain ⟨F, rfl⟩ : ∃ G, F = G + 1 := ⟨F - 1, by omega⟩
    obtain ⟨F', rfl⟩ : ∃ G, F' = G + 1 := ⟨F' - 1, by omega⟩
    rw [f_X5_seatTwo_40, f_X12_fathers_65, e72, if_pos (nI_le (by omega) (by omega)), if_pos (nI_le (by omega) (by omega)), nI_1]
    exact hk m lo up (by omega) h5
  | succ n ih =>
    intro b F F' m lo up h1 h2 h3 h4 h5
    obtain ⟨F, rfl⟩ : ∃ G, F = G + 1 := ⟨F - 1, by omega⟩
    obtain ⟨F', rfl⟩ : ∃ G, F' = G + 1 := ⟨F' - 1, by omega⟩
    have hta : now a = -1 := Classical.byContradiction (fun z => ht (tk_t.mpr z))
    have htg : gu a = -1 := (h a (by omega)).iff.mpr hta
    rw [f_X5_seatTwo_40, f_X12_fathers_65, e72, if_neg (nI_ge (by omega) (by omega)), if_neg (nI_ge (by omega) (by omega)), xT gu (show a < 144 by omega), mT now (show a < 144 by omega), bs, bs, if_pos htg, if_pos hta, if_pos rfl, if_pos rfl, xT gu (show b < 144 by omega), mT now (show b < 144 by omega), bs, bs, nI_1, nI_1]
    have q := h b (by omega)
    by_cases d : gu b = -1
    · rw [if_pos d, if_pos (q.iff.mp d), if_pos rfl, if_pos rfl]
      by_cases e : nI b / 9 - nI a / 9 < ap
      · rw [if_pos e, if_neg (Int32.not_le.mpr e)]
        exact ih (b + 1) F F' m lo up (by omega) (by omega) (by omega) (by omega) h5
      · rw [if_neg e, if_pos (Int32.not_lt.mp e)]
        unfold f_X5_seatTwo_92
        rw [nI_1, nI_1]
        by_cases c : m = 0
        · rw [if_pos (show nI m = 0 by rw [c]; rfl), if_pos (show nI m = 0 by rw [c]; rfl), if_pos (h5.mp c)]
          exact ih (b + 1) F F' (m + 1) (nI a) (nI b) (by omega) (by omega) (by omega) (by omega) ⟨fun z => absurd z (by omega), fun z => absurd z (nI_nm2 (by omega))⟩
        · rw [if_neg (nI_ne0 (by omega) (by omega)), if_neg (nI_ne0 (by omega) (by omega)), if_neg (fun z => c (h5.mpr z))]
          exact ih (b + 1) F F' (m + 1) lo up (by omega) (by omega) (by omega) (by omega) ⟨fun z => absurd z (by omega), fun z => absurd (h5.mpr z) c⟩
    · have d' : ¬ now b = -1 := fun z => d (q.iff.mpr z)
      rw [if_neg d, if_neg d', if_neg i10, if_neg i10]
      exact ih (b + 1) F F' m lo up (by omega) (by omega) (by omega) (by omega) h5
/-- where the first seat is taken: nothing is counted -/
theorem fath_skip {now : Nat → Int32} {s a : Nat} (hs : s < 2) (ha : a < 72 * s + 72) (ht : ¬ now a = -1) (ap w : Int32) {kM : Int32 → Int32 → Int32 → Int32 → Int32 → Int32 → Int32 → Option Int32} (x lo up : Int32) :
    ∀ (n b : Nat) (F' : Nat), b + n = 72 * s + 72 → n < F' → f_X12_fathers_65 now kM F' (nI s) ap w x lo up (nI a) (nI b) = kM (nI s) ap w x lo up (nI (a + 1)) := by
  have e72 : (72 : Int32) * nI s + 72 = nI (72 * s + 72) := by rw [show (72 : Int32) * nI s = nI (72 * s) from lm 72 s]; exact la _ 72
  intro n
  induction n with
  | zero =>
    intro b F' h1 h3
    obtain ⟨F', rfl⟩ : ∃ G, F' = G + 1 := ⟨F' - 1, by omega⟩
    rw [f_X12_fathers_65, e72, if_pos (nI_le (by omega) (by omega)), nI_1]
  | succ n ih =>
    intro b F' h1 h3
    obtain ⟨F', rfl⟩ : ∃ G, F' = G + 1 := ⟨F' - 1, by omega⟩
    rw [f_X12_fathers_65, e72, if_neg (nI_ge (by omega) (by omega)), mT now (show a < 144 by omega), bs, if_neg ht, if_neg i10, nI_1]
    exact ih (b + 1) F' (by omega) (by omega)
theorem fath2 {gu now : Nat → Int32} (h : Al gu now) {s : Nat} (hs : s < 2) (ap w : Int32) : ∀ (n a : Nat) (F F' : Nat) (m : Nat) (lo up : Int32), a + n = 72 * s + 72 → n < F → n < F' → m + n * 144 < 100000 → (m = 0 ↔ lo = -2) → T2 (f_X5_seatTwo_27 gu F ap w (nI m) lo up (nI (72 * s + 72)) (nI a)) (f_X12_fathers_47 now F' (nI s) ap w (nI m) lo up (nI a)) (fun x y => x = y) := by
  have e72 : (72 : Int32) * nI s + 72 = nI (72 * s + 72) := by rw [show (72 : Int32) * nI s = nI (72 * s) from lm 72 s]; exact la _ 72
  intro n
  induction n with
  | zero =>
    intro a F F' m lo up h1 h2 h3 h4 h5
    obtain ⟨F, rfl⟩ : ∃ G, F = G + 1 := ⟨F - 1, by omega⟩
    obtain ⟨F', rfl⟩ : ∃ G, F' = G + 1 := ⟨F' - 1, by omega⟩
    rw [f_X5_seatTwo_27, f_X12_fathers_47, e72, if_pos (nI_le (by omega) (by omega)), if_pos (nI_le (by omega) (by omega))]
    by_cases c : w = 0
    · rw [if_pos c]; exact T2.ret rfl
    · rw [if_neg c]
      by_cases c : w = 1
      · rw [if_pos c]; exact T2.ret rfl
      · rw [if_neg c]; exact T2.ret rfl
  | succ n ih =>
    intro a F F' m lo up h1 h2 h3 h4 h5
    obtain ⟨F, rfl⟩ : ∃ G, F = G + 1 := ⟨F - 1, by omega⟩
    obtain ⟨F', rfl⟩ : ∃ G, F' = G + 1 := ⟨F' - 1, by omega⟩
    rw [f_X5_seatTwo_27, f_X12_fathers_47, e72, if_neg (nI_ge (by omega) (by omega)), if_neg (nI_ge (by omega) (by omega)), nI_1]
    by_cases t : tk now a = true
    · have ht := tk_t.mp t
      rw [fath_skip hs (by omega) ht ap w (nI m) lo up n (a + 1) FU (by omega) (by unfold FU; omega)]
      have htg : ¬ gu a = -1 := fun z => ht ((h a (by omega)).iff.mp z)
      rw [show FU = 9999 + 1 from rfl, f_X5_seatTwo_40]
      by_cases e : nI (72 * s + 72) ≤ nI (a + 1)
      · rw [if_pos e, nI_1]
        exact ih (a + 1) F F' m lo up (by omega) (by omega) (by omega) (by omega) h5
      · rw [if_neg e, xT gu (by omega), bs, if_neg htg, if_neg i10, nI_1]
        exact ih (a + 1) F F' m lo up (by omega) (by omega) (by omega) (by omega) h5
    · exact fath_in (B := m + n) h (by omega) hs (by omega) t ap w (fun m' lo up hm h5 => ih (a + 1) F F' m' lo up (by omega) (by omega) (by omega) (by omega) h5) n (a + 1) FU FU m lo up (by omega) (by unfold FU; omega) (by unfold FU; omega) (by omega) h5
theorem pm_fathers {XA : Nat → Nat → Int32} {XI : Nat → Int32} {MA : Nat → Nat → Int32} {MI : Nat → Int32} (h : Inv XA XI MA MI) (x1 : Int32) (x2 : Int32) (x3 : Int32) : ∃ (rX : Int32) (rM : Int32), f_X11_fathers (XA 1) x1 x2 x3 = some rX ∧ f_X12_fathers (MA 0) x1 x2 x3 = some rM ∧ rX = rM ∧ Inv XA XI MA MI := by
  have h0 := h
  obtain ⟨hT, hC, hk, hkk, hL⟩ := h
  unfold f_X11_fathers f_X12_fathers
  rw [isSide_eq, show (1 : Int32) = nI 1 from rfl]
  rcases wi x1 1 (by decide) with ⟨c1, c2, -⟩ | ⟨s, hs, rfl, c1, c2⟩
  · rw [c1, c2]
    exact ⟨_, _, rfl, rfl, rfl, h0⟩
  · rw [c1, c2, bs, bs, if_neg i10, if_neg i10, same_in, same_in]
    rcases wi01 x2 0 7 with d | d
    · rw [d]
      exact ⟨_, _, rfl, rfl, rfl, h0⟩
    · rw [d, bs, bs, if_neg i10, if_neg i10]
      rcases wi01 x3 0 2 with e | e
      · rw [e]
        exact ⟨_, _, rfl, rfl, rfl, h0⟩
      · rw [e, bs, bs, if_neg i10, if_neg i10]
        unfold f_X5_seatTwo
        have e72 : nI s * 72 + 72 = nI (72 * s + 72) := by rw [show nI s * 72 = nI (72 * s) by rw [Nat.mul_comm]; exact lm s 72]; exact la _ 72
        rw [e72, show nI (72 * s + 72) - 72 = nI (72 * s) by rw [show (72 : Int32) = nI 72 from rfl, pk_sub (by omega), Nat.add_sub_cancel], show (72 : Int32) * nI s = nI (72 * s) from lm 72 s]
        obtain ⟨a, b, ea, eb, rfl⟩ := fath2 hC.1 (show s < 2 by omega) x2 x3 72 (72 * s) FU FU 0 (-2) (-2) (by omega) (by unfold FU; omega) (by unfold FU; omega) (by omega) ⟨fun _ => rfl, fun _ => rfl⟩
        have ea : f_X5_seatTwo_27 (XA 1) FU x2 x3 0 (-2) (-2) (nI (72 * s + 72)) (nI (72 * s)) = some a := ea
        have eb : f_X12_fathers_47 (MA 0) FU (nI s) x2 x3 0 (-2) (-2) (nI (72 * s)) = some a := eb
        rw [ea, eb]
        exact ⟨_, _, rfl, rfl, rfl, h0⟩
