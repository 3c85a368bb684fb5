section
/-! which pew, in both -/
def hasF (g co : Nat → Int32) (f : Int32) (p : Nat) : Prop := ∃ i : Nat, i < 9 ∧ fr g co f (9 * p + i) = true
def goodP (g co : Nat → Int32) (f : Int32) (v : Int32) : Prop := v = -1 ∨ ∃ b : Nat, b < 16 ∧ v = nI b ∧ hasF g co f b
theorem sIn_has {g co : Nat → Int32} {f : Int32} {p : Nat} {v : Int32} (h : sIn g co f p v) (hv : ¬ v = -1) : hasF g co f p := by
  rcases h with h | ⟨i, h1, _, h3⟩
  · exact absurd h.1 hv
  · exact ⟨i, h1, h3⟩
theorem sIn_not {g co : Nat → Int32} {f : Int32} {p : Nat} {v : Int32} (h : sIn g co f p v) (hh : hasF g co f p) : ∃ i : Nat, i < 9 ∧ v = nI (9 * p + i) ∧ fr g co f (9 * p + i) = true := by
  rcases h with h | h
  · obtain ⟨i, h1, h2⟩ := hh
    rw [h.2 i h1] at h2
    exact absurd h2 (by decide)
  · exact h
theorem empt2 {gu now co : Nat → Int32} (h : Al gu now) (hc : ∀ k : Nat, k < 144 → co k = now (288 + k)) {f m : Int32} (hf : faM m = f) :
    T2 (f_X10_emptiestPew gu co f) (f_X12_emptiest now m) (fun a b => a = b ∧ goodP gu co f a) := by
  unfold f_X10_emptiestPew f_X12_emptiest
  refine loop2 16 (fun i (s : Int32 × Int32) (t : Int32) => s.1 = t ∧ ((t = -1 ∧ s.2 = nI 10) ∨ ∃ b : Nat, b < 16 ∧ t = nI b ∧ s.2 = nI (ct (tk gu) (9 * b) 9) ∧ hasF gu co f b)) (fun F i s => f_X10_emptiestPew_9 gu co F f s.1 s.2 (nI i)) (fun F i t => f_X12_emptiest_4 now F m t (nI i)) (fun a b => a = b ∧ goodP gu co f a) ?_ ?_ 16 0 (-1, nI 10) (-1) FU FU (by omega) (FU_big (by omega)) (FU_big (by omega)) ⟨rfl, Or.inl ⟨rfl, rfl⟩⟩
  · intro F F' s t hI
    show T2 (f_X10_emptiestPew_9 gu co (F + 1) f s.1 s.2 (nI 16)) (f_X12_emptiest_4 now (F' + 1) m t (nI 16)) _
    rw [f_X10_emptiestPew_9, f_X12_emptiest_4, if_pos (show (16 : Int32) ≤ nI 16 from nI_le (Nat.le_refl _) (by decide)), if_pos (show (16 : Int32) ≤ nI 16 from nI_le (Nat.le_refl _) (by decide)), hI.1]
    refine T2.ret ⟨rfl, ?_⟩
    rcases hI.2 with z | ⟨b, b1, b2, _, b4⟩
    · exact Or.inl z.1
    · exact Or.inr ⟨b, b1, b2, b4⟩
  · intro F F' i s t hi hI ih
    show T2 (f_X10_emptiestPew_9 gu co (F + 1) f s.1 s.2 (nI i)) (f_X12_emptiest_4 now (F' + 1) m t (nI i)) _
    rw [f_X10_emptiestPew_9, f_X12_emptiest_4, if_neg (show ¬ (16 : Int32) ≤ nI i from nI_ge (b := 16) hi (by decide)), if_neg (show ¬ (16 : Int32) ≤ nI i from nI_ge (b := 16) hi (by decide)), xSI gu hi, bs, mSI now hi, nI_1, ← Al_ct h (show 9 * i + 9 ≤ 144 by omega)]
    obtain ⟨va, vb, ea, eb, eab, hs⟩ := seatA h hc hf hi
    subst eab
    rw [ea, eb, bs, bs]
    have l9 := ct_le (tk gu) (9 * i) 9
    obtain ⟨s1, s2⟩ := s
    obtain ⟨h1, h2⟩ := hI
    dsimp only at h1 h2 ⊢
    subst h1
    by_cases hv : va = -1
    · rw [if_pos hv, if_pos hv]
      have k := ih (s1, s2) s1 ⟨rfl, h2⟩
      by_cases c : s2 ≤ nI (ct (tk gu) (9 * i) 9)
      · rw [if_pos c]; exact k
      · rw [if_neg c]; exact k
    · rw [if_neg hv, if_neg hv]
      have hh := sIn_has hs hv
      rcases h2 with ⟨z1, z2⟩ | ⟨b, b1, b2, b3, b4⟩
      · rw [z1, z2, if_pos rfl, if_neg (show ¬ nI 10 ≤ nI (ct (tk gu) (9 * i) 9) from nI_ge (by omega) (by decide))]
        exact ih (nI i, nI (ct (tk gu) (9 * i) 9)) (nI i) ⟨rfl, Or.inr ⟨i, hi, rfl, rfl, hh⟩⟩
      · have lb := ct_le (tk gu) (9 * b) 9
        rw [b2, b3, if_neg (nI_nm1 (by omega)), bs, mSI now b1, bs, ← Al_ct h (show 9 * b + 9 ≤ 144 by omega)]
        by_cases c : nI (ct (tk gu) (9 * b) 9) ≤ nI (ct (tk gu) (9 * i) 9)
        · rw [if_pos c, if_pos c]
          exact ih (nI b, nI (ct (tk gu) (9 * b) 9)) (nI b) ⟨rfl, Or.inr ⟨b, b1, rfl, rfl, b4⟩⟩
        · rw [if_neg c, if_neg c]
          exact ih (nI i, nI (ct (tk gu) (9 * i) 9)) (nI i) ⟨rfl, Or.inr ⟨i, hi, rfl, rfl, hh⟩⟩
theorem ile (x y : Int32) : (x < y) ↔ ¬ y ≤ x := by
  rw [Int32.lt_iff_toInt_lt, Int32.le_iff_toInt_le]
  omega
theorem fitc {gu now co deeds values kinds ss ts te codes clauseOf cf ch ct' fx fm : Nat → Int32} {rules clauses : Int32} (hL : LwR deeds values kinds ss ts te rules codes clauseOf cf ch ct' clauses) (h : Al gu now) (hc : ∀ k : Nat, k < 144 → co k = now (288 + k)) {f m : Int32} (hf : faM m = f) (hF : FR fx fm) (sx sm : Nat → Int32) :
    T2 (f_X10_fittestPew fx gu co rules deeds values kinds ss ts te sx f) (f_X12_dearest clauses now codes clauseOf cf ch ct' sm fm m) (fun a b => a.1 = b.1 ∧ goodP gu co f a.1 ∧ FR a.2.1 b.2.2) := by
  unfold f_X10_fittestPew f_X12_dearest
  refine loop2 16 (fun i (s : Int32 × Int32 × (Nat → Int32) × (Nat → Int32)) (t : Int32 × Int32 × (Nat → Int32) × (Nat → Int32)) => s.1 = t.1 ∧ s.2.1 = t.2.1 ∧ goodP gu co f s.1 ∧ FR s.2.2.1 t.2.2.2) (fun F i s => f_X10_fittestPew_9 gu co rules deeds values kinds ss ts te F f s.1 s.2.1 (nI i) s.2.2.1 s.2.2.2) (fun F i t => f_X12_dearest_7 clauses now codes clauseOf cf ch ct' F m t.1 t.2.1 (nI i) t.2.2.1 t.2.2.2) (fun a b => a.1 = b.1 ∧ goodP gu co f a.1 ∧ FR a.2.1 b.2.2) ?_ ?_ 16 0 (-1, 0, fx, sx) (-1, 0, sm, fm) FU FU (by omega) (FU_big (by omega)) (FU_big (by omega)) ⟨rfl, rfl, Or.inl rfl, hF⟩
  · intro F F' s t hI
    show T2 (f_X10_fittestPew_9 gu co rules deeds values kinds ss ts te (F + 1) f s.1 s.2.1 (nI 16) s.2.2.1 s.2.2.2) (f_X12_dearest_7 clauses now codes clauseOf cf ch ct' (F' + 1) m t.1 t.2.1 (nI 16) t.2.2.1 t.2.2.2) _
    rw [f_X10_fittestPew_9, f_X12_dearest_7, if_pos (show (16 : Int32) ≤ nI 16 from nI_le (Nat.le_refl _) (by decide)), if_pos (show (16 : Int32) ≤ nI 16 from nI_le (Nat.le_refl _) (by decide))]
    exact T2.ret ⟨hI.1, hI.2.2.1, hI.2.2.2⟩
  · intro F F' i s t hi hI ih
    show T2 (f_X10_fittestPew_9 gu co rules deeds values kinds ss ts te (F + 1) f s.1 s.2.1 (nI i) s.2.2.1 s.2.2.2) (f_X12_dearest_7 clauses now codes clauseOf cf ch ct' (F' + 1) m t.1 t.2.1 (nI i) t.2.2.1 t.2.2.2) _
    obtain ⟨s1, s2, s3, s4⟩ := s
    obtain ⟨t1, t2, t3, t4⟩ := t
    obtain ⟨h1, h2, h3, h4⟩ := hI
    dsimp only at h1 h2 h3 h4 ⊢
    subst h1 h2
    rw [f_X10_fittestPew_9, f_X12_dearest_7, if_neg (show ¬ (16 : Int32) ≤ nI i from nI_ge (b := 16) hi (by decide)), if_neg (show ¬ (16 : Int32) ≤ nI i from nI_ge (b := 16) hi (by decide)), nI_1]
    obtain ⟨va, vb, ea, eb, eab, hs⟩ := seatA h hc hf hi
    subst eab
    rw [ea, eb, bs, bs]
    by_cases hv : va = -1
    · rw [if_pos hv, if_pos hv]
      exact ih (s1, s2, s3, s4) (s1, s2, t3, t4) ⟨rfl, rfl, h3, h4⟩
    · rw [if_neg hv, if_neg hv]
      refine T2.bind (pew2 h hc hf h4 hi) (fun x y hxy => ?_)
      refine T2.bind (worth2 hL hxy (Or.inl ⟨rfl, rfl⟩) (by decide) s4 t3) (fun x' y' hxy' => ?_)
      rw [← hxy']
      by_cases c : x'.1 ≤ s2
      · rw [if_pos c, if_neg (fun q => (ile _ _).mp q c)]
        exact ih (s1, s2, x, x'.2) (s1, s2, y'.2, y) ⟨rfl, rfl, h3, hxy⟩
      · rw [if_neg c, if_pos ((ile _ _).mpr c)]
        exact ih (nI i, x'.1, x, x'.2) (nI i, x'.1, y'.2, y) ⟨rfl, rfl, Or.inr ⟨i, hi, rfl, sIn_has hs hv⟩, hxy⟩
theorem seatc {gu now co deeds values kinds ss ts te codes clauseOf cf ch ct' fx fm : Nat → Int32} {rules clauses : Int32} (hL : LwR deeds values kinds ss ts te rules codes clauseOf cf ch ct' clauses) (h : Al gu now) (hc : ∀ k : Nat, k < 144 → co k = now (288 + k)) {f m : Int32} (hf : faM m = f) (hF : FR fx fm) (sx sm : Nat → Int32) {p : Nat} (hp : p < 16) (hh : hasF gu co f p) :
    T2 (f_X10_seatIn fx gu co rules deeds values kinds ts te sx (nI p) f) ((f_X12_feelsPew now fm m (nI p)).bind (fun z3 => (f_X12_holdsAny clauses codes clauseOf ch ct' sm z3 111).bind (fun z12 => (f_X12_seatIn now (nI p) m z12.1).bind (fun z15 => some (z15, z12.2, z3))))) (fun a b => a.1 = b.1 ∧ (∃ i : Nat, i < 9 ∧ a.1 = nI (9 * p + i) ∧ fr gu co f (9 * p + i) = true) ∧ FR a.2.1 b.2.2) := by
  unfold f_X10_seatIn
  refine T2.bind (pew2 h hc hf hF hp) (fun x y hxy => ?_)
  refine T2.bind (any2 hL hxy sx sm) (fun x' y' hxy' => ?_)
  rw [← hxy'.1]
  have fin : ∀ v w : Int32, v = w ∧ sIn gu co f p v → T2 (f_X10_seatIn_37 gu co rules deeds values kinds ts te v x x'.2) (some (w, y'.2, y)) (fun a b => a.1 = b.1 ∧ (∃ i : Nat, i < 9 ∧ a.1 = nI (9 * p + i) ∧ fr gu co f (9 * p + i) = true) ∧ FR a.2.1 b.2.2) := by
    rintro v w ⟨rfl, hv⟩
    obtain ⟨i, i1, i2, i3⟩ := sIn_not hv hh
    unfold f_X10_seatIn_37
    rw [i2, if_neg (nI_nm1 (by omega))]
    exact T2.ret ⟨rfl, ⟨i, i1, rfl, i3⟩, hxy⟩
  rcases hxy'.2 with z | z
  · rw [z, if_pos rfl]
    exact T2.bind (seatA h hc hf hp) (fun v w hvw => fin v w hvw)
  · rw [z, if_neg i10]
    exact T2.bind (seatW h hc hf hp) (fun v w hvw => fin v w hvw)
theorem sits25 {codes clauseOf ch ct' : Nat → Int32} {clauses : Int32} (now sm fm : Nat → Int32) (m ls cn : Int32) {p i : Nat} (hp : p < 16) (hi : i < 9) :
    f_X12_sits_25 clauses codes clauseOf ch ct' FU m (nI (9 * p + i)) (nI (9 * p)) ls cn now sm fm = some (nI (9 * p + i), cn + nI (ct (tk now) (9 * p) i), upd (upd now (9 * p + i) m) (144 + (9 * p + i)) (now 633), sm, fm) := by
  have key := loop1 i (fun j (c : Int32) => c = cn + nI (ct (tk now) (9 * p) j)) (fun F j c => f_X12_sits_25 clauses codes clauseOf ch ct' F m (nI (9 * p + i)) (nI (9 * p + j)) ls c now sm fm) (fun o => o = some (nI (9 * p + i), cn + nI (ct (tk now) (9 * p) i), upd (upd now (9 * p + i) m) (144 + (9 * p + i)) (now 633), sm, fm)) ?_ ?_ i 0 cn FU (by omega) (FU_big (by omega)) (by show cn = cn + nI 0; rw [nI_0, Int32.add_zero])
  · exact key
  · intro F c hI
    show f_X12_sits_25 clauses codes clauseOf ch ct' (F + 1) m (nI (9 * p + i)) (nI (9 * p + i)) ls c now sm fm = _
    rw [f_X12_sits_25, if_pos (nI_le (Nat.le_refl _) (by omega)), Int32.zero_add, show (144 : Int32) + nI (9 * p + i) = nI (144 + (9 * p + i)) from la 144 _, ixn (by omega) (by decide), ixq 637 633 (by decide), ixn (by omega) (by decide), nI_clamp (by omega), nI_clamp (by omega), hI]
    rw [show upd now (9 * p + i) m (633 : Int32).toNatClampNeg = now 633 from upd_n (show 633 ≠ 9 * p + i by omega)]
  · intro F j c hj hI ih
    show f_X12_sits_25 clauses codes clauseOf ch ct' (F + 1) m (nI (9 * p + i)) (nI (9 * p + j)) ls c now sm fm = _
    rw [f_X12_sits_25, if_neg (nI_ge (by omega) (by omega)), mT now (by omega), bs, nI_1]
    by_cases c : now (9 * p + j) = -1
    · rw [if_pos c, if_pos rfl]
      refine ih _ ?_
      rw [hI, ct, if_neg (tk_f c)]
      rfl
    · rw [if_neg c, if_neg i10]
      refine ih _ ?_
      rw [hI, ct, if_pos (tk_t.mpr c), Int32.add_assoc, nI_1]
theorem aisle (g : Nat → Int32) {p i : Nat} (hp : p < 16) (hi : i < 9) : f_X0_sittingAisleward g (nI (9 * p + i)) = some (nI (ct (tk g) (9 * p) i)) := by
  unfold f_X0_sittingAisleward
  rw [show jrem (nI (9 * p + i)) 9 = nI ((9 * p + i) % 9) from rm_eq (by omega) (by decide) (by decide), show (9 * p + i) % 9 = i by omega, pk_sub (show i ≤ 9 * p + i by omega), show 9 * p + i - i = 9 * p by omega, xSF g (by omega)]
  rfl
/-- the church as it stands while they come -/
def ChI (gu nu co li : Nat → Int32) (w i : Nat) (ar st cl dr : Int32) (now : Nat → Int32) (cn c0 : Int32) : Prop :=
  Al gu now ∧ (∀ k : Nat, k < 144 → nu k = now (144 + k)) ∧ (∀ k : Nat, k < 144 → co k = now (288 + k)) ∧ (now 632 = nI (w - i) ∧ ∀ k : Nat, k < w - i → GR (li (i + k)) (now (432 + k))) ∧ ar = now 633 ∧ st = now 634 ∧ (now 635 = c0 ∧ cl = c0 + cn) ∧ dr = now 636
theorem shift {codes clauseOf cf ch ct' : Nat → Int32} {clauses : Int32} (now sm fm : Nat → Int32) (x sn ls cn : Int32) {m : Nat} (hm : 1 ≤ m) (hm2 : m ≤ 200) (h632 : now 632 = nI m) :
    ∃ (F : Nat) (now' : Nat → Int32), f_X12_oneComes_11 clauses codes clauseOf cf ch ct' FU x 1 sn ls cn now sm fm = f_X12_oneComes_11 clauses codes clauseOf cf ch ct' (F + 1) x (nI m) sn ls cn now' sm fm ∧ (∀ k : Nat, k < 432 ∨ 632 ≤ k → now' k = now k) ∧ ∀ k : Nat, k + 1 < m → now' (432 + k) = now (432 + (k + 1)) := by
  have key := loop1 (m - 1) (fun j (s : Nat → Int32) => (∀ k : Nat, k < 432 ∨ 432 + j ≤ k → s k = now k) ∧ ∀ k : Nat, k < j → s (432 + k) = now (432 + (k + 1))) (fun F j s => f_X12_oneComes_11 clauses codes clauseOf cf ch ct' F x (nI (1 + j)) sn ls cn s sm fm) (fun o => ∃ (F : Nat) (now' : Nat → Int32), o = f_X12_oneComes_11 clauses codes clauseOf cf ch ct' (F + 1) x (nI m) sn ls cn now' sm fm ∧ (∀ k : Nat, k < 432 ∨ 632 ≤ k → now' k = now k) ∧ ∀ k : Nat, k + 1 < m → now' (432 + k) = now (432 + (k + 1))) ?_ ?_ (m - 1) 0 now FU (by omega) (FU_big (by omega)) ⟨fun _ _ => rfl, fun k hk => absurd hk (Nat.not_lt_zero k)⟩
  · exact key
  · intro F s hI
    refine ⟨F, s, ?_, fun k hk => hI.1 k (by omega), fun k hk => hI.2 k (by omega)⟩
    show f_X12_oneComes_11 clauses codes clauseOf cf ch ct' (F + 1) x (nI (1 + (m - 1))) sn ls cn s sm fm = _
    rw [show 1 + (m - 1) = m by omega]
  · intro F j s hj hI ih
    have e : f_X12_oneComes_11 clauses codes clauseOf cf ch ct' (F + 1) x (nI (1 + j)) sn ls cn s sm fm = f_X12_oneComes_11 clauses codes clauseOf cf ch ct' F x (nI (1 + (j + 1))) sn ls cn (upd s (432 + j) (s (432 + (j + 1)))) sm fm := by
      rw [f_X12_oneComes_11, ixq 637 632 (by decide), show s (632 : Int32).toNatClampNeg = nI m by rw [← h632]; exact hI.1 632 (by omega), if_neg (nI_ge (by omega) (by omega)), show (432 : Int32) + nI (1 + j) = nI (432 + j + 1) by rw [show 432 + j + 1 = 432 + (1 + j) by omega]; exact la 432 (1 + j), nI_pred, ixn (by omega) (by decide), ixn (by omega) (by decide), nI_clamp (by omega), nI_clamp (by omega), nI_1]
      rfl
    show ∃ (F' : Nat) (now' : Nat → Int32), f_X12_oneComes_11 clauses codes clauseOf cf ch ct' (F + 1) x (nI (1 + j)) sn ls cn s sm fm = _ ∧ _
    rw [e]
    refine ih _ ⟨fun k hk => ?_, fun k hk => ?_⟩
    · rw [upd_n (by omega)]; exact hI.1 k (by omega)
    · by_cases z : k = j
      · rw [z, upd_s]; exact hI.1 _ (by omega)
      · rw [upd_n (by omega)]; exact hI.2 k (by omega)
end
