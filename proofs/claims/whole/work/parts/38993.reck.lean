/-! the law's steps in both -/
def fmap (a : Nat) : Nat := ([0, 1, 2, 3, 4, 10, 11, 5, 6, 7, 8, 9] : List Nat).getD a 0
def FR (fx fm : Nat → Int32) : Prop := ∀ a : Nat, a < 12 → fx a = fm (fmap a)
theorem fmap_lt : ∀ a : Nat, a < 12 → fmap a < 12 := by decide
def ptr (t : Nat) : Nat := if t = 100 then 1 else t
theorem dvz {α : Type} {y : Int32} (h : ¬ y = 0) (k : Option α) : dv y k = k := by unfold dv; rw [if_neg h]
theorem two2 {o : Nat} (h5 : 5 ≤ o) (h12 : o ≤ 12) (x y : Int32) (hy : (o = 8 ∨ o = 9) → ¬ y = 0) : ∃ r, f_X2_ofTwo (nI o) x y = some r ∧ f_X12_reckon (nI (o - 3)) x y = some r ∧ (10 ≤ o → r = 0 ∨ r = 1) := by
  unfold f_X2_ofTwo f_X12_reckon
  have e : o = 5 ∨ o = 6 ∨ o = 7 ∨ o = 8 ∨ o = 9 ∨ o = 10 ∨ o = 11 ∨ o = 12 := by omega
  rcases e with rfl | rfl | rfl | rfl | rfl | rfl | rfl | rfl
  · exact ⟨_, rfl, rfl, fun h => by omega⟩
  · exact ⟨_, rfl, rfl, fun h => by omega⟩
  · exact ⟨_, rfl, rfl, fun h => by omega⟩
  · have hy := hy (Or.inl rfl)
    rw [if_neg hy, dvz hy]
    exact ⟨_, rfl, rfl, fun h => by omega⟩
  · have hy := hy (Or.inr rfl)
    rw [if_neg hy, if_neg hy, dvz hy, dvz hy]
    exact ⟨_, rfl, rfl, fun h => by omega⟩
  · by_cases c : y ≤ x
    · rw [if_pos c]; exact ⟨0, rfl, rfl, fun _ => Or.inl rfl⟩
    · rw [if_neg c]; exact ⟨1, rfl, rfl, fun _ => Or.inr rfl⟩
  · by_cases c : x ≤ y
    · rw [if_pos c]; exact ⟨0, rfl, rfl, fun _ => Or.inl rfl⟩
    · rw [if_neg c]; exact ⟨1, rfl, rfl, fun _ => Or.inr rfl⟩
  · by_cases c : x = y
    · rw [if_pos c]; exact ⟨1, rfl, rfl, fun _ => Or.inr rfl⟩
    · rw [if_neg c]; exact ⟨0, rfl, rfl, fun _ => Or.inl rfl⟩
theorem opD {d v cd : Int32} (h : opR d v cd) : ∃ o q a b : Nat, d = nI o ∧ v = nI a ∧ cd / 1048576 = nI q ∧ jrem cd 1048576 = nI b ∧ b < 1048576 ∧ o ≤ 12 ∧
    ((o = 0 ∧ q = 0 ∧ a = b) ∨ (o = 1 ∧ q = 1 ∧ a < 12 ∧ b = fmap a) ∨ (o = 2 ∧ q = 10) ∨ (o = 3 ∧ q = 11 ∧ a = b) ∨ (o = 4 ∧ q = 12 ∧ a = b) ∨ (5 ≤ o ∧ q = o - 3)) := by
  obtain ⟨o, q, a, b, h1, h2, h3, h4, h5⟩ := h
  have ho : o ≤ 12 ∧ q ≤ 12 := by
    rcases h5 with h | h | h | h | h | h <;> omega
  refine ⟨o, q, a, b, h1, h2, ?_, ?_, h4, ho.1, ?_⟩
  · rw [h3, show nI (1048576 * q + b) / 1048576 = nI ((1048576 * q + b) / 1048576) from dv_eq (by omega) (by decide) (by decide)]
    congr 1
    omega
  · rw [h3, show jrem (nI (1048576 * q + b)) 1048576 = nI ((1048576 * q + b) % 1048576) from rm_eq (by omega) (by decide) (by decide)]
    congr 1
    omega
  · rcases h5 with ⟨a1, a2, a3, _⟩ | ⟨a1, a2, a3, a4⟩ | h | h | h | ⟨a1, a2, a3⟩
    · exact Or.inl ⟨a1, a2, a3⟩
    · exact Or.inr (Or.inl ⟨a1, a2, a3, a4⟩)
    · exact Or.inr (Or.inr (Or.inl h))
    · exact Or.inr (Or.inr (Or.inr (Or.inl h)))
    · exact Or.inr (Or.inr (Or.inr (Or.inr (Or.inl h))))
    · exact Or.inr (Or.inr (Or.inr (Or.inr (Or.inr ⟨a1, a3⟩))))
theorem nn (a b : Nat) (ha : a < 1000) (hb : b < 1000) : (nI a = nI b) = (a = b) := propext (nI_eq (by omega) (by omega))
theorem ne {q c : Nat} (h : q < 1000) (hc : c < 1000) (hne : q ≠ c) : ¬ nI q = nI c := fun z => hne (nI_inj (by omega) (by omega) z)
set_option maxHeartbeats 1000000 in
theorem rek {deeds values codes fx fm : Nat → Int32} {t : Nat → Nat} {a e : Nat} (he : e ≤ 240) (hw : wtR deeds values t a e) (ho : ∀ k : Nat, a ≤ k → k < e → opR (deeds k) (values k) (codes k)) (hf : FR fx fm) (hte : t e = 1 ∨ t e = 100) :
    ∀ (m k c F F' : Nat) (xs ms : Nat → Int32), e - k ≤ m → m < F → m < F' → a ≤ k → k ≤ e → c ≤ k → (t k = 100 ∨ t k ≤ 32) → (∀ i : Nat, i < ptr (t k) → xs i = ms i) → (t k = 100 → xs 0 = 0 ∨ xs 0 = 1) →
      T2 (f_X2_reckon_9 deeds values fx F (nI e) (nI (ptr (t k))) (nI k) (nI c) xs) (f_X12_comesTo_16 codes fm F' (nI e) (nI (ptr (t k))) 0 (nI k) ms) (fun x y => x.1 = y.1 ∧ (t e = 100 → x.1 = 0 ∨ x.1 = 1)) := by
  have fin : ∀ (xs ms : Nat → Int32), (∀ i : Nat, i < ptr (t e) → xs i = ms i) → (t e = 100 → xs 0 = 0 ∨ xs 0 = 1) → T2 (f_X2_reckon_279 deeds values fx (nI (ptr (t e))) xs) (ix 260 0 (some (ms (0 : Int32).toNatClampNeg, ms))) (fun x y => x.1 = y.1 ∧ (t e = 100 → x.1 = 0 ∨ x.1 = 1)) := by
    intro xs ms h1 h2
    have p1 : ptr (t e) = 1 := by rcases hte with h | h <;> (rw [h]; rfl)
    rw [p1] at h1 ⊢
    unfold f_X2_reckon_279
    rw [if_neg (show ¬ nI 1 ≤ 0 by decide), show nI 1 - 1 = nI 0 from rfl, ixn (by decide) (by decide), show ∀ o : Option (Int32 × (Nat → Int32)), ix 260 0 o = o from fun o => ixn (j := 0) (by decide) (by decide)]
    exact T2.ret ⟨h1 0 (by decide), h2⟩
  intro m
  induction m with
  | zero =>
    intro k c F F' xs ms hm hF hF' hak hke hck htk hs hb
    obtain ⟨F, rfl⟩ : ∃ G, F = G + 1 := ⟨F - 1, by omega⟩
    obtain ⟨F', rfl⟩ : ∃ G, F' = G + 1 := ⟨F' - 1, by omega⟩
    obtain rfl : k = e := by omega
    rw [f_X2_reckon_9, f_X12_comesTo_16, if_pos (nI_le (Nat.le_refl _) (by omega)), if_pos (nI_le (Nat.le_refl _) (by omega))]
    have := fin xs ms hs hb
    by_cases z : (240 : Int32) ≤ nI c
    · rw [if_pos z]; exact this
    · rw [if_neg z]; exact this
  | succ m ih =>
    intro k c F F' xs ms hm hF hF' hak hke hck htk hs hb
    obtain ⟨F, rfl⟩ : ∃ G, F = G + 1 := ⟨F - 1, by omega⟩
    obtain ⟨F', rfl⟩ : ∃ G, F' = G + 1 := ⟨F' - 1, by omega⟩
    by_cases hk : k = e
    · subst hk
      rw [f_X2_reckon_9, f_X12_comesTo_16, if_pos (nI_le (Nat.le_refl _) (by omega)), if_pos (nI_le (Nat.le_refl _) (by omega))]
      have := fin xs ms hs hb
      by_cases z : (240 : Int32) ≤ nI c
      · rw [if_pos z]; exact this
      · rw [if_neg z]; exact this
    · have hke' : k < e := by omega
      obtain ⟨o, q, va, vb, d1, d2, d3, d4, d7, d5, d6⟩ := opD (ho k hak hke')
      have q12 : q ≤ 12 := by
        rcases d6 with h | h | h | h | h | h <;> omega
      rw [f_X2_reckon_9, f_X12_comesTo_16, if_neg (show ¬ (240 : Int32) ≤ nI c from nI_ge (b := 240) (by omega) (by decide)), if_neg (nI_ge hke' (by omega)), if_neg (nI_ge hke' (by omega)), if_neg (show ¬ (240 : Int32) ≤ nI k from nI_ge (b := 240) (by omega) (by decide)), ixn (by omega) (by decide), ixn (by omega) (by decide), ixn (by omega) (by decide), ixn (by omega) (by decide), nI_clamp (by omega), d1, d2, d3, d4, nI_1]
      have hstep := hw k hak hke'
      have ihk := ih (k + 1) (c + 1) F F'
      rcases hstep with ⟨h1, h2, h3⟩ | ⟨h1, h2, h3⟩ | ⟨h1, h2, h3, v, h4, h5, h6, h7⟩ | ⟨⟨o', h1, h1', h1''⟩, h2, h3, h4⟩ | ⟨⟨o', h1, h1', h1''⟩, h2, h3⟩
      · -- a number or a fact
        have p1 : ptr (t k) = t k := by unfold ptr; rw [if_neg (by omega)]
        have p2 : ptr (t (k + 1)) = t k + 1 := by unfold ptr; rw [h3, if_neg (by omega)]
        have push : ∀ val : Int32, T2 (f_X2_reckon_112 deeds values fx (f_X2_reckon_9 deeds values fx F) (nI e) (nI (t k)) (nI (k + 1)) (nI c) (nI (t k)) val xs) (f_X12_comesTo_85 codes fm (f_X12_comesTo_16 codes fm F') (nI e) (nI (t k)) 0 (nI (k + 1)) (nI (t k)) val ms) (fun x y => x.1 = y.1 ∧ (t e = 100 → x.1 = 0 ∨ x.1 = 1)) := by
          intro val
          unfold f_X2_reckon_112 f_X12_comesTo_85
          rw [ixn h2 (by decide), ixn (by omega) (by decide), nI_clamp (by omega), nI_1, nI_1, ← p2]
          refine ihk _ _ (by omega) (by omega) (by omega) (by omega) (by omega) (by omega) (by omega) (fun i hi => ?_) (fun z => by omega)
          rw [p2] at hi
          by_cases y : i = t k
          · rw [y, upd_s, upd_s]
          · rw [upd_n y, upd_n y]; exact hs i (by omega)
        rw [p1]
        rw [d1] at h1
        have o01 : o = 0 ∨ o = 1 := by
          rcases h1 with h1 | h1
          · exact Or.inl (nI_inj (by omega) (by decide) (show nI o = nI 0 from h1))
          · exact Or.inr (nI_inj (by omega) (by decide) (show nI o = nI 1 from h1))
        unfold f_X2_reckon_63 f_X2_reckon_91 f_X12_comesTo_63
        rcases d6 with ⟨a1, a2, a3⟩ | ⟨a1, a2, a3, a4⟩ | h | h | h | h
        · rw [a1, a2, if_pos (show nI 0 = 0 from rfl), if_pos (show nI 0 = 0 from rfl), if_neg (show ¬ (32 : Int32) ≤ nI (t k) from nI_ge (b := 32) h2 (by decide)), if_neg (show ¬ nI 0 = 1 by decide), if_neg (show ¬ nI 0 = 1 by decide), if_pos (show nI 0 = 0 from rfl), a3]
          exact push _
        · rw [a1, a2, if_neg (show ¬ nI 1 = 0 by decide), if_pos (show nI 1 = 1 from rfl), if_neg (show ¬ (32 : Int32) ≤ nI (t k) from nI_ge (b := 32) h2 (by decide)), if_pos (show nI 1 = 1 from rfl), show (12 : Int32) - 1 = nI 11 from rfl, (wi1 (n := 11) (j := va) (by omega) (by decide)).1, bs, if_neg i10, if_pos (show nI 1 = 1 from rfl), ixn a3 (by decide), nI_clamp (by omega), if_neg (show ¬ nI 1 = 0 by decide), if_pos (show nI 1 = 1 from rfl), if_neg (show ¬ nI 1 = 0 by decide), ixn (show vb < 12 by rw [a4]; exact fmap_lt va a3) (by decide), nI_clamp (show vb < 2 ^ 31 by have := fmap_lt va a3; omega), a4, ← hf va a3]
          exact push _
        · omega
        · omega
        · omega
        · omega
      · -- not
        have p1 : ptr (t k) = 1 := by unfold ptr; rw [h2, if_pos rfl]
        have p2 : ptr (t (k + 1)) = 1 := by unfold ptr; rw [h3, if_pos rfl]
        rw [d1] at h1
        have o2 : o = 2 := nI_inj (by omega) (by decide) (show nI o = nI 2 from h1)
        have q10 : q = 10 := by rcases d6 with h | h | h | h | h | h <;> omega
        rw [p1] at hs ⊢
        rw [o2, q10, if_neg (show ¬ nI 2 = 0 by decide), if_neg (show ¬ nI 2 = 1 by decide), if_pos (show nI 2 < 5 by decide), if_pos (show (1 : Int32) ≤ nI 1 by decide), if_pos (show nI 2 = 2 from rfl), show nI 1 - 1 = nI 0 from rfl, ixn (by decide) (by decide), ixn (by decide) (by decide), if_neg (show ¬ nI 10 = 0 by decide), if_neg (show ¬ nI 10 = 1 by decide), if_pos (show nI 10 = 10 from rfl), ixn (by decide) (by decide), ixn (by decide) (by decide), show (nI 0).toNatClampNeg = 0 from rfl, nI_1, show nI 1 = nI (ptr (t (k + 1))) by rw [p2]]
        refine ihk _ _ (by omega) (by omega) (by omega) (by omega) (by omega) (by omega) (Or.inl h3) (fun i hi => ?_) (fun _ => ?_)
        · rw [p2] at hi
          rw [show i = 0 by omega, upd_s, upd_s, hs 0 (by decide)]
        · rw [upd_s]
          rcases hb h2 with y | y
          · rw [y]; exact Or.inr rfl
          · rw [y]; exact Or.inl rfl
      · -- a leap
        have p1 : ptr (t k) = 1 := by unfold ptr; rw [h2, if_pos rfl]
        have p2 : ptr (t (k + 1)) = 0 := by unfold ptr; rw [h3]; rfl
        have p3 : ptr (t v) = 1 := by unfold ptr; rw [h7, if_pos rfl]
        have hbt := hb h2
        rw [p1] at hs ⊢
        rw [d1] at h1
        have o34 : (o = 3 ∧ q = 11 ∧ va = vb) ∨ (o = 4 ∧ q = 12 ∧ va = vb) := by
          have : o = 3 ∨ o = 4 := by
            rcases h1 with h1 | h1
            · exact Or.inl (nI_inj (by omega) (by decide) (show nI o = nI 3 from h1))
            · exact Or.inr (nI_inj (by omega) (by decide) (show nI o = nI 4 from h1))
          rcases d6 with h | h | h | h | h | h <;> omega
        have hv : va = v := by
          rw [d2] at h4
          exact nI_inj (by rcases o34 with h | h <;> omega) (by omega) h4
        have go : ∀ (y0 : Int32), (xs 0 = 0 → y0 = 0) → (xs 0 = 1 → y0 = 1) → ∀ y1 : Int32, T2 (f_X2_reckon_260 deeds values fx (f_X2_reckon_9 deeds values fx F) (nI e) (nI 1) (nI (k + 1)) (nI c) (nI va) y0 y1 xs) (f_X12_comesTo_155 codes fm (f_X12_comesTo_16 codes fm F') (nI e) (nI 1) 0 (nI (k + 1)) (nI vb) (ms 0) y1 ms) (fun x y => x.1 = y.1 ∧ (t e = 100 → x.1 = 0 ∨ x.1 = 1)) := by
          intro y0 z0 z1 y1
          have e0 : y0 = ms 0 := by
            rw [← hs 0 (by decide)]
            rcases hbt with y | y
            · rw [z0 y, y]
            · rw [z1 y, y]
          unfold f_X2_reckon_260 f_X12_comesTo_155
          rw [e0, nI_1]
          by_cases y : ms 0 = y1
          · rw [if_pos y, if_pos y, Int32.zero_add, show vb = v by rcases o34 with h | h <;> omega, hv, show nI 1 = nI (ptr (t v)) by rw [p3]]
            exact ih v (c + 1) F F' xs ms (by omega) (by omega) (by omega) (by omega) h6 (by omega) (Or.inl h7) (fun i hi => hs i (by rw [p3] at hi; exact hi)) (fun _ => hbt)
          · rw [if_neg y, if_neg y, show nI 1 + (-1) = nI (ptr (t (k + 1))) by rw [p2]; rfl, show nI 1 - 1 = nI (ptr (t (k + 1))) by rw [p2]; rfl]
            exact ihk xs ms (by omega) (by omega) (by omega) (by omega) (by omega) (by omega) (by omega) (fun i hi => by rw [p2] at hi; omega) (fun z => by omega)
        have top : ∀ (x7 : Int32), T2 (if xs 0 = 0 then f_X2_reckon_249 deeds values fx (f_X2_reckon_9 deeds values fx F) (nI e) (nI 1) (nI (k + 1)) (nI c) x7 (nI va) 0 xs else f_X2_reckon_249 deeds values fx (f_X2_reckon_9 deeds values fx F) (nI e) (nI 1) (nI (k + 1)) (nI c) x7 (nI va) 1 xs) (if x7 = 4 then f_X12_comesTo_155 codes fm (f_X12_comesTo_16 codes fm F') (nI e) (nI 1) 0 (nI (k + 1)) (nI vb) (ms 0) 1 ms else f_X12_comesTo_155 codes fm (f_X12_comesTo_16 codes fm F') (nI e) (nI 1) 0 (nI (k + 1)) (nI vb) (ms 0) 0 ms) (fun x y => x.1 = y.1 ∧ (t e = 100 → x.1 = 0 ∨ x.1 = 1)) := by
          intro x7
          unfold f_X2_reckon_249
          by_cases y : xs 0 = 0
          · rw [if_pos y]
            by_cases y4 : x7 = 4
            · rw [if_pos y4, if_pos y4]; exact go 0 (fun _ => rfl) (fun z => by rw [y] at z; exact absurd z (by decide)) 1
            · rw [if_neg y4, if_neg y4]; exact go 0 (fun _ => rfl) (fun z => by rw [y] at z; exact absurd z (by decide)) 0
          · rw [if_neg y]
            by_cases y4 : x7 = 4
            · rw [if_pos y4, if_pos y4]; exact go 1 (fun z => absurd z y) (fun _ => rfl) 1
            · rw [if_neg y4, if_neg y4]; exact go 1 (fun z => absurd z y) (fun _ => rfl) 0
        rcases o34 with ⟨a1, a2, a3⟩ | ⟨a1, a2, a3⟩
        · rw [a1, a2, if_neg (show ¬ nI 3 = 0 by decide), if_neg (show ¬ nI 3 = 1 by decide), if_pos (show nI 3 < 5 by decide), if_pos (show (1 : Int32) ≤ nI 1 by decide), if_neg (show ¬ nI 3 = 2 by decide), show nI 1 - 1 = nI 0 from rfl, ixn (by decide) (by decide), if_neg (show ¬ nI 11 = 0 by decide), if_neg (show ¬ nI 11 = 1 by decide), if_neg (show ¬ nI 11 = 10 by decide), if_pos (show nI 11 = 11 from rfl)]
          unfold f_X12_comesTo_135
          rw [show nI 1 - 1 = nI 0 from rfl, ixn (by decide) (by decide), if_neg (show ¬ nI 11 = 12 by decide)]
          exact top (nI 3)
        · rw [a1, a2, if_neg (show ¬ nI 4 = 0 by decide), if_neg (show ¬ nI 4 = 1 by decide), if_pos (show nI 4 < 5 by decide), if_pos (show (1 : Int32) ≤ nI 1 by decide), if_neg (show ¬ nI 4 = 2 by decide), show nI 1 - 1 = nI 0 from rfl, ixn (by decide) (by decide), if_neg (show ¬ nI 12 = 0 by decide), if_neg (show ¬ nI 12 = 1 by decide), if_neg (show ¬ nI 12 = 10 by decide), if_neg (show ¬ nI 12 = 11 by decide), if_pos (show nI 12 = 12 from rfl)]
          unfold f_X12_comesTo_135
          rw [show nI 1 - 1 = nI 0 from rfl, ixn (by decide) (by decide), if_pos (show nI 12 = 12 from rfl)]
          exact top (nI 4)
      all_goals
        rw [d1] at h1''
        have oo : o = o' := nI_inj (by omega) (by omega) h1''
        subst oo
        have qo : q = o - 3 := by rcases d6 with h | h | h | h | h | h <;> omega
        have ex2 : ∃ p : Nat, ptr (t k) = p + 2 ∧ p + 2 ≤ 32 ∧ ptr (t (k + 1)) = p + 1 ∧ (t (k + 1) = 100 ∨ t (k + 1) ≤ 32) ∧ (t (k + 1) = 100 → 10 ≤ o ∧ p = 0) := by
          unfold ptr
          first
            | exact ⟨t k - 2, by rw [if_neg (by omega)]; omega, by omega, by rw [if_neg (by omega)]; omega, by omega, fun z => by omega⟩
            | exact ⟨0, by rw [h2, if_neg (by decide)], by omega, by rw [h3, if_pos rfl], Or.inl h3, fun _ => ⟨h1, rfl⟩⟩
        obtain ⟨p, p1, p32, p2, p3, p4⟩ := ex2
        rw [p1] at hs ⊢
        have s1 := hs (p + 1) (by omega)
        have s0 := hs p (by omega)
        have good : (¬ ((o = 8 ∨ o = 9) ∧ xs (p + 1) = 0)) → T2 (f_X2_reckon_159 deeds values fx (f_X2_reckon_9 deeds values fx F) (nI e) (nI (p + 2)) (nI (k + 1)) (nI c) (nI o) xs) (f_X12_comesTo_203 codes fm (f_X12_comesTo_16 codes fm F') (nI e) (nI (p + 1)) 0 (nI (k + 1)) (nI (o - 3)) ms) (fun x y => x.1 = y.1 ∧ (t e = 100 → x.1 = 0 ∨ x.1 = 1)) := by
          intro hg
          obtain ⟨r, r1, r2, r3⟩ := two2 (o := o) (by omega) (by omega) (xs p) (xs (p + 1)) (fun h8 h0 => hg ⟨h8, h0⟩)
          unfold f_X2_reckon_159 f_X12_comesTo_203
          rw [show nI (p + 2) + (-1) = nI (p + 1) from pk_m1 (p + 1), show nI (p + 1) - 1 = nI p from nI_pred p, ixn (by omega) (by decide), ixn (by omega) (by decide), ixn (by omega) (by decide), ixn (by omega) (by decide), nI_clamp (by omega), nI_clamp (by omega), ← s0, ← s1, r1, r2, bs, bs, ixn (by omega) (by decide), ixn (by omega) (by decide), nI_1, ← p2]
          refine ihk _ _ (by omega) (by omega) (by omega) (by omega) (by omega) (by omega) p3 (fun i hi => ?_) (fun z => ?_)
          · rw [p2] at hi
            by_cases y : i = p
            · rw [y, upd_s, upd_s]
            · rw [upd_n y, upd_n y]; exact hs i (by omega)
          · have := p4 z
            rw [this.2, upd_s]
            exact r3 this.1
        rw [qo, if_neg (show ¬ nI o = 0 from ne (c := 0) (by omega) (by decide) (by omega)), if_neg (show ¬ nI o = 1 from ne (c := 1) (by omega) (by decide) (by omega)), if_neg (show ¬ nI o < 5 from nI_nlt (b := 5) (by omega) (by omega)), if_neg (show ¬ nI (p + 2) < 2 from nI_nlt (b := 2) (by omega) (by omega)), show nI (p + 2) - 1 = nI (p + 1) from nI_pred (p + 1), ixn (by omega) (by decide), nI_clamp (by omega), if_neg (show ¬ nI (o - 3) = 0 from ne (c := 0) (by omega) (by decide) (by omega)), if_neg (show ¬ nI (o - 3) = 1 from ne (c := 1) (by omega) (by decide) (by omega)), if_neg (show ¬ nI (o - 3) = 10 from ne (c := 10) (by omega) (by decide) (by omega)), if_neg (show ¬ nI (o - 3) = 11 from ne (c := 11) (by omega) (by decide) (by omega)), if_neg (show ¬ nI (o - 3) = 12 from ne (c := 12) (by omega) (by decide) (by omega))]
        unfold f_X12_comesTo_192
        rw [ixn (show p + 1 < 260 by omega) (by decide), nI_clamp (by omega), ← s1]
        by_cases h8 : o = 8
        · rw [h8] at good ⊢
          rw [if_pos (show nI (8 - 3) = 5 from rfl), if_pos (show nI 8 = 8 from rfl)]
          by_cases z : xs (p + 1) = 0
          · rw [if_pos z, if_pos z]; exact T2.ret ⟨rfl, fun _ => Or.inl rfl⟩
          · rw [if_neg z, if_neg z]; exact good (fun y => z y.2)
        · by_cases h9 : o = 9
          · rw [h9] at good ⊢
            rw [if_neg (show ¬ nI (9 - 3) = 5 by decide), if_pos (show nI (9 - 3) = 6 from rfl), if_neg (show ¬ nI 9 = 8 by decide), if_pos (show nI 9 = 9 from rfl)]
            by_cases z : xs (p + 1) = 0
            · rw [if_pos z, if_pos z]; exact T2.ret ⟨rfl, fun _ => Or.inl rfl⟩
            · rw [if_neg z, if_neg z]; exact good (fun y => z y.2)
          · rw [if_neg (show ¬ nI (o - 3) = 5 from ne (c := 5) (by omega) (by decide) (by omega)), if_neg (show ¬ nI (o - 3) = 6 from ne (c := 6) (by omega) (by decide) (by omega)), if_neg (show ¬ nI o = 8 from ne (c := 8) (by omega) (by decide) h8), if_neg (show ¬ nI o = 9 from ne (c := 9) (by omega) (by decide) h9)]
            have gg := good (fun y => by omega)
            by_cases z : xs (p + 1) = 0
            · rw [if_pos z]; exact gg
            · rw [if_neg z]; exact gg
