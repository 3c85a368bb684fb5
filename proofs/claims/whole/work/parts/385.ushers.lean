/-! ushers, hats -/
theorem fo_rel {σ τ : Type} (R : Nat → σ → τ → Prop) {f : Nat → σ → σ} {g : Nat → τ → τ} {s : σ} {t : τ} (h0 : R 0 s t) : ∀ {n : Nat}, (∀ i : Nat, i < n → ∀ s t, R i s t → R (i + 1) (f i s) (g i t)) → R n (fo f n s) (fo g n t)
  | 0, _ => h0
  | n + 1, h => h n (by omega) _ _ (fo_rel R h0 (fun i hi => h i (by omega)))
theorem mxe (x y : Int32) : f_X12_max x y = some (if x < y then y else x) := by
  unfold f_X12_max
  by_cases h : x < y
  · rw [if_pos h, if_pos (Int32.le_of_lt h)]
  · rw [if_neg h]
    by_cases q : x ≤ y
    · rw [if_pos q, Int32.le_antisymm q (Int32.not_lt.mp h)]
    · rw [if_neg q]
/-- the first of those free at the soonest, among the first k and the next -/
def ffl (a : Nat → Int32) : Nat → Nat
  | 0 => 0
  | k + 1 => if a (ffl a k) ≤ a (k + 1) then ffl a k else k + 1
theorem ffl_le (a : Nat → Int32) : ∀ k, ffl a k ≤ k
  | 0 => Nat.le_refl _
  | k + 1 => by
    have := ffl_le a k
    show (if a (ffl a k) ≤ a (k + 1) then ffl a k else k + 1) ≤ k + 1
    split <;> omega
theorem ffl_cong {a b : Nat → Int32} : ∀ {k : Nat}, (∀ j : Nat, j ≤ k → a j = b j) → ffl a k = ffl b k
  | 0, _ => rfl
  | k + 1, h => by
    show (if a (ffl a k) ≤ a (k + 1) then ffl a k else k + 1) = (if b (ffl b k) ≤ b (k + 1) then ffl b k else k + 1)
    have := ffl_le b k
    rw [ffl_cong (fun j hj => h j (by omega)), h (k + 1) (by omega), h (ffl b k) (by omega)]
theorem ffX (a : Nat → Int32) {m : Nat} (h1 : 1 ≤ m) (h8 : m ≤ 8) : f_X7_firstFree a (nI m) = some (nI (ffl a (m - 1))) := by
  unfold f_X7_firstFree
  have e : m - 1 + 1 = m := by omega
  refine loop1 (m - 1) (fun _ (_ : Unit) => True) (fun F i _ => f_X7_firstFree_4 a F (nI m) (nI (ffl a i)) (nI (i + 1))) (fun o => o = _) ?_ ?_ (m - 1) 0 () FU (by omega) (by unfold FU; omega) trivial
  · intro F _ _
    show f_X7_firstFree_4 a (F + 1) (nI m) _ (nI (m - 1 + 1)) = _
    rw [f_X7_firstFree_4, e, if_pos (nI_le (Nat.le_refl _) (by omega))]
  · intro F i _ hi _ ih
    have ih := ih () trivial
    have := ffl_le a i
    show f_X7_firstFree_4 a (F + 1) (nI m) (nI (ffl a i)) (nI (i + 1)) = _
    rw [f_X7_firstFree_4, if_neg (nI_ge (by omega) (by omega)), if_neg (show ¬ (8 : Int32) ≤ nI (i + 1) from nI_ge (b := 8) (by omega) (by decide)), ixn (by omega) (by decide), ixn (by omega) (by decide), nI_clamp (by omega), nI_clamp (by omega), nI_1]
    by_cases c : a (ffl a i) ≤ a (i + 1)
    · rw [if_pos c]
      rw [show ffl a (i + 1) = ffl a i from if_pos c] at ih
      exact ih
    · rw [if_neg c]
      rw [show ffl a (i + 1) = i + 1 from if_neg c] at ih
      exact ih
theorem ffM (tape : Nat → Int32) (K : Int32 → Int32 → Int32 → Int32 → Int32 → Int32 → (Nat → Int32) → (Nat → Int32) → Option (Int32 × Int32 × (Nat → Int32) × (Nat → Int32))) (a b : Nat → Int32) {m i : Nat} (h1 : 1 ≤ m) (h8 : m ≤ 8) (hi : i < 20) (n x3 x4 : Int32) {v : Int32} (hv : f_X12_octet tape (nI i) = some v) :
    f_X12_ushers_94 tape K FU n (nI m) x3 x4 (nI i) 0 1 0 a b = K n (nI m) x3 (if x4 < a (ffl a (m - 1)) + v then a (ffl a (m - 1)) + v else x4) (nI (i + 1)) 0 (upd a (ffl a (m - 1)) (a (ffl a (m - 1)) + v)) (upd b i (a (ffl a (m - 1)))) := by
  have e : m - 1 + 1 = m := by omega
  refine loop1 (m - 1) (fun _ (_ : Unit) => True) (fun F q _ => f_X12_ushers_94 tape K F n (nI m) x3 x4 (nI i) (nI (ffl a q)) (nI (q + 1)) 0 a b) (fun o => o = _) ?_ ?_ (m - 1) 0 () FU (by omega) (by unfold FU; omega) trivial
  · intro F _ _
    have := ffl_le a (m - 1)
    show f_X12_ushers_94 tape K (F + 1) n (nI m) x3 x4 (nI i) (nI (ffl a (m - 1))) (nI (m - 1 + 1)) 0 a b = _
    rw [f_X12_ushers_94, e, if_pos (nI_le (Nat.le_refl _) (by omega)), ixn (by omega) (by decide), ixn (by omega) (by decide), ixn (by omega) (by decide), hv, bs, ixn (by omega) (by decide), ixn (by omega) (by decide), nI_clamp (by omega), nI_clamp (by omega), mxe, bs, upd_s, nI_1]
  · intro F q _ hq _ ih
    have ih := ih () trivial
    have := ffl_le a q
    show f_X12_ushers_94 tape K (F + 1) n (nI m) x3 x4 (nI i) (nI (ffl a q)) (nI (q + 1)) 0 a b = _
    rw [f_X12_ushers_94, if_neg (nI_ge (by omega) (by omega)), ixn (by omega) (by decide), ixn (by omega) (by decide), nI_clamp (by omega), nI_clamp (by omega), nI_1]
    by_cases c : a (ffl a q) ≤ a (q + 1)
    · rw [if_pos c]
      rw [show ffl a (q + 1) = ffl a q from if_pos c] at ih
      exact ih
    · rw [if_neg c]
      rw [show ffl a (q + 1) = q + 1 from if_neg c] at ih
      exact ih
def uS (w : Nat → Int32) (m : Nat) : Nat → Int32 × (Nat → Int32) × (Nat → Int32) → Int32 × (Nat → Int32) × (Nat → Int32) := fun i s =>
  (if s.1 < s.2.1 (ffl s.2.1 (m - 1)) + w i then s.2.1 (ffl s.2.1 (m - 1)) + w i else s.1, upd s.2.1 (ffl s.2.1 (m - 1)) (s.2.1 (ffl s.2.1 (m - 1)) + w i), upd s.2.2 i (s.2.1 (ffl s.2.1 (m - 1))))
def uO (x3 : Int32) (s : Int32 × (Nat → Int32) × (Nat → Int32)) : Option (Int32 × Int32 × (Nat → Int32) × (Nat → Int32)) := if x3 = 100 then some (s.1, 0, s.2.1, s.2.2) else ix 20 x3 (some (s.2.2 x3.toNatClampNeg, 0, s.2.1, s.2.2))
theorem usM {tape w : Nat → Int32} {n m : Nat} (hn : n ≤ 20) (h1 : 1 ≤ m) (h8 : m ≤ 8) (hw : ∀ i : Nat, i < n → f_X12_octet tape (nI i) = some (w i)) (x3 : Int32) (a b : Nat → Int32) :
    f_X12_ushers_82 tape FU (nI n) (nI m) x3 0 0 0 a b = uO x3 (fo (uS w m) n (0, a, b)) := by
  refine fl n (uS w m) (fun F i s => f_X12_ushers_82 tape F (nI n) (nI m) x3 s.1 (nI i) 0 s.2.1 s.2.2) (uO x3) ?_ ?_ (0, a, b) (show n < FU by unfold FU; omega)
  · intro F s
    show f_X12_ushers_82 tape (F + 1) (nI n) (nI m) x3 s.1 (nI n) 0 s.2.1 s.2.2 = _
    rw [f_X12_ushers_82, if_pos (nI_le (Nat.le_refl _) (by omega)), uO]
  · intro F i s hi
    show f_X12_ushers_82 tape (F + 1) (nI n) (nI m) x3 s.1 (nI i) 0 s.2.1 s.2.2 = _
    rw [f_X12_ushers_82, if_neg (nI_ge (by omega) (by omega)), ffM tape _ _ _ h1 h8 (by omega) _ _ _ (hw i hi)]
    rfl
theorem usX {bt w : Nat → Int32} {L : Int32} {n m : Nat} (hn : n ≤ 20) (h1 : 1 ≤ m) (h8 : m ≤ 8) (hw : ∀ i : Nat, i < n → f_X8_byteAt L bt (nI i) = some (w i)) (x3 : Int32) (a a' b : Nat → Int32) (ha : ∀ k : Nat, k < 8 → a k = a' k) {j : Nat} (hj : j ≤ n) (hx : ∀ i : Nat, i < j → ¬ nI i = x3) (hxj : j < n → x3 = nI j) :
    ∃ r, f_X7_leadInRow_14 L bt FU (nI n) (nI m) x3 0 0 a = some r ∧ r.1 = if j < n then (fo (uS w m) j (0, a', b)).2.1 (ffl (fo (uS w m) j (0, a', b)).2.1 (m - 1)) else (fo (uS w m) j (0, a', b)).1 := by
  refine loop1 j (fun i (s : Int32 × (Nat → Int32)) => s.1 = (fo (uS w m) i (0, a', b)).1 ∧ ∀ k : Nat, k < 8 → s.2 k = (fo (uS w m) i (0, a', b)).2.1 k) (fun F i s => f_X7_leadInRow_14 L bt F (nI n) (nI m) x3 s.1 (nI i) s.2) (fun o => ∃ r, o = some r ∧ r.1 = _) ?_ ?_ j 0 (0, a) FU (by omega) (by unfold FU; omega) ⟨rfl, ha⟩
  · intro F s hI
    show ∃ r, f_X7_leadInRow_14 L bt (F + 1) (nI n) (nI m) x3 s.1 (nI j) s.2 = some r ∧ _
    rw [f_X7_leadInRow_14]
    by_cases c : j < n
    · have f8 := ffl_le s.2 (m - 1)
      rw [if_neg (nI_ge c (by omega)), ffX _ h1 h8, bs, if_pos (hxj c).symm, ixn (by omega) (by decide), nI_clamp (by omega)]
      refine ⟨_, rfl, ?_⟩
      show s.2 _ = _
      rw [if_pos c, ffl_cong (fun k hk => hI.2 k (by omega)), hI.2 _ (by have := ffl_le (fo (uS w m) j (0, a', b)).2.1 (m - 1); omega)]
    · rw [if_pos (nI_le (by omega) (by omega))]
      exact ⟨_, rfl, by rw [if_neg c]; exact hI.1⟩
  · intro F i s hi hI ih
    have f8 := ffl_le s.2 (m - 1)
    have fe : ffl s.2 (m - 1) = ffl (fo (uS w m) i (0, a', b)).2.1 (m - 1) := ffl_cong (fun k hk => hI.2 k (by omega))
    show ∃ r, f_X7_leadInRow_14 L bt (F + 1) (nI n) (nI m) x3 s.1 (nI i) s.2 = some r ∧ _
    rw [f_X7_leadInRow_14, if_neg (nI_ge (by omega) (by omega)), ffX _ h1 h8, bs, if_neg (hx i hi), ixn (by omega) (by decide), hw i (by omega), bs, ixn (by omega) (by decide), ixn (by omega) (by decide), nI_clamp (by omega), upd_s, nI_1]
    refine ih (_, _) ⟨?_, ?_⟩
    · show (if s.1 < s.2 (ffl s.2 (m - 1)) + w i then s.2 (ffl s.2 (m - 1)) + w i else s.1) = _
      rw [hI.1, hI.2 _ (by omega), fe]
      rfl
    · intro k hk
      show upd s.2 (ffl s.2 (m - 1)) (s.2 (ffl s.2 (m - 1)) + w i) k = upd (fo (uS w m) i (0, a', b)).2.1 (ffl (fo (uS w m) i (0, a', b)).2.1 (m - 1)) ((fo (uS w m) i (0, a', b)).2.1 (ffl (fo (uS w m) i (0, a', b)).2.1 (m - 1)) + w i) k
      rw [hI.2 (ffl s.2 (m - 1)) (by omega), fe]
      by_cases q : k = ffl (fo (uS w m) i (0, a', b)).2.1 (m - 1)
      · rw [q, upd_s, upd_s]
      · rw [upd_n q, upd_n q]; exact hI.2 k hk
theorem usB (w : Nat → Int32) (m : Nat) (s : Int32 × (Nat → Int32) × (Nat → Int32)) (j : Nat) : ∀ d : Nat, (fo (uS w m) (j + 1 + d) s).2.2 j = (fo (uS w m) j s).2.1 (ffl (fo (uS w m) j s).2.1 (m - 1))
  | 0 => by
    show upd _ j _ j = _
    rw [upd_s]
  | d + 1 => by
    show upd (fo (uS w m) (j + 1 + d) s).2.2 (j + 1 + d) _ j = _
    rw [upd_n (by omega), usB w m s j d]
theorem us2 {tape bt : Nat → Int32} (hb : ∀ k : Nat, k < 260 → bt k = tape k &&& 255) {N n m : Nat} (hN : N ≤ 260) (h1 : 1 ≤ m) (h8 : m ≤ 8) (hn : n ≤ N) (hn20 : n ≤ 20) (x3 : Int32) (hx : x3 = 100 ∨ ∃ j : Nat, j < n ∧ x3 = nI j) (a b c : Nat → Int32) :
    T2 (f_X11_ushers_43 bt (nI n) (nI m) x3 (nI N) a) (f_X12_ushers_37 tape (nI n) (nI m) x3 (nI N) b c) (fun x y => x.1 = y.1 ∧ x.2.1 = 0 ∧ y.2.1 = 0) := by
  unfold f_X11_ushers_43 f_X12_ushers_37 f_X7_leadInRow f_J7_fill_53178 f_X8_clear
  rw [show f_J7_fill_53178_5 8 FU 0 0 (Int32.ofNat 8) a = _ from fill_loop 8 (by decide) 0 8 0 FU (by omega) (by unfold FU; omega) a, bs, if_pos (nI_le hn (by omega))]
  have i0 : ∃ b' : Nat → Int32, (∀ k : Nat, k < 8 → b' k = 0) ∧ f_X12_ushers_55 tape FU (nI n) (nI m) x3 0 0 b c = f_X12_ushers_82 tape FU (nI n) (nI m) x3 0 0 0 b' c := by
    refine loop1 8 (fun i (s : Nat → Int32) => ∀ k : Nat, k < i → s k = 0) (fun F i s => f_X12_ushers_55 tape F (nI n) (nI m) x3 (nI i) 0 s c) (fun o => ∃ b' : Nat → Int32, (∀ k : Nat, k < 8 → b' k = 0) ∧ o = f_X12_ushers_82 tape FU (nI n) (nI m) x3 0 0 0 b' c) ?_ ?_ 8 0 b FU (by omega) (by unfold FU; omega) (fun k hk => by omega)
    · intro F s hs
      show ∃ b' : Nat → Int32, _ ∧ f_X12_ushers_55 tape (F + 1) (nI n) (nI m) x3 (nI 8) 0 s c = _
      rw [f_X12_ushers_55, if_pos (by decide)]
      exact ⟨s, hs, rfl⟩
    · intro F i s hi hs ih
      show ∃ b' : Nat → Int32, _ ∧ f_X12_ushers_55 tape (F + 1) (nI n) (nI m) x3 (nI i) 0 s c = _
      rw [f_X12_ushers_55, if_neg (show ¬ (8 : Int32) ≤ nI i from nI_ge (b := 8) (by omega) (by decide)), ixn (by omega) (by decide), nI_clamp (by omega), nI_1]
      refine ih _ (fun k hk => ?_)
      by_cases q : k = i
      · rw [q, upd_s]
      · rw [upd_n q]; exact hs k (by omega)
  obtain ⟨b', hb', e⟩ := i0
  rw [e, usM (w := bt) hn20 h1 h8 (fun i hi => (byte_eq hb (show i < N by omega) hN).2)]
  have ha : ∀ k : Nat, k < 8 → (fun k => if 0 ≤ k ∧ k < 8 then (0 : Int32) else a k) k = b' k := fun k hk => by
    show (if 0 ≤ k ∧ k < 8 then (0 : Int32) else a k) = _
    rw [if_pos (by omega), hb' k hk]
  rcases hx with rfl | ⟨j, hj, rfl⟩
  · obtain ⟨r, r1, r2⟩ := usX (bt := bt) (w := bt) (L := nI N) (n := n) (m := m) hn20 h1 h8 (fun i hi => (byte_eq hb (show i < N by omega) hN).1) 100 _ b' c ha (j := n) (Nat.le_refl _) (fun i hi q => by have := nI_inj (by omega) (by decide) (show nI i = nI 100 from q); omega) (fun q => by omega)
    rw [r1, bs, bs]
    rw [uO, if_pos rfl]
    refine ⟨_, _, rfl, rfl, ?_, rfl, rfl⟩
    rw [r2, if_neg (by omega)]
  · obtain ⟨r, r1, r2⟩ := usX (bt := bt) (w := bt) (L := nI N) (n := n) (m := m) hn20 h1 h8 (fun i hi => (byte_eq hb (show i < N by omega) hN).1) (nI j) _ b' c ha (j := j) (by omega) (fun i hi q => by have := nI_inj (by omega) (by omega) q; omega) (fun _ => rfl)
    rw [r1, bs, bs]
    have z : ¬ nI j = 100 := fun q => by have := nI_inj (by omega) (by decide) (show nI j = nI 100 from q); omega
    have e3 := usB bt m (0, b', c) j (n - (j + 1))
    rw [show j + 1 + (n - (j + 1)) = n by omega] at e3
    rw [uO, if_neg z, ixn (by omega) (by decide), nI_clamp (by omega)]
    refine ⟨_, _, rfl, rfl, ?_, rfl, rfl⟩
    show r.1 = (fo (uS bt m) n (0, b', c)).2.2 j
    rw [r2, if_pos hj, e3]
theorem pm_ushers {XA : Nat → Nat → Int32} {XI : Nat → Int32} {MA : Nat → Nat → Int32} {MI : Nat → Int32} (h : Inv XA XI MA MI) (x1 : Int32) (x2 : Int32) (x3 : Int32) : ∃ (rX : Int32 × Int32 × (Nat → Int32)) (rM : Int32 × Int32 × (Nat → Int32) × (Nat → Int32)), f_X11_ushers (XI 1) (XA 0) (XA 19) x1 x2 x3 = some rX ∧ f_X12_ushers (MI 0) (MA 3) (MA 21) (MA 22) x1 x2 x3 = some rM ∧ rX.1 = rM.1 ∧ Inv (va_up XA 19 rX.2.2) (va_up XI 1 rX.2.1) (va_up (va_up MA 21 rM.2.2.1) 22 rM.2.2.2) (va_up MI 0 rM.2.1) := by
  obtain ⟨⟨⟨n, hn, e1, e2⟩, hb⟩, hC, hk, hkk, hL⟩ := h
  have same : ∀ (a b c : Nat → Int32), Inv (va_up XA 19 a) (va_up XI 1 (nI n)) (va_up (va_up MA 21 b) 22 c) (va_up MI 0 (nI n)) := fun a b c => ⟨⟨⟨n, hn, rfl, rfl⟩, hb⟩, hC, hk, hkk, hL⟩
  have done : ∀ (a b c : Nat → Int32), Inv (va_up XA 19 a) (va_up XI 1 0) (va_up (va_up MA 21 b) 22 c) (va_up MI 0 0) := fun a b c => ⟨⟨⟨0, by decide, rfl, rfl⟩, hb⟩, hC, hk, hkk, hL⟩
  unfold f_X11_ushers f_X12_ushers
  rw [e1, e2]
  have base : ∀ x3, T2 (f_X11_ushers_43 (XA 0) x1 x2 x3 (nI n) (XA 19)) (f_X12_ushers_37 (MA 3) x1 x2 x3 (nI n) (MA 21) (MA 22)) (fun x y => x.1 = y.1 ∧ x.2.1 = 0 ∧ y.2.1 = 0) → ∃ rX rM, f_X11_ushers_43 (XA 0) x1 x2 x3 (nI n) (XA 19) = some rX ∧ f_X12_ushers_37 (MA 3) x1 x2 x3 (nI n) (MA 21) (MA 22) = some rM ∧ rX.1 = rM.1 ∧ Inv (va_up XA 19 rX.2.2) (va_up XI 1 rX.2.1) (va_up (va_up MA 21 rM.2.2.1) 22 rM.2.2.2) (va_up MI 0 rM.2.1) := by
    rintro x3 ⟨⟨a1, a2, a3⟩, ⟨b1, b2, b3⟩, p1, p2, p3, p4, p5⟩
    simp only at p3 p4 p5
    subst p3 p4 p5
    exact ⟨_, _, p1, p2, rfl, done _ _ _⟩
  rcases holds_eq hn x1 1 20 (by decide) (by decide) with ⟨d1, d2⟩ | ⟨j, j1, j2, j3, rfl, d1, d2, d3, d4⟩
  · have d1 : f_X8_holds (nI n) x1 1 20 = some 0 := d1
    rw [d1, bs, if_pos rfl]
    rcases d2 with d2 | ⟨d2, d3, -⟩
    · have d2 : f_X12_in x1 1 20 = some 0 := d2
      rw [d2, bs, if_pos rfl]
      exact ⟨_, _, rfl, rfl, rfl, same _ _ _⟩
    · have d2 : f_X12_in x1 1 20 = some 1 := d2
      rw [d2, bs, if_neg i10]
      have fin : f_X12_ushers_37 (MA 3) x1 x2 x3 (nI n) (MA 21) (MA 22) = some (-1, nI n, MA 21, MA 22) := by unfold f_X12_ushers_37; rw [if_neg d3]
      rw [fin]
      rcases wi01 x2 1 8 with e | e
      · rw [same_in, e, bs, if_pos rfl]; exact ⟨_, _, rfl, rfl, rfl, same _ _ _⟩
      · rw [same_in, e, bs, if_neg i10]
        by_cases z : x3 = 100
        · rw [if_pos z]; exact ⟨_, _, rfl, rfl, rfl, same _ _ _⟩
        · rw [if_neg z, same_in]
          rcases wi01 x3 0 (x1 - 1) with e | e
          · rw [e, bs, if_pos rfl]; exact ⟨_, _, rfl, rfl, rfl, same _ _ _⟩
          · rw [e, bs, if_neg i10]; exact ⟨_, _, rfl, rfl, rfl, same _ _ _⟩
  · have d1 : f_X8_holds (nI n) (nI j) 1 20 = some 1 := d1
    have d2 : f_X12_in (nI j) 1 20 = some 1 := d2
    rw [d1, d2, bs, bs, if_neg i10, if_neg i10, same_in, same_in]
    rcases wi01 x2 1 8 with e | e
    · rw [e, bs, bs, if_pos rfl, if_pos rfl]; exact ⟨_, _, rfl, rfl, rfl, same _ _ _⟩
    · rw [e, bs, bs, if_neg i10, if_neg i10]
      obtain ⟨m, m1, m8, rfl⟩ : ∃ m : Nat, 1 ≤ m ∧ m ≤ 8 ∧ x2 = nI m := by
        unfold f_X11_isWithin at e
        by_cases q : x2 < 1
        · rw [if_pos q] at e; exact absurd e (by decide)
        · rw [if_neg q] at e
          by_cases q2 : (8 : Int32) < x2
          · rw [if_pos q2] at e; exact absurd e (by decide)
          · have q0 : ¬ x2 < 0 := fun w => q (Int32.lt_trans w (by decide))
            obtain ⟨m, hm, rfl⟩ := nI_of q0
            refine ⟨m, ?_, ?_, rfl⟩
            · rcases Nat.eq_zero_or_pos m with w | w
              · rw [w] at q; exact absurd (by decide) q
              · exact w
            · rcases Nat.lt_or_ge 8 m with w | w
              · exact absurd (show nI 8 < nI m from nI_lt w hm) q2
              · exact w
      by_cases z : x3 = 100
      · rw [if_pos z, if_pos z]
        exact base x3 (us2 hb hn m1 m8 j3 j2 x3 (Or.inl z) _ _ _)
      · rw [if_neg z, if_neg z, show nI j - 1 = nI (j - 1) from pk_sub j1]
        rcases wi x3 (j - 1) (by omega) with ⟨c1, -, -⟩ | ⟨k, hk, rfl, c1, -⟩
        · rw [c1, bs, bs, if_pos rfl, if_pos rfl]; exact ⟨_, _, rfl, rfl, rfl, same _ _ _⟩
        · rw [c1, bs, bs, if_neg i10, if_neg i10]
          exact base (nI k) (us2 hb hn m1 m8 j3 j2 _ (Or.inr ⟨k, by omega, rfl⟩) _ _ _)
