/-! hats -/
def hI (w : Nat → Int32) (i : Nat) : Nat → Int32 × (Nat → Int32) → Int32 × (Nat → Int32) := fun j s =>
  (if w j ≤ w i then s.1 else s.1 + 1, if w i ≤ w j then s.2 else upd s.2 i (if s.2 i < s.2 j + 1 then s.2 j + 1 else s.2 i))
abbrev HS := Int32 × Int32 × Int32 × Int32 × (Nat → Int32)
def hS (w : Nat → Int32) : Nat → HS → HS := fun i s =>
  (if w i ≤ s.2.1 then s.1 else s.1 + 1, if s.2.1 < w i then w i else s.2.1, (fo (hI w i) i (s.2.2.1, upd s.2.2.2.2 i 1)).1,
    (if s.2.2.2.1 < (fo (hI w i) i (s.2.2.1, upd s.2.2.2.2 i 1)).2 i then (fo (hI w i) i (s.2.2.1, upd s.2.2.2.2 i 1)).2 i else s.2.2.2.1), (fo (hI w i) i (s.2.2.1, upd s.2.2.2.2 i 1)).2)
def hO (n x2 : Int32) (s : HS) : Option (Int32 × Int32 × (Nat → Int32)) := if x2 = 0 then some (s.1, 0, s.2.2.2.2) else if x2 = 1 then some (s.2.2.1, 0, s.2.2.2.2) else some (n - s.2.2.2.1, 0, s.2.2.2.2)
theorem haM {tape w : Nat → Int32} {n : Nat} (hn : n ≤ 12) (hw : ∀ i : Nat, i < n → f_X12_octet tape (nI i) = some (w i)) (x2 : Int32) (R : Nat → Int32) :
    f_X12_hats_48 tape FU (nI n) x2 0 (-1) 0 0 0 0 R = hO (nI n) x2 (fo (hS w) n (0, -1, 0, 0, R)) := by
  refine fl n (hS w) (fun F i s => f_X12_hats_48 tape F (nI n) x2 s.1 s.2.1 s.2.2.1 s.2.2.2.1 (nI i) 0 s.2.2.2.2) (hO (nI n) x2) ?_ ?_ (0, -1, 0, 0, R) (show n < FU by unfold FU; omega)
  · intro F s
    show f_X12_hats_48 tape (F + 1) (nI n) x2 s.1 s.2.1 s.2.2.1 s.2.2.2.1 (nI n) 0 s.2.2.2.2 = _
    rw [f_X12_hats_48, if_pos (nI_le (Nat.le_refl _) (by omega)), hO]
  · intro F i s hi
    show f_X12_hats_48 tape (F + 1) (nI n) x2 s.1 s.2.1 s.2.2.1 s.2.2.2.1 (nI i) 0 s.2.2.2.2 = _
    rw [f_X12_hats_48, if_neg (nI_ge (by omega) (by omega)), ixn (by omega) (by decide), nI_clamp (by omega)]
    refine fl i (hI w i) (fun G j t => f_X12_hats_65 tape (f_X12_hats_48 tape F) G (nI n) x2 s.1 s.2.1 t.1 s.2.2.2.1 (nI i) (nI j) 0 t.2) (fun t => f_X12_hats_48 tape F (nI n) x2 (if w i ≤ s.2.1 then s.1 else s.1 + 1) (if s.2.1 < w i then w i else s.2.1) t.1 (if s.2.2.2.1 < t.2 i then t.2 i else s.2.2.2.1) (nI (i + 1)) 0 t.2) ?_ ?_ (s.2.2.1, upd s.2.2.2.2 i 1) (show i < FU by unfold FU; omega)
    · intro G t
      show f_X12_hats_65 tape (f_X12_hats_48 tape F) (G + 1) (nI n) x2 s.1 s.2.1 t.1 s.2.2.2.1 (nI i) (nI i) 0 t.2 = _
      rw [f_X12_hats_65, if_pos (nI_le (Nat.le_refl _) (by omega)), ixn (by omega) (by decide), nI_clamp (by omega), mxe, bs, hw i hi, bs]
      unfold f_X12_hats_169
      rw [hw i hi, bs, bs, mxe, bs, bs, nI_1]
      by_cases c : w i ≤ s.2.1
      · rw [if_pos c, if_pos c]
      · rw [if_neg c, if_neg c]
    · intro G j t hj
      show f_X12_hats_65 tape (f_X12_hats_48 tape F) (G + 1) (nI n) x2 s.1 s.2.1 t.1 s.2.2.2.1 (nI i) (nI j) 0 t.2 = f_X12_hats_65 tape (f_X12_hats_48 tape F) G (nI n) x2 s.1 s.2.1 (if w j ≤ w i then t.1 else t.1 + 1) s.2.2.2.1 (nI i) (nI (j + 1)) 0 (if w i ≤ w j then t.2 else upd t.2 i (if t.2 i < t.2 j + 1 then t.2 j + 1 else t.2 i))
      rw [f_X12_hats_65, if_neg (nI_ge (by omega) (by omega)), hw i hi, hw j (by omega), bs, bs]
      unfold f_X12_hats_93
      rw [hw i hi, hw j (by omega), bs, bs, bs, bs, nI_1, ixn (by omega) (by decide), ixn (by omega) (by decide), ixn (by omega) (by decide), ixn (by omega) (by decide), nI_clamp (by omega), nI_clamp (by omega), mxe, bs, bs, ixn (by omega) (by decide), ixn (by omega) (by decide)]
      by_cases c : w j ≤ w i
      · rw [if_pos c, if_pos c]
        by_cases d : w i ≤ w j
        · rw [if_pos d, if_pos d]
        · rw [if_neg d, if_neg d]
      · rw [if_neg c, if_neg c]
        by_cases d : w i ≤ w j
        · rw [if_pos d, if_pos d]
        · rw [if_neg d, if_neg d]
theorem haX0 {bt w : Nat → Int32} {L : Int32} {n : Nat} (hn : n ≤ 12) (hw : ∀ i : Nat, i < n → f_X8_byteAt L bt (nI i) = some (w i)) (R : Nat → Int32) : f_X7_seenFromFront L bt (nI n) = some (fo (hS w) n (0, -1, 0, 0, R)).1 := by
  unfold f_X7_seenFromFront
  refine loop1 n (fun i (s : Int32 × Int32) => s.1 = (fo (hS w) i (0, -1, 0, 0, R)).1 ∧ s.2 = (fo (hS w) i (0, -1, 0, 0, R)).2.1) (fun F i s => f_X7_seenFromFront_7 L bt F (nI n) s.1 s.2 (nI i)) (fun o => o = some (fo (hS w) n (0, -1, 0, 0, R)).1) ?_ ?_ n 0 (0, -1) FU (by omega) (by unfold FU; omega) ⟨rfl, rfl⟩
  · intro F s hI
    show f_X7_seenFromFront_7 L bt (F + 1) (nI n) s.1 s.2 (nI n) = _
    rw [f_X7_seenFromFront_7, if_pos (nI_le (Nat.le_refl _) (by omega)), hI.1]
  · intro F i s hi hI ih
    show f_X7_seenFromFront_7 L bt (F + 1) (nI n) s.1 s.2 (nI i) = _
    rw [f_X7_seenFromFront_7, if_neg (nI_ge (by omega) (by omega)), hw i hi, bs, bs, nI_1]
    have e1 : (fo (hS w) (i + 1) (0, -1, 0, 0, R)).1 = if w i ≤ s.2 then s.1 else s.1 + 1 := by rw [hI.1, hI.2]; rfl
    have e2 : (fo (hS w) (i + 1) (0, -1, 0, 0, R)).2.1 = if s.2 < w i then w i else s.2 := by rw [hI.2]; rfl
    by_cases c : w i ≤ s.2
    · rw [if_pos c]
      refine ih (_, _) ⟨?_, ?_⟩
      · rw [e1, if_pos c]
      · rw [e2, if_neg (Int32.not_lt.mpr c)]
    · rw [if_neg c]
      refine ih (_, _) ⟨?_, ?_⟩
      · rw [e1, if_neg c]
      · rw [e2, if_pos (Int32.not_le.mp c)]
theorem haX1 {bt w : Nat → Int32} {L : Int32} {n : Nat} (hn : n ≤ 12) (hw : ∀ i : Nat, i < n → f_X8_byteAt L bt (nI i) = some (w i)) (R : Nat → Int32) : f_X7_changesTillRising L bt (nI n) = some (fo (hS w) n (0, -1, 0, 0, R)).2.2.1 := by
  unfold f_X7_changesTillRising
  refine loop1 n (fun i (s : Int32) => s = (fo (hS w) i (0, -1, 0, 0, R)).2.2.1) (fun F i s => f_X7_changesTillRising_4 L bt F (nI n) s (nI i)) (fun o => o = some (fo (hS w) n (0, -1, 0, 0, R)).2.2.1) ?_ ?_ n 0 0 FU (by omega) (by unfold FU; omega) rfl
  · intro F s hI
    show f_X7_changesTillRising_4 L bt (F + 1) (nI n) s (nI n) = _
    rw [f_X7_changesTillRising_4, if_pos (nI_le (Nat.le_refl _) (by omega)), hI]
  · intro F i s hi hI1 ih
    show f_X7_changesTillRising_4 L bt (F + 1) (nI n) s (nI i) = _
    rw [f_X7_changesTillRising_4, if_neg (nI_ge (by omega) (by omega))]
    refine loop1 i (fun j (t : Int32) => t = (fo (hI w i) j ((fo (hS w) i (0, -1, 0, 0, R)).2.2.1, upd (fo (hS w) i (0, -1, 0, 0, R)).2.2.2.2 i 1)).1) (fun G j t => f_X7_changesTillRising_12 L bt (f_X7_changesTillRising_4 L bt F) G (nI n) t (nI i) (nI j)) (fun o => o = some (fo (hS w) n (0, -1, 0, 0, R)).2.2.1) ?_ ?_ i 0 s FU (by omega) (by unfold FU; omega) hI1
    · intro G t ht
      show f_X7_changesTillRising_12 L bt (f_X7_changesTillRising_4 L bt F) (G + 1) (nI n) t (nI i) (nI i) = _
      rw [f_X7_changesTillRising_12, if_pos (nI_le (Nat.le_refl _) (by omega)), nI_1]
      exact ih t ht
    · intro G j t hj ht ih2
      show f_X7_changesTillRising_12 L bt (f_X7_changesTillRising_4 L bt F) (G + 1) (nI n) t (nI i) (nI j) = _
      rw [f_X7_changesTillRising_12, if_neg (nI_ge (by omega) (by omega)), hw i hi, hw j (by omega), bs, bs, nI_1]
      have e : ∀ s : Int32 × (Nat → Int32), (hI w i j s).1 = if w j ≤ w i then s.1 else s.1 + 1 := fun _ => rfl
      by_cases c : w j ≤ w i
      · rw [if_pos c]; exact ih2 t (by show t = (hI w i j _).1; rw [e, if_pos c, ← ht])
      · rw [if_neg c]; exact ih2 (t + 1) (by show t + 1 = (hI w i j _).1; rw [e, if_neg c, ← ht])
theorem haX2 {bt w : Nat → Int32} {L : Int32} {n : Nat} (hn : n ≤ 12) (hw : ∀ i : Nat, i < n → f_X8_byteAt L bt (nI i) = some (w i)) (R R' : Nat → Int32) : ∃ r, f_X7_longestRising L bt R' (nI n) = some ((fo (hS w) n (0, -1, 0, 0, R)).2.2.2.1, r) := by
  unfold f_X7_longestRising
  refine loop1 n (fun i (s : Int32 × (Nat → Int32)) => s.1 = (fo (hS w) i (0, -1, 0, 0, R)).2.2.2.1 ∧ ∀ k : Nat, k < i → s.2 k = (fo (hS w) i (0, -1, 0, 0, R)).2.2.2.2 k) (fun F i s => f_X7_longestRising_4 L bt F (nI n) s.1 (nI i) s.2) (fun o => ∃ r, o = some ((fo (hS w) n (0, -1, 0, 0, R)).2.2.2.1, r)) ?_ ?_ n 0 (0, R') FU (by omega) (by unfold FU; omega) ⟨rfl, fun k hk => by omega⟩
  · intro F s hI
    show ∃ r, f_X7_longestRising_4 L bt (F + 1) (nI n) s.1 (nI n) s.2 = _
    rw [f_X7_longestRising_4, if_pos (nI_le (Nat.le_refl _) (by omega)), hI.1]
    exact ⟨_, rfl⟩
  · intro F i s hi hI1 ih
    show ∃ r, f_X7_longestRising_4 L bt (F + 1) (nI n) s.1 (nI i) s.2 = _
    rw [f_X7_longestRising_4, if_neg (nI_ge (by omega) (by omega)), if_neg (show ¬ (12 : Int32) ≤ nI i from nI_ge (b := 12) (by omega) (by decide)), ixn (by omega) (by decide), nI_clamp (by omega)]
    refine loop1 i (fun j (t : Nat → Int32) => ∀ k : Nat, k < i + 1 → t k = (fo (hI w i) j ((fo (hS w) i (0, -1, 0, 0, R)).2.2.1, upd (fo (hS w) i (0, -1, 0, 0, R)).2.2.2.2 i 1)).2 k) (fun G j t => f_X7_longestRising_25 L bt (f_X7_longestRising_4 L bt F) G (nI n) s.1 (nI i) (nI j) t) (fun o => ∃ r, o = some ((fo (hS w) n (0, -1, 0, 0, R)).2.2.2.1, r)) ?_ ?_ i 0 (upd s.2 i 1) FU (by omega) (by unfold FU; omega) ?_
    · intro G t ht
      show ∃ r, f_X7_longestRising_25 L bt (f_X7_longestRising_4 L bt F) (G + 1) (nI n) s.1 (nI i) (nI i) t = _
      rw [f_X7_longestRising_25, if_pos (nI_le (Nat.le_refl _) (by omega)), ixn (by omega) (by decide), nI_clamp (by omega), nI_1]
      refine ih (_, _) ⟨?_, ht⟩
      show (if s.1 < t i then t i else s.1) = _
      rw [ht i (by omega), hI1.1]
      rfl
    · intro G j t hj ht ih2
      show ∃ r, f_X7_longestRising_25 L bt (f_X7_longestRising_4 L bt F) (G + 1) (nI n) s.1 (nI i) (nI j) t = _
      rw [f_X7_longestRising_25, if_neg (nI_ge (by omega) (by omega)), hw i hi, hw j (by omega), bs, bs, nI_1, ixn (by omega) (by decide), ixn (by omega) (by decide), ixn (by omega) (by decide), nI_clamp (by omega), nI_clamp (by omega)]
      have e : ∀ s : Int32 × (Nat → Int32), (hI w i j s).2 = if w i ≤ w j then s.2 else upd s.2 i (if s.2 i < s.2 j + 1 then s.2 j + 1 else s.2 i) := fun _ => rfl
      by_cases c : w i ≤ w j
      · rw [if_pos c]; exact ih2 t (fun k hk => by show t k = (hI w i j _).2 k; rw [e, if_pos c]; exact ht k hk)
      · rw [if_neg c]
        refine ih2 _ (fun k hk => ?_)
        show _ = (hI w i j _).2 k
        rw [e, if_neg c, ← ht i (by omega), ← ht j (by omega)]
        by_cases q : k = i
        · rw [q, upd_s, upd_s]
        · rw [upd_n q, upd_n q]; exact ht k hk
    · intro k hk
      show upd s.2 i 1 k = upd (fo (hS w) i (0, -1, 0, 0, R)).2.2.2.2 i 1 k
      by_cases q : k = i
      · rw [q, upd_s, upd_s]
      · rw [upd_n q, upd_n q]; exact hI1.2 k (by omega)
theorem pm_hats {XA : Nat → Nat → Int32} {XI : Nat → Int32} {MA : Nat → Nat → Int32} {MI : Nat → Int32} (h : Inv XA XI MA MI) (x1 : Int32) (x2 : Int32) : ∃ (rX : Int32 × Int32 × (Nat → Int32)) (rM : Int32 × Int32 × (Nat → Int32)), f_X11_hats (XI 1) (XA 0) (XA 20) x1 x2 = some rX ∧ f_X12_hats (MI 0) (MA 3) (MA 26) x1 x2 = some rM ∧ rX.1 = rM.1 ∧ Inv (va_up XA 20 rX.2.2) (va_up XI 1 rX.2.1) (va_up MA 26 rM.2.2) (va_up MI 0 rM.2.1) := by
  obtain ⟨⟨⟨n, hn, e1, e2⟩, hb⟩, hC, hk, hkk, hL⟩ := h
  have same : ∀ (a b : Nat → Int32), Inv (va_up XA 20 a) (va_up XI 1 (nI n)) (va_up MA 26 b) (va_up MI 0 (nI n)) := fun a b => ⟨⟨⟨n, hn, rfl, rfl⟩, hb⟩, hC, hk, hkk, hL⟩
  have done : ∀ (a b : Nat → Int32), Inv (va_up XA 20 a) (va_up XI 1 0) (va_up MA 26 b) (va_up MI 0 0) := fun a b => ⟨⟨⟨0, by decide, rfl, rfl⟩, hb⟩, hC, hk, hkk, hL⟩
  unfold f_X11_hats f_X12_hats f_X8_clear
  rw [e1, e2]
  rcases holds_eq hn x1 1 12 (by decide) (by decide) with ⟨d1, d2⟩ | ⟨j, j1, j2, j3, rfl, d1, d2, d3, d4⟩
  · have d1 : f_X8_holds (nI n) x1 1 12 = some 0 := d1
    rw [d1, bs, if_pos rfl]
    rcases d2 with d2 | ⟨d2, d3, -⟩
    · have d2 : f_X12_in x1 1 12 = some 0 := d2
      rw [d2, bs, if_pos rfl]
      exact ⟨_, _, rfl, rfl, rfl, same _ _⟩
    · have d2 : f_X12_in x1 1 12 = some 1 := d2
      rw [d2, bs, if_neg i10, if_neg d3, same_in]
      rcases wi01 x2 0 2 with e | e
      · rw [e, bs, if_pos rfl]; exact ⟨_, _, rfl, rfl, rfl, same _ _⟩
      · rw [e, bs, if_neg i10]; exact ⟨_, _, rfl, rfl, rfl, same _ _⟩
  · have d1 : f_X8_holds (nI n) (nI j) 1 12 = some 1 := d1
    have d2 : f_X12_in (nI j) 1 12 = some 1 := d2
    rw [d1, d2, bs, bs, if_neg i10, if_neg i10, same_in]
    rcases wi01 x2 0 2 with e | e
    · rw [e, bs, bs, if_pos rfl, if_pos rfl]; exact ⟨_, _, rfl, rfl, rfl, same _ _⟩
    · rw [e, bs, bs, if_neg i10, if_neg i10, if_pos d3, haM (w := XA 0) j2 (fun i hi => (byte_eq hb (show i < n by omega) hn).2)]
      unfold f_X7_heightsInRow
      have hw := fun (i : Nat) (hi : i < j) => (byte_eq hb (show i < n by omega) hn).1
      by_cases z : x2 = 0
      · rw [if_pos z, haX0 (w := XA 0) j2 hw (MA 26), hO, if_pos z, bs, bs, bs]
        exact ⟨_, _, rfl, rfl, rfl, done _ _⟩
      · rw [if_neg z]
        by_cases z2 : x2 = 1
        · rw [if_pos z2, haX1 (w := XA 0) j2 hw (MA 26), hO, if_neg z, if_pos z2, bs, bs, bs]
          exact ⟨_, _, rfl, rfl, rfl, done _ _⟩
        · obtain ⟨r, hr⟩ := haX2 (w := XA 0) j2 hw (MA 26) (XA 20)
          rw [if_neg z2, hr, hO, if_neg z, if_neg z2, bs, bs, bs]
          exact ⟨_, _, rfl, rfl, rfl, done _ _⟩
