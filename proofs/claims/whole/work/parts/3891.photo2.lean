/-! photo, the rows -/
theorem upd_upd (f : Nat → Int32) (k : Nat) (x y : Int32) : upd (upd f k x) k y = upd f k y := by
  funext j
  by_cases e : j = k
  · rw [e, upd_s, upd_s]
  · rw [upd_n e, upd_n e, upd_n e]
theorem m1_lt {b : Nat} (hb : b < 2 ^ 31) : (-1 : Int32) < nI b := by
  rw [Int32.lt_iff_toInt_lt, nI_toInt hb]
  have : (-1 : Int32).toInt = -1 := by decide
  omega
theorem tkn2 {gu now : Nat → Int32} (h : Al gu now) {P : Nat} (hP : P < 16) : ∃ z, f_X5_takenPlaces gu (nI P) = some z ∧ f_X12_takenIn now (nI P) = some z := by
  have : T2 (f_X5_takenPlaces gu (nI P)) (f_X12_takenIn now (nI P)) (fun a b => a = b) := by
    unfold f_X5_takenPlaces f_X12_takenIn
    refine loop2 9 (fun _ (s t : Int32) => s = t) (fun F i s => f_X5_takenPlaces_4 gu F (nI P) s (nI i)) (fun F i t => f_X12_takenIn_4 now F (nI P) t (nI i)) (fun a b => a = b) ?_ ?_ 9 0 0 0 FU FU (by omega) (by unfold FU; omega) (by unfold FU; omega) rfl
    · intro F F' s t e
      show T2 (f_X5_takenPlaces_4 gu (F + 1) (nI P) s (nI 9)) (f_X12_takenIn_4 now (F' + 1) (nI P) t (nI 9)) _
      rw [f_X5_takenPlaces_4, f_X12_takenIn_4, if_pos (by decide), if_pos (by decide)]
      exact T2.ret e
    · intro F F' i s t hi e ih
      show T2 (f_X5_takenPlaces_4 gu (F + 1) (nI P) s (nI i)) (f_X12_takenIn_4 now (F' + 1) (nI P) t (nI i)) _
      have q := h (9 * P + i) (by omega)
      rw [f_X5_takenPlaces_4, f_X12_takenIn_4, if_neg (show ¬ (9 : Int32) ≤ nI i from nI_ge (b := 9) (by omega) (by decide)), if_neg (show ¬ (9 : Int32) ≤ nI i from nI_ge (b := 9) (by omega) (by decide)), m9, m9', xT gu (by omega), mT now (by omega), bs, bs, nI_1, e]
      by_cases d : gu (9 * P + i) = -1
      · rw [if_pos d, if_pos (q.iff.mp d), if_pos rfl, if_pos rfl]; exact ih _ _ rfl
      · rw [if_neg d, if_neg (fun z => d (q.iff.mpr z)), if_neg i10, if_neg i10]; exact ih _ _ rfl
  obtain ⟨a, b, p, q, rfl⟩ := this
  exact ⟨a, p, q⟩
def okz (z : Int32) (t : Nat) : Bool := decide ((nI t &&& (z ^^^ (-1))) = 0) && decide ((nI t &&& (nI t >>> ((1 : Int32) &&& 31))) = 0)
theorem okz0 (z : Int32) : okz z 0 = true := by
  unfold okz
  rw [show nI 0 = 0 from rfl, Int32.zero_and, Int32.zero_and]
  rfl
def mS (V : Nat → Bool) (E : Nat → Nat) (S : Nat) : Nat := mx (fun t => V t && decide (Sb t S)) E 512
def eN (V : Nat → Bool) (E : Nat → Nat) (t : Nat) : Nat := popc t + mS V E (511 - t)
theorem xRow {V : Nat → Bool} {E : Nat → Nat} {B : Nat} (hB : B ≤ 1000) (hE : ∀ t : Nat, t < 512 → V t = true → E t ≤ B) (gu : Nat → Int32) (K : Int32 → Int32 → (Nat → Int32) → (Nat → Int32) → Option (Int32 × (Nat → Int32) × (Nat → Int32))) (x2 x3 z : Int32) (a mb : Nat → Int32) (hmb : ∀ S : Nat, S < 512 → mb S = nI (mS V E S)) :
    ∃ r, f_X5_mostApart_46 gu K FU x2 x3 z 0 a mb = K x2 (x3 + 1) r mb ∧ ∀ S : Nat, S < 512 → r S = nI (mS (okz z) (eN V E) S) := by
  have hM : ∀ S, mS V E S ≤ B := fun S => mx_b (fun t ht hv => hE t ht (by simp only [Bool.and_eq_true] at hv; exact hv.1))
  refine loop1 512 (fun i (a : Nat → Int32) => ∀ t : Nat, t < i → a t = nI (if okz z t then eN V E t else 0)) (fun F i a => f_X5_mostApart_46 gu K F x2 x3 z (nI i) a mb) (fun o => ∃ r, o = K x2 (x3 + 1) r mb ∧ ∀ S : Nat, S < 512 → r S = nI (mS (okz z) (eN V E) S)) ?_ ?_ 512 0 a FU (by omega) (by unfold FU; omega) (fun t ht => by omega)
  · intro F a ha
    show ∃ r, f_X5_mostApart_46 gu K (F + 1) x2 x3 z (nI 512) a mb = _ ∧ _
    have hb : ∀ k : Nat, k < 512 → (fun t => if okz z t then eN V E t else 0) k ≤ B + 9 := fun k hk => by
      show (if okz z k then eN V E k else 0) ≤ B + 9
      have := hM (511 - k)
      have := pop_le k
      unfold eN
      split <;> omega
    obtain ⟨r, h1, h2⟩ := RS (P := fun t => if okz z t then eN V E t else 0) (B := B + 9) (by omega) hb ha
    rw [f_X5_mostApart_46, if_pos (by decide), h1, bs]
    refine ⟨r, rfl, fun S hS => ?_⟩
    rw [h2 S hS]
    refine congrArg nI (Nat.le_antisymm ?_ ?_)
    · obtain ⟨t, t1, t2, t3⟩ := Zt_at (fun t => if okz z t then eN V E t else 0) 9 (Nat.le_refl _) S hS
      rw [t3]
      by_cases c : okz z t = true
      · rw [if_pos c]
        exact mx_ge (E := eN V E) (by simp only [Bool.and_eq_true, decide_eq_true_eq]; exact ⟨c, t2⟩) t1
      · rw [if_neg c]; exact Nat.zero_le _
    · refine mx_b (fun t ht hv => ?_)
      simp only [Bool.and_eq_true, decide_eq_true_eq] at hv
      have := Zt_ge (fun t => if okz z t then eN V E t else 0) 9 (Nat.le_refl _) t S ht hS hv.2 (fun i h1 h2 => by omega)
      rw [if_pos hv.1] at this
      exact this
  · intro F i a hi ha ih
    show ∃ r, f_X5_mostApart_46 gu K (F + 1) x2 x3 z (nI i) a mb = _ ∧ _
    have st : f_X5_mostApart_46 gu K (F + 1) x2 x3 z (nI i) a mb = f_X5_mostApart_46 gu K F x2 x3 z (nI (i + 1)) (upd a i (nI (if okz z i then eN V E i else 0))) mb := by
      rw [f_X5_mostApart_46, if_neg (show ¬ (512 : Int32) ≤ nI i from nI_ge (b := 512) hi (by decide))]
      unfold f_X5_mostApart_78 f_X5_mostApart_79 f_X5_mostApart_113
      rw [if_pos rfl, if_neg i10, (pop_b hi).1, bs, show (511 : Int32) - nI i = nI (511 - i) from pk_sub (a := 511) (by omega), ixn (by omega) (by decide), ixn hi (by decide), ixn hi (by decide), nI_clamp (by omega), nI_clamp (by omega), nI_1, hmb _ (by omega), la]
      unfold okz
      by_cases c : (nI i &&& (z ^^^ (-1))) = 0
      · rw [if_pos c]
        by_cases d : (nI i &&& (nI i >>> ((1 : Int32) &&& 31))) = 0
        · rw [if_pos ((pop_b hi).2.2.mpr d), decide_eq_true c, decide_eq_true d]
          rfl
        · rw [if_neg (fun q => d ((pop_b hi).2.2.mp q)), decide_eq_false d, Bool.and_false]
          rfl
      · rw [if_neg c, decide_eq_false c, Bool.false_and]
        rfl
    rw [st]
    refine ih _ (fun t ht => ?_)
    by_cases e : t = i
    · rw [e, upd_s]
    · rw [upd_n e]; exact ha t (by omega)
theorem m108 {V : Nat → Bool} {E : Nat → Nat} {B : Nat} (hB : B ≤ 1000) (h0 : V 0 = true) (hE : ∀ t : Nat, t < 512 → V t = true → E t ≤ B) (now : Nat → Int32) (K : Int32 → Int32 → Int32 → (Nat → Int32) → (Nat → Int32) → Option (Int32 × (Nat → Int32) × (Nat → Int32))) (K2 : Int32 → Int32 → Int32 → Int32 → Int32 → (Nat → Int32) → (Nat → Int32) → Option (Int32 × (Nat → Int32) × (Nat → Int32))) (x1 x3 z : Int32) {m i : Nat} (hm : m ≤ 2000) (hi : i < 512) (mb nx : Nat → Int32) (hmb : ∀ t : Nat, t < 512 → mb t = if V t then nI (E t) else -1) :
    f_X12_photo_108 now K K2 FU x1 (nI m) x3 z (nI i) 0 mb (upd nx i (-1)) = K2 x1 (nI (max m (eN V E i))) x3 z (nI (i + 1)) mb (upd nx i (nI (eN V E i))) := by
  have hq : ∀ q : Nat, q ≤ 512 → mx (fun t => V t && decide (Sb t (511 - i))) E q ≤ B := fun q hq => mx_b (fun t ht hv => hE t (by omega) (by simp only [Bool.and_eq_true] at hv; exact hv.1))
  have hp := pop_le i
  refine loop1 512 (fun q (v : Int32) => v = if q = 0 then -1 else nI (popc i + mx (fun t => V t && decide (Sb t (511 - i))) E q)) (fun F q v => f_X12_photo_108 now K K2 F x1 (nI m) x3 z (nI i) (nI q) mb (upd nx i v)) (fun o => o = K2 x1 (nI (max m (eN V E i))) x3 z (nI (i + 1)) mb (upd nx i (nI (eN V E i)))) ?_ ?_ 512 0 (-1) FU (by omega) (by unfold FU; omega) rfl
  · intro F v hv
    have hv : v = nI (eN V E i) := by rw [hv]; rfl
    have := hq 512 (Nat.le_refl _)
    show f_X12_photo_108 now K K2 (F + 1) x1 (nI m) x3 z (nI i) (nI 512) mb (upd nx i v) = _
    rw [f_X12_photo_108, if_pos (by decide), ixn hi (by decide), nI_clamp (by omega), upd_s, hv, mxM (by omega) (by show popc i + mx _ _ _ < _; omega), bs, nI_1]
  · intro F q v hq' hv ih
    have b1 := hq q (by omega)
    show f_X12_photo_108 now K K2 (F + 1) x1 (nI m) x3 z (nI i) (nI q) mb (upd nx i v) = _
    rw [f_X12_photo_108, if_neg (show ¬ (512 : Int32) ≤ nI q from nI_ge (b := 512) hq' (by decide)), ixn hq' (by decide), nI_clamp (by omega), hmb q hq', nI_1]
    have e : mx (fun t => V t && decide (Sb t (511 - i))) E (q + 1) = if (V q && decide (Sb q (511 - i))) then max (mx (fun t => V t && decide (Sb t (511 - i))) E q) (E q) else mx (fun t => V t && decide (Sb t (511 - i))) E q := rfl
    cases hV : V q with
    | false =>
      have q0 : q ≠ 0 := fun z => by rw [z, h0] at hV; exact absurd hV (by decide)
      rw [show (if false = true then nI (E q) else (-1 : Int32)) = -1 from rfl, if_pos rfl]
      refine ih v ?_
      rw [if_neg (show ¬ q + 1 = 0 by omega), e, hV, hv, if_neg q0]
      rfl
    | true =>
      have bE := hE q hq' hV
      rw [show (if true = true then nI (E q) else (-1 : Int32)) = nI (E q) from rfl, if_neg (nI_nm1 (by omega)), nAnd]
      by_cases c : q &&& i = 0
      · have cS : Sb q (511 - i) := (and0_Sb hq' hi).mp c
        rw [c, if_pos (show nI 0 = 0 from rfl), ixn hi (by decide), ixn hq' (by decide), bits_e hi, bs, nI_clamp (by omega), upd_s, la, mxe, bs, ixn hi (by decide), upd_upd]
        refine ih _ ?_
        rw [if_neg (show ¬ q + 1 = 0 by omega), e, hV, decide_eq_true cS, if_pos (show (true && true) = true from rfl), hv]
        by_cases q0 : q = 0
        · rw [if_pos q0, if_pos (m1_lt (by omega)), q0]
          rw [show mx (fun t => V t && decide (Sb t (511 - i))) E 0 = 0 from rfl, Nat.zero_max, Nat.add_comm]
        · rw [if_neg q0, mxI (by omega) (by omega)]
          rw [show max (popc i + mx (fun t => V t && decide (Sb t (511 - i))) E q) (E q + popc i) = popc i + max (mx (fun t => V t && decide (Sb t (511 - i))) E q) (E q) by omega]
      · have cS : ¬ Sb q (511 - i) := fun z => c ((and0_Sb hq' hi).mpr z)
        have q0 : q ≠ 0 := fun z => c (by rw [z]; exact Nat.zero_and i)
        have ql : q &&& i ≤ q := Nat.and_le_left
        rw [if_neg (nI_ne0 (Nat.pos_of_ne_zero c) (by omega))]
        refine ih v ?_
        rw [if_neg (show ¬ q + 1 = 0 by omega), e, hV, decide_eq_false cS, hv, if_neg q0]
        rfl
theorem mRow {V : Nat → Bool} {E : Nat → Nat} {B : Nat} (hB : B ≤ 1000) (h0 : V 0 = true) (hE : ∀ t : Nat, t < 512 → V t = true → E t ≤ B) (now : Nat → Int32) (K : Int32 → Int32 → Int32 → (Nat → Int32) → (Nat → Int32) → Option (Int32 × (Nat → Int32) × (Nat → Int32))) (x1 x3 z : Int32) (mb nx : Nat → Int32) (hmb : ∀ t : Nat, t < 512 → mb t = if V t then nI (E t) else -1) :
    ∃ mb' nx', f_X12_photo_66 now K FU x1 (nI (mx V E 512)) x3 z 0 mb nx = K x1 (nI (mx (okz z) (eN V E) 512)) (x3 + 1) mb' nx' ∧ ∀ t : Nat, t < 512 → mb' t = if okz z t then nI (eN V E t) else -1 := by
  have hM : ∀ S, mS V E S ≤ B := fun S => mx_b (fun t ht hv => hE t ht (by simp only [Bool.and_eq_true] at hv; exact hv.1))
  have hT : mx V E 512 ≤ B := mx_b (fun t ht hv => hE t ht hv)
  have hN : ∀ t, eN V E t ≤ B + 9 := fun t => by have := hM (511 - t); have := pop_le t; unfold eN; omega
  have hQ : ∀ q, mx (okz z) (eN V E) q ≤ B + 9 := fun q => mx_b (fun t ht hv => hN t)
  have hle : mx V E 512 ≤ mx (okz z) (eN V E) 512 := by
    have h1 := mx_ge (E := eN V E) (okz0 z) (show 0 < 512 by omega)
    have h2 : mx V E 512 ≤ mS V E 511 := by
      refine mx_b (fun t ht hv => ?_)
      refine mx_ge (E := E) ?_ ht
      simp only [Bool.and_eq_true, decide_eq_true_eq]
      refine ⟨hv, fun i hi _ => ?_⟩
      have := bitC (S := 0) (by decide) hi
      rw [Nat.zero_testBit] at this
      exact this
    have h3 : eN V E 0 = 0 + mS V E 511 := rfl
    omega
  refine loop1 512 (fun i (s : Int32 × (Nat → Int32)) => s.1 = nI (max (mx V E 512) (mx (okz z) (eN V E) i)) ∧ ∀ t : Nat, t < i → s.2 t = if okz z t then nI (eN V E t) else -1) (fun F i s => f_X12_photo_66 now K F x1 s.1 x3 z (nI i) mb s.2) (fun o => ∃ mb' nx', o = K x1 (nI (mx (okz z) (eN V E) 512)) (x3 + 1) mb' nx' ∧ ∀ t : Nat, t < 512 → mb' t = if okz z t then nI (eN V E t) else -1) ?_ ?_ 512 0 (nI (mx V E 512), nx) FU (by omega) (by unfold FU; omega) ⟨by rw [show mx (okz z) (eN V E) 0 = 0 from rfl, Nat.max_zero], fun t ht => by omega⟩
  · intro F s hI
    show ∃ mb' nx', f_X12_photo_66 now K (F + 1) x1 s.1 x3 z (nI 512) mb s.2 = _ ∧ _
    rw [f_X12_photo_66, if_pos (by decide), hI.1, show max (mx V E 512) (mx (okz z) (eN V E) 512) = mx (okz z) (eN V E) 512 by omega]
    refine loop1 512 (fun i (m : Nat → Int32) => ∀ t : Nat, t < i → m t = if okz z t then nI (eN V E t) else -1) (fun F i m => f_X12_photo_192 now K F x1 (nI (mx (okz z) (eN V E) 512)) x3 (nI i) m s.2) (fun o => ∃ mb' nx', o = K x1 (nI (mx (okz z) (eN V E) 512)) (x3 + 1) mb' nx' ∧ ∀ t : Nat, t < 512 → mb' t = if okz z t then nI (eN V E t) else -1) ?_ ?_ 512 0 mb FU (by omega) (by unfold FU; omega) (fun t ht => by omega)
    · intro G m hm
      show ∃ mb' nx', f_X12_photo_192 now K (G + 1) x1 _ x3 (nI 512) m s.2 = _ ∧ _
      rw [f_X12_photo_192, if_pos (by decide)]
      exact ⟨m, s.2, rfl, hm⟩
    · intro G i m hi hm ih
      show ∃ mb' nx', f_X12_photo_192 now K (G + 1) x1 _ x3 (nI i) m s.2 = _ ∧ _
      rw [f_X12_photo_192, if_neg (show ¬ (512 : Int32) ≤ nI i from nI_ge (b := 512) hi (by decide)), ixn hi (by decide), ixn hi (by decide), nI_clamp (by omega), nI_1]
      refine ih _ (fun t ht => ?_)
      by_cases e : t = i
      · rw [e, upd_s]; exact hI.2 i hi
      · rw [upd_n e]; exact hm t (by omega)
  · intro F i s hi hI ih
    have b1 := hQ i
    have b2 := hN i
    show ∃ mb' nx', f_X12_photo_66 now K (F + 1) x1 s.1 x3 z (nI i) mb s.2 = _ ∧ _
    have e : mx (okz z) (eN V E) (i + 1) = if okz z i then max (mx (okz z) (eN V E) i) (eN V E i) else mx (okz z) (eN V E) i := rfl
    have st : f_X12_photo_66 now K (F + 1) x1 s.1 x3 z (nI i) mb s.2 = f_X12_photo_66 now K F x1 (nI (max (mx V E 512) (mx (okz z) (eN V E) (i + 1)))) x3 z (nI (i + 1)) mb (upd s.2 i (if okz z i then nI (eN V E i) else -1)) := by
      rw [f_X12_photo_66, if_neg (show ¬ (512 : Int32) ≤ nI i from nI_ge (b := 512) hi (by decide)), ixn hi (by decide), nI_clamp (by omega), hI.1, m108 hB h0 hE now K _ x1 x3 z (by omega) hi mb s.2 hmb, nI_1, e]
      by_cases c : (nI i &&& (z ^^^ (-1))) = 0
      · rw [if_pos c]
        by_cases d : (nI i &&& (nI i >>> ((1 : Int32) &&& 31))) = 0
        · have o : okz z i = true := by unfold okz; rw [decide_eq_true c, decide_eq_true d]; rfl
          rw [if_pos d, o, if_pos rfl, if_pos rfl, Nat.max_assoc]
        · have o : okz z i = false := by unfold okz; rw [decide_eq_false d, Bool.and_false]
          rw [if_neg d, o]
          rfl
      · have o : okz z i = false := by unfold okz; rw [decide_eq_false c, Bool.false_and]
        rw [if_neg c, o]
        rfl
    rw [st]
    refine ih (_, _) ⟨rfl, fun t ht => ?_⟩
    show upd s.2 i _ t = _
    by_cases e : t = i
    · rw [e, upd_s]
    · rw [upd_n e]; exact hI.2 t (by omega)
theorem ph1 (now : Nat → Int32) (x1 : Int32) (c d : Nat → Int32) : ∃ c' : Nat → Int32, (∀ k : Nat, k < 512 → c' k = if k = 0 then 0 else -1) ∧ f_X12_photo_15 now FU x1 0 0 c d = f_X12_photo_45 now FU x1 0 0 c' d := by
  refine loop1 512 (fun i (c : Nat → Int32) => ∀ k : Nat, k < i → c k = if k = 0 then 0 else -1) (fun F i c => f_X12_photo_15 now F x1 0 (nI i) c d) (fun o => ∃ c' : Nat → Int32, (∀ k : Nat, k < 512 → c' k = if k = 0 then 0 else -1) ∧ o = f_X12_photo_45 now FU x1 0 0 c' d) ?_ ?_ 512 0 c FU (by omega) (by unfold FU; omega) (fun k hk => by omega)
  · intro F c hc
    show ∃ c' : Nat → Int32, _ ∧ f_X12_photo_15 now (F + 1) x1 0 (nI 512) c d = _
    rw [f_X12_photo_15, if_pos (by decide)]
    exact ⟨c, hc, rfl⟩
  · intro F i c hi hc ih
    show ∃ c' : Nat → Int32, _ ∧ f_X12_photo_15 now (F + 1) x1 0 (nI i) c d = _
    unfold f_X12_photo_15 f_X12_photo_36
    rw [if_neg (show ¬ (512 : Int32) ≤ nI i from nI_ge (b := 512) hi (by decide)), ixn hi (by decide), ixn hi (by decide), nI_clamp (by omega), nI_1]
    by_cases e : i = 0
    · rw [e, if_pos (show nI 0 = 0 from rfl)]
      rw [e] at ih
      refine ih _ (fun k hk => ?_)
      rw [show k = 0 by omega, upd_s]
      rfl
    · rw [if_neg (nI_ne0 (by omega) (by omega))]
      refine ih _ (fun k hk => ?_)
      by_cases f : k = i
      · rw [f, upd_s, if_neg e]
      · rw [upd_n f]; exact hc k (by omega)
theorem ph2 {gu now : Nat → Int32} (h : Al gu now) {s : Nat} (hs : s < 2) (a b c d : Nat → Int32) : T2 (f_X5_mostApart a b gu (nI s)) (f_X12_photo_15 now FU (nI s) 0 0 c d) (fun x y => x.1 = y.1) := by
  unfold f_X5_mostApart f_J7_fill_53178
  rw [show f_J7_fill_53178_5 512 FU 0 0 (Int32.ofNat 512) a = _ from fill_loop 512 (by decide) 0 512 0 FU (by omega) (by unfold FU; omega) a, bs]
  obtain ⟨c', hc, ec⟩ := ph1 now (nI s) c d
  rw [ec]
  refine loop2 8 (fun r (x : (Nat → Int32) × (Nat → Int32)) (y : Int32 × (Nat → Int32) × (Nat → Int32)) => ∃ (V : Nat → Bool) (E : Nat → Nat), V 0 = true ∧ (∀ t : Nat, t < 512 → V t = true → E t ≤ 9 * r) ∧ (∀ t : Nat, t < 512 → y.2.1 t = if V t then nI (E t) else -1) ∧ y.1 = nI (mx V E 512) ∧ ∀ S : Nat, S < 512 → x.1 S = nI (mS V E S)) (fun F r x => f_X5_mostApart_10 gu F (nI s) (nI r) x.1 x.2) (fun F r y => f_X12_photo_45 now F (nI s) y.1 (nI r) y.2.1 y.2.2) (fun x y => x.1 = y.1) ?_ ?_ 8 0 (fun k => if 0 ≤ k ∧ k < 512 then 0 else a k, b) (0, c', d) FU FU (by omega) (by unfold FU; omega) (by unfold FU; omega) ?_
  · rintro F F' x y ⟨V, E, h0, hE, hy, hy1, hx⟩
    show T2 (f_X5_mostApart_10 gu (F + 1) (nI s) (nI 8) x.1 x.2) (f_X12_photo_45 now (F' + 1) (nI s) y.1 (nI 8) y.2.1 y.2.2) _
    rw [f_X5_mostApart_10, f_X12_photo_45, if_pos (by decide), if_pos (by decide), show ∀ o : Option (Int32 × (Nat → Int32) × (Nat → Int32)), ix 512 511 o = o from fun o => ixn (j := 511) (by decide) (by decide)]
    refine T2.ret ?_
    show x.1 511 = y.1
    rw [hx 511 (by decide), hy1]
    refine congrArg nI (Nat.le_antisymm ?_ ?_)
    · exact mx_b (fun t ht hv => mx_ge (E := E) (by simp only [Bool.and_eq_true] at hv; exact hv.1) ht)
    · refine mx_b (fun t ht hv => ?_)
      refine mx_ge (E := E) ?_ ht
      simp only [Bool.and_eq_true, decide_eq_true_eq]
      refine ⟨hv, fun i hi _ => ?_⟩
      have := bitC (S := 0) (by decide) hi
      rw [Nat.zero_testBit] at this
      exact this
  · rintro F F' r x y hr ⟨V, E, h0, hE, hy, hy1, hx⟩ ih
    show T2 (f_X5_mostApart_10 gu (F + 1) (nI s) (nI r) x.1 x.2) (f_X12_photo_45 now (F' + 1) (nI s) y.1 (nI r) y.2.1 y.2.2) _
    obtain ⟨z, z1, z2⟩ := tkn2 h (P := 8 * s + r) (by omega)
    have cp := cpk_ok (α := Int32 × (Nat → Int32) × (Nat → Int32)) 512 (by decide)
    rw [f_X5_mostApart_10, f_X12_photo_45, if_neg (show ¬ (8 : Int32) ≤ nI r from nI_ge (b := 8) hr (by decide)), if_neg (show ¬ (8 : Int32) ≤ nI r from nI_ge (b := 8) hr (by decide)), show ∀ o : Option (Int32 × (Nat → Int32) × (Nat → Int32)), cpk 512 512 0 0 512 o = o from cp, pew_eq, bs, z1, bs, m8', z2, bs, hy1]
    obtain ⟨r1, e1, g1⟩ := xRow (B := 9 * r) (by omega) hE gu (f_X5_mostApart_10 gu F) (nI s) (nI r) z x.1 (va_cpy x.1 x.2 (0 : Int32).toNatClampNeg (0 : Int32).toNatClampNeg (512 : Int32).toNatClampNeg) (fun S hS => by
      rw [← hx S hS]
      exact cpy_in x.1 x.2 (n := 512) hS)
    obtain ⟨mb', nx', e2, g2⟩ := mRow (B := 9 * r) (by omega) h0 hE now (f_X12_photo_45 now F') (nI s) (nI r) z y.2.1 y.2.2 hy
    rw [e1, e2, nI_1]
    refine ih (_, _) (_, _, _) ⟨okz z, eN V E, okz0 z, fun t ht _ => ?_, g2, rfl, g1⟩
    have : mS V E (511 - t) ≤ 9 * r := mx_b (fun t ht hv => hE t ht (by simp only [Bool.and_eq_true] at hv; exact hv.1))
    have := pop_le t
    show popc t + mS V E (511 - t) ≤ _
    omega
  · refine ⟨fun t => decide (t = 0), fun _ => 0, rfl, fun t _ _ => Nat.zero_le _, fun t ht => ?_, ?_, fun S hS => ?_⟩
    · show c' t = _
      rw [hc t ht]
      by_cases e : t = 0
      · simp [e]; rfl
      · simp [e]
    · have : mx (fun t => decide (t = 0)) (fun _ => 0) 512 ≤ 0 := mx_b (fun _ _ _ => Nat.le_refl _)
      rw [show mx (fun t => decide (t = 0)) (fun _ => 0) 512 = 0 by omega]
      rfl
    · have : mS (fun t => decide (t = 0)) (fun _ => 0) S ≤ 0 := mx_b (fun _ _ _ => Nat.le_refl _)
      rw [show mS (fun t => decide (t = 0)) (fun _ => 0) S = 0 by omega]
      show (if 0 ≤ S ∧ S < 512 then (0 : Int32) else a S) = _
      rw [if_pos (by omega)]
      rfl
theorem pm_photo {XA : Nat → Nat → Int32} {XI : Nat → Int32} {MA : Nat → Nat → Int32} {MI : Nat → Int32} (h : Inv XA XI MA MI) (x1 : Int32) : ∃ (rX : Int32 × (Nat → Int32) × (Nat → Int32)) (rM : Int32 × (Nat → Int32) × (Nat → Int32)), f_X11_photo (XA 1) (XA 15) (XA 16) x1 = some rX ∧ f_X12_photo (MA 0) (MA 24) (MA 25) x1 = some rM ∧ rX.1 = rM.1 ∧ Inv (va_up (va_up XA 15 rX.2.1) 16 rX.2.2) XI (va_up (va_up MA 24 rM.2.1) 25 rM.2.2) MI := by
  obtain ⟨hT, hC, hk, hkk, hL⟩ := h
  suffices q : T2 (f_X11_photo (XA 1) (XA 15) (XA 16) x1) (f_X12_photo (MA 0) (MA 24) (MA 25) x1) (fun x y => x.1 = y.1) by
    obtain ⟨rX, rM, q1, q2, q3⟩ := q
    exact ⟨rX, rM, q1, q2, q3, hT, hC, hk, hkk, hL⟩
  unfold f_X11_photo f_X12_photo
  rw [isSide_eq, show (1 : Int32) = nI 1 from rfl]
  rcases wi x1 1 (by decide) with ⟨c1, c2, -⟩ | ⟨s, hs, rfl, c1, c2⟩
  · rw [c1, c2]; exact T2.ret rfl
  · rw [c1, c2, bs, bs, if_neg i10, if_neg i10]
    obtain ⟨x, y, p, q, e⟩ := ph2 hC.1 (show s < 2 by omega) (XA 15) (XA 16) (MA 24) (MA 25)
    rw [p, q, bs]
    exact T2.ret e
