section
/-! the law's text: signs -/
theorem tab {P : Int32 → Bool} (h : (List.range 256).all (fun c => P (nI c)) = true) (hm : P (-1) = true) {bt : Nat → Int32} (hB : BY bt) {n : Nat} (hn : n ≤ 260) (p : Nat) : P (sg bt n p) = true := by
  rcases sgC hB hn p with ⟨e, _⟩ | ⟨c, hc, e, _⟩
  · rw [e]; exact hm
  · rw [e]; exact List.all_eq_true.mp h c (List.mem_range.mpr hc)
theorem sg_lt {bt : Nat → Int32} {n p : Nat} (h : sg bt n p ≠ -1) : p < n := by
  rcases Nat.lt_or_ge p n with q | q
  · exact q
  · exact absurd (if_neg (by omega)) h
theorem wh_lt {bt : Nat → Int32} {n p k j : Nat} (h : wh k (sg bt n p) = nI j) (hj : j < 2 ^ 31) : p < n := by
  refine sg_lt (bt := bt) (fun e => ?_)
  rw [e, whm] at h
  exact nI_nm1 hj h.symm
def tMul (s : Int32) : Bool := decide (wh 2 s = -1 ∨ (wh 2 s = nI 0 ∧ f_X12_sumSign s = some (nI 4)) ∨ (wh 2 s = nI 1 ∧ f_X12_sumSign s = some (nI 5)) ∨ (wh 2 s = nI 2 ∧ f_X12_sumSign s = some (nI 6)))
def tAdd (s : Int32) : Bool := decide (¬ wh 2 s = -1 ∨ (wh 3 s = -1 ∧ f_X12_sumSign s = some (-1)) ∨ (wh 3 s = nI 0 ∧ f_X12_sumSign s = some (nI 2)) ∨ (wh 3 s = nI 1 ∧ f_X12_sumSign s = some (nI 3)))
def tFac (s : Int32) : Bool := decide (wh 1 s = -1 ∧ f_X12_factOf s = some (-1)) || (List.range 12).any (fun a => decide (wh 1 s = nI a ∧ f_X12_factOf s = some (nI (fmap a))))
def tCmp (s : Int32) : Bool := decide ((wh 4 s = -1 ∧ ¬ s = 60 ∧ ¬ s = 62 ∧ ¬ s = 61) ∨ (wh 4 s = nI 0 ∧ s = 60) ∨ (wh 4 s = nI 1 ∧ s = 62) ∨ (wh 4 s = nI 2 ∧ s = 61))
def tRul (s : Int32) : Bool := decide ((wh 0 s = -1 ∧ ¬ s = 101 ∧ ¬ s = 121 ∧ ¬ s = 111) ∨ (wh 0 s = nI 0 ∧ s = 101) ∨ (wh 0 s = nI 1 ∧ s = 121) ∨ (wh 0 s = nI 2 ∧ s = 111))
theorem tMul_t : (List.range 256).all (fun c => tMul (nI c)) = true := by decide +kernel
theorem tAdd_t : (List.range 256).all (fun c => tAdd (nI c)) = true := by decide +kernel
theorem tFac_t : (List.range 256).all (fun c => tFac (nI c)) = true := by decide +kernel
theorem tCmp_t : (List.range 256).all (fun c => tCmp (nI c)) = true := by decide +kernel
theorem tRul_t : (List.range 256).all (fun c => tRul (nI c)) = true := by decide +kernel
theorem mulS {bt : Nat → Int32} (hB : BY bt) {n : Nat} (hn : n ≤ 260) (p : Nat) : wh 2 (sg bt n p) = -1 ∨ ∃ m : Nat, m < 3 ∧ wh 2 (sg bt n p) = nI m ∧ f_X12_sumSign (sg bt n p) = some (nI (m + 4)) ∧ p < n := by
  rcases of_decide_eq_true (tab (P := tMul) tMul_t (by decide +kernel) hB hn p) with h | ⟨h, h'⟩ | ⟨h, h'⟩ | ⟨h, h'⟩
  · exact Or.inl h
  · exact Or.inr ⟨0, by decide, h, h', wh_lt h (by decide)⟩
  · exact Or.inr ⟨1, by decide, h, h', wh_lt h (by decide)⟩
  · exact Or.inr ⟨2, by decide, h, h', wh_lt h (by decide)⟩
theorem addS {bt : Nat → Int32} (hB : BY bt) {n : Nat} (hn : n ≤ 260) (p : Nat) (h2 : wh 2 (sg bt n p) = -1) : (wh 3 (sg bt n p) = -1 ∧ f_X12_sumSign (sg bt n p) = some (-1)) ∨ ∃ m : Nat, m < 2 ∧ wh 3 (sg bt n p) = nI m ∧ f_X12_sumSign (sg bt n p) = some (nI (m + 2)) ∧ p < n := by
  rcases of_decide_eq_true (tab (P := tAdd) tAdd_t (by decide +kernel) hB hn p) with h | h | ⟨h, h'⟩ | ⟨h, h'⟩
  · exact absurd h2 h
  · exact Or.inl h
  · exact Or.inr ⟨0, by decide, h, h', wh_lt h (by decide)⟩
  · exact Or.inr ⟨1, by decide, h, h', wh_lt h (by decide)⟩
theorem facS {bt : Nat → Int32} (hB : BY bt) {n : Nat} (hn : n ≤ 260) (p : Nat) : (wh 1 (sg bt n p) = -1 ∧ f_X12_factOf (sg bt n p) = some (-1)) ∨ ∃ a : Nat, a < 12 ∧ wh 1 (sg bt n p) = nI a ∧ f_X12_factOf (sg bt n p) = some (nI (fmap a)) ∧ p < n := by
  have h := tab (P := tFac) tFac_t (by decide +kernel) hB hn p
  unfold tFac at h
  rw [Bool.or_eq_true] at h
  rcases h with h | h
  · exact Or.inl (of_decide_eq_true h)
  · obtain ⟨a, ha, hh⟩ := List.any_eq_true.mp h
    obtain ⟨h1, h2⟩ := of_decide_eq_true hh
    have ha := List.mem_range.mp ha
    exact Or.inr ⟨a, ha, h1, h2, wh_lt h1 (by omega)⟩
theorem cmpS {bt : Nat → Int32} (hB : BY bt) {n : Nat} (hn : n ≤ 260) (p : Nat) : (wh 4 (sg bt n p) = -1 ∧ ¬ sg bt n p = 60 ∧ ¬ sg bt n p = 62 ∧ ¬ sg bt n p = 61) ∨ (wh 4 (sg bt n p) = nI 0 ∧ sg bt n p = 60) ∨ (wh 4 (sg bt n p) = nI 1 ∧ sg bt n p = 62) ∨ (wh 4 (sg bt n p) = nI 2 ∧ sg bt n p = 61) :=
  of_decide_eq_true (tab (P := tCmp) tCmp_t (by decide +kernel) hB hn p)
theorem rulS {bt : Nat → Int32} (hB : BY bt) {n : Nat} (hn : n ≤ 260) (p : Nat) : (wh 0 (sg bt n p) = -1 ∧ ¬ sg bt n p = 101 ∧ ¬ sg bt n p = 121 ∧ ¬ sg bt n p = 111) ∨ (wh 0 (sg bt n p) = nI 0 ∧ sg bt n p = 101) ∨ (wh 0 (sg bt n p) = nI 1 ∧ sg bt n p = 121) ∨ (wh 0 (sg bt n p) = nI 2 ∧ sg bt n p = 111) :=
  of_decide_eq_true (tab (P := tRul) tRul_t (by decide +kernel) hB hn p)
/-! a code that is well typed, put together -/
def Ty (de va : Nat → Int32) (a b s s' : Nat) : Prop := ∃ t : Nat → Nat, t a = s ∧ wtR de va t a b ∧ t b = s'
theorem Ty.nil {de va : Nat → Int32} {a s : Nat} : Ty de va a a s s := ⟨fun _ => s, rfl, fun k h1 h2 => by omega, rfl⟩
theorem Ty.app {de va : Nat → Int32} {a b c s s' s'' : Nat} (hab : a ≤ b) (hbc : b ≤ c) (h1 : Ty de va a b s s') (h2 : Ty de va b c s' s'') : Ty de va a c s s'' := by
  obtain ⟨t1, x1, w1, y1⟩ := h1
  obtain ⟨t2, x2, w2, y2⟩ := h2
  have eL : ∀ k : Nat, k ≤ b → (if k ≤ b then t1 k else t2 k) = t1 k := fun k hk => if_pos hk
  have eR : ∀ k : Nat, b ≤ k → (if k ≤ b then t1 k else t2 k) = t2 k := fun k hk => by
    by_cases e : k ≤ b
    · rw [if_pos e, show k = b by omega, y1, x2]
    · rw [if_neg e]
  refine ⟨fun k => if k ≤ b then t1 k else t2 k, (eL a hab).trans x1, ?_, (eR c hbc).trans y2⟩
  intro k h1 h2
  by_cases hk : k < b
  · show _ ∨ _ ∨ _ ∨ _ ∨ _
    simp only [eL k (by omega), eL (k + 1) (by omega)]
    rcases w1 k h1 hk with q | q | ⟨q1, q2, q3, v, q4, q5, q6, q7⟩ | q | q
    · exact Or.inl q
    · exact Or.inr (Or.inl q)
    · exact Or.inr (Or.inr (Or.inl ⟨q1, q2, q3, v, q4, q5, by omega, (eL v q6).trans q7⟩))
    · exact Or.inr (Or.inr (Or.inr (Or.inl q)))
    · exact Or.inr (Or.inr (Or.inr (Or.inr q)))
  · show _ ∨ _ ∨ _ ∨ _ ∨ _
    simp only [eR k (by omega), eR (k + 1) (by omega)]
    rcases w2 k (by omega) h2 with q | q | ⟨q1, q2, q3, v, q4, q5, q6, q7⟩ | q | q
    · exact Or.inl q
    · exact Or.inr (Or.inl q)
    · exact Or.inr (Or.inr (Or.inl ⟨q1, q2, q3, v, q4, q5, by omega, (eR v (by omega)).trans q7⟩))
    · exact Or.inr (Or.inr (Or.inr (Or.inl q)))
    · exact Or.inr (Or.inr (Or.inr (Or.inr q)))
theorem Ty.cong {de va de' va' : Nat → Int32} {a b s s' : Nat} (h : Ty de va a b s s') (e : ∀ k : Nat, a ≤ k → k < b → de' k = de k ∧ va' k = va k) : Ty de' va' a b s s' := by
  obtain ⟨t, x, w, y⟩ := h
  refine ⟨t, x, fun k h1 h2 => ?_, y⟩
  rw [(e k h1 h2).1, (e k h1 h2).2]
  exact w k h1 h2
theorem Ty.one {de va : Nat → Int32} {c s s' : Nat} (h : ((de c = 0 ∨ de c = 1) ∧ s < 32 ∧ s' = s + 1) ∨ (de c = 2 ∧ s = 100 ∧ s' = 100) ∨ ((∃ o : Nat, 5 ≤ o ∧ o ≤ 9 ∧ de c = nI o) ∧ 2 ≤ s ∧ s ≤ 32 ∧ s' = s - 1) ∨ ((∃ o : Nat, 10 ≤ o ∧ o ≤ 12 ∧ de c = nI o) ∧ s = 2 ∧ s' = 100)) : Ty de va c (c + 1) s s' := by
  refine ⟨fun k => if k = c then s else s', if_pos rfl, fun k h1 h2 => ?_, if_neg (by omega)⟩
  obtain rfl : k = c := by omega
  show _ ∨ _ ∨ _ ∨ _ ∨ _
  simp only [if_pos (show k = k from rfl), if_neg (show ¬ k + 1 = k by omega)]
  rcases h with q | q | q | q
  · exact Or.inl q
  · exact Or.inr (Or.inl q)
  · exact Or.inr (Or.inr (Or.inr (Or.inl q)))
  · exact Or.inr (Or.inr (Or.inr (Or.inr q)))
theorem Ty.leap {de va : Nat → Int32} {k v : Nat} (hd : de k = 3 ∨ de k = 4) (hv : va k = nI v) (hk : k < v) (h : Ty de va (k + 1) v 0 100) : Ty de va k v 100 100 := by
  obtain ⟨t, x, w, y⟩ := h
  have eR : ∀ j : Nat, k < j → (if j = k then 100 else t j) = t j := fun j hj => if_neg (by omega)
  refine ⟨fun j => if j = k then 100 else t j, if_pos rfl, fun j h1 h2 => ?_, (eR v hk).trans y⟩
  by_cases e : j = k
  · subst e
    refine Or.inr (Or.inr (Or.inl ⟨hd, if_pos rfl, (eR (j + 1) (by omega)).trans x, v, hv, hk, Nat.le_refl _, (eR v hk).trans y⟩))
  · show _ ∨ _ ∨ _ ∨ _ ∨ _
    simp only [eR j (by omega), eR (j + 1) (by omega)]
    rcases w j (by omega) h2 with q | q | ⟨q1, q2, q3, v', q4, q5, q6, q7⟩ | q | q
    · exact Or.inl q
    · exact Or.inr (Or.inl q)
    · exact Or.inr (Or.inr (Or.inl ⟨q1, q2, q3, v', q4, q5, q6, (eR v' (by omega)).trans q7⟩))
    · exact Or.inr (Or.inr (Or.inr (Or.inl q)))
    · exact Or.inr (Or.inr (Or.inr (Or.inr q)))
/-! the same code in both, and what still waits there -/
def CR (de va sd : Nat → Int32) (cm : Nat) : Prop := ∀ k : Nat, k < cm → opR (de k) (va k) (sd k)
theorem opB {m a : Nat} (h1 : 2 ≤ m) (h2 : m ≤ 9) (ha : a < 1048576) : opR (nI (m + 3)) (nI a) (nI (1048576 * m)) := ⟨m + 3, m, a, 0, rfl, rfl, rfl, by decide, Or.inr (Or.inr (Or.inr (Or.inr (Or.inr ⟨by omega, by omega, by omega⟩))))⟩
def PS (de va wa : Nat → Int32) (cm w c w0 : Nat) : Prop := (w = w0 ∧ cm = c) ∨ ∃ m : Nat, 4 ≤ m ∧ m ≤ 6 ∧ w = w0 + 1 ∧ wa w0 = nI (1048576 * m) ∧ c = cm + 1 ∧ de cm = nI (m + 3) ∧ va cm = nI 0
def SS (de va wa : Nat → Int32) (cm w c w1 : Nat) : Prop := ∃ c0 w0 : Nat, PS de va wa cm w c0 w0 ∧ ((w0 = w1 ∧ c0 = c) ∨ ∃ m : Nat, 2 ≤ m ∧ m ≤ 3 ∧ w0 = w1 + 1 ∧ wa w1 = nI (1048576 * m) ∧ c = c0 + 1 ∧ de c0 = nI (m + 3) ∧ va c0 = nI 0)
def tpv (wa : Nat → Int32) (w : Nat) : Int32 := if w = 0 then -1 else wa (w - 1) / 1048576
theorem tpv_s {wa : Nat → Int32} {w q r : Nat} (h : wa w = nI (1048576 * q + r)) (hq : q < 100) (hr : r < 1048576) : tpv wa (w + 1) = nI q := by
  unfold tpv
  rw [if_neg (by omega), show w + 1 - 1 = w from rfl, h, show nI (1048576 * q + r) / 1048576 = nI ((1048576 * q + r) / 1048576) from dv_eq (by omega) (by decide) (by decide)]
  congr 1
  omega
theorem tpv_c {wa wa' : Nat → Int32} {w : Nat} (h : ∀ k : Nat, k < w → wa' k = wa k) : tpv wa' w = tpv wa w := by
  unfold tpv
  by_cases e : w = 0
  · rw [if_pos e, if_pos e]
  · rw [if_neg e, if_neg e, h (w - 1) (by omega)]
theorem wTop (wa : Nat → Int32) {w : Nat} (h : w ≤ 260) : f_X12_waitTop (nI w) wa = some (tpv wa w) := by
  unfold f_X12_waitTop tpv
  by_cases e : w = 0
  · rw [if_pos e, e, if_pos (show nI 0 = 0 from rfl)]
  · rw [if_neg e, if_neg (nI_ne0 (by omega) (by omega)), show nI w - 1 = nI (w - 1) from pk_sub (a := w) (b := 1) (by omega), ixn (by omega) (by decide), nI_clamp (by omega)]
def st1 (v : Int32) : Prop := v = -1 ∨ ∃ q : Nat, q < 100 ∧ 7 ≤ q ∧ v = nI q
def st0 (v : Int32) : Prop := v = -1 ∨ ∃ q : Nat, q < 100 ∧ (q = 2 ∨ q = 3 ∨ 7 ≤ q) ∧ v = nI q
theorem st1.z {v : Int32} (h : st1 v) : st0 v := by
  rcases h with h | ⟨q, a, b, c⟩
  · exact Or.inl h
  · exact Or.inr ⟨q, a, by omega, c⟩
theorem csZ {wa : Nat → Int32} {w : Nat} (hw : w ≤ 260) (h : st0 (tpv wa w)) (F : Nat) (cm : Int32) (sd : Nat → Int32) : f_X12_closesSums_0 wa (F + 1) 0 cm (nI w) sd = some (cm, nI w, sd) := by
  have e : f_X12_closesSums_17 wa (f_X12_closesSums_0 wa F) 0 cm (nI w) sd = some (cm, nI w, sd) := by
    unfold f_X12_closesSums_17
    rw [if_pos rfl]
  rw [f_X12_closesSums_0, wTop wa hw, bs, bs, e]
  split
  · rfl
  · rcases h with h | ⟨q, a, b, c⟩
    · rename_i hh
      exact absurd (by rw [h]; decide) hh
    · rename_i hh
      rw [c] at hh ⊢
      have : ¬ q < 4 := fun z => hh (show nI q < nI 4 from nI_lt z (by decide))
      rw [if_neg (show ¬ nI q ≤ 6 from nI_ge (a := 6) (b := q) (by omega) (by omega))]
theorem csO {wa : Nat → Int32} {w : Nat} (hw : w ≤ 260) (h : st1 (tpv wa w)) (F : Nat) (cm : Int32) (sd : Nat → Int32) : f_X12_closesSums_0 wa (F + 1) 1 cm (nI w) sd = some (cm, nI w, sd) := by
  have hn2 : ¬ tpv wa w = 2 := by
    rcases h with h | ⟨q, a, b, c⟩
    · rw [h]; decide
    · rw [c]; exact ne (c := 2) (by omega) (by decide) (by omega)
  have hn3 : ¬ tpv wa w = 3 := by
    rcases h with h | ⟨q, a, b, c⟩
    · rw [h]; decide
    · rw [c]; exact ne (c := 3) (by omega) (by decide) (by omega)
  have e : f_X12_closesSums_17 wa (f_X12_closesSums_0 wa F) 1 cm (nI w) sd = some (cm, nI w, sd) := by
    unfold f_X12_closesSums_17
    rw [if_neg i10, wTop wa hw, bs, if_neg hn2, bs, if_neg hn3]
  rw [f_X12_closesSums_0, wTop wa hw, bs, bs, e]
  split
  · rfl
  · rcases h with h | ⟨q, a, b, c⟩
    · rename_i hh
      exact absurd (by rw [h]; decide) hh
    · rw [c, if_neg (show ¬ nI q ≤ 6 from nI_ge (a := 6) (b := q) (by omega) (by omega))]
theorem note1 {cm : Nat} (h : cm < 260) (sd : Nat → Int32) (m : Nat) : f_X12_notes (nI cm) sd (nI m) 0 = some (nI (cm + 1), upd sd cm (nI (1048576 * m))) := by
  unfold f_X12_notes
  rw [ixn h (by decide), nI_1, nI_clamp (by omega), Int32.add_zero, show (1048576 : Int32) * nI m = nI (1048576 * m) from lm 1048576 m]
theorem csM {wa : Nat → Int32} {w cm m : Nat} (hw : w < 260) (hcm : cm < 260) (h4 : 4 ≤ m) (h6 : m ≤ 6) (h : wa w = nI (1048576 * m)) (F : Nat) (x : Int32) (sd : Nat → Int32) : f_X12_closesSums_0 wa (F + 1) x (nI cm) (nI (w + 1)) sd = f_X12_closesSums_0 wa F x (nI (cm + 1)) (nI w) (upd sd cm (nI (1048576 * m))) := by
  rw [f_X12_closesSums_0, wTop wa (by omega), bs, bs, tpv_s (q := m) (r := 0) h (by omega) (by decide), if_neg (show ¬ nI m < 4 from nI_nlt (b := 4) h4 (by omega)), if_pos (show nI m ≤ 6 from nI_le (b := 6) h6 (by decide))]
  unfold f_X12_closesSums_37
  rw [wTop wa (by omega), bs, tpv_s (q := m) (r := 0) h (by omega) (by decide), note1 hcm, bs, nI_pred]
theorem csP {wa : Nat → Int32} {w cm m : Nat} (hw : w < 260) (hcm : cm < 260) (h4 : 2 ≤ m) (h6 : m ≤ 3) (h : wa w = nI (1048576 * m)) (F : Nat) (sd : Nat → Int32) : f_X12_closesSums_0 wa (F + 1) 1 (nI cm) (nI (w + 1)) sd = f_X12_closesSums_0 wa F 1 (nI (cm + 1)) (nI w) (upd sd cm (nI (1048576 * m))) := by
  have e : f_X12_closesSums_17 wa (f_X12_closesSums_0 wa F) 1 (nI cm) (nI (w + 1)) sd = f_X12_closesSums_0 wa F 1 (nI (cm + 1)) (nI w) (upd sd cm (nI (1048576 * m))) := by
    unfold f_X12_closesSums_17 f_X12_closesSums_37
    rw [if_neg i10, wTop wa (by omega), bs, bs, bs, tpv_s (q := m) (r := 0) h (by omega) (by decide), note1 hcm, bs, nI_pred]
    have : m = 2 ∨ m = 3 := by omega
    rcases this with rfl | rfl
    · rw [if_pos (show nI 2 = 2 from rfl)]
    · rw [if_neg (show ¬ nI 3 = 2 by decide), if_pos (show nI 3 = 3 from rfl)]
  rw [f_X12_closesSums_0, wTop wa (by omega), bs, tpv_s (q := m) (r := 0) h (by omega) (by decide), if_pos (show nI m < 4 from nI_lt (b := 4) (by omega) (by decide)), e]
theorem CR.add {de va sd : Nat → Int32} {cm m : Nat} (h : CR de va sd cm) (h1 : 2 ≤ m) (h2 : m ≤ 9) (hd : de cm = nI (m + 3)) (hv : va cm = nI 0) : CR de va (upd sd cm (nI (1048576 * m))) (cm + 1) := by
  intro k hk
  by_cases e : k = cm
  · rw [e, upd_s, hd, hv]; exact opB h1 h2 (by decide)
  · rw [upd_n e]; exact h k (by omega)
theorem cs0 {de va sd wa : Nat → Int32} {cm w c w0 : Nat} (h : PS de va wa cm w c w0) (hC : CR de va sd cm) (hs : st0 (tpv wa w0)) (hw : w ≤ 250) (hc : c ≤ 250) : ∃ sd', f_X12_closesSums (nI cm) (nI w) sd wa 0 = some (nI c, nI w0, sd') ∧ CR de va sd' c := by
  unfold f_X12_closesSums
  rcases h with ⟨rfl, rfl⟩ | ⟨m, m1, m2, rfl, m4, rfl, m6, m7⟩
  · exact ⟨sd, csZ (by omega) hs 9999 _ sd, hC⟩
  · refine ⟨_, ?_, hC.add (by omega) (by omega) m6 m7⟩
    rw [show FU = 9998 + 1 + 1 from rfl, csM (by omega) (by omega) m1 m2 m4]
    exact csZ (by omega) hs _ _ _
theorem cs1 {de va sd wa : Nat → Int32} {cm w c w1 : Nat} (h : SS de va wa cm w c w1) (hC : CR de va sd cm) (hs : st1 (tpv wa w1)) (hw : w ≤ 250) (hc : c ≤ 250) : ∃ sd', f_X12_closesSums (nI cm) (nI w) sd wa 1 = some (nI c, nI w1, sd') ∧ CR de va sd' c := by
  unfold f_X12_closesSums
  obtain ⟨c0, w0, hp, h⟩ := h
  have tl : ∀ (F : Nat) (sd : Nat → Int32), w0 ≤ 250 → c0 ≤ 250 → CR de va sd c0 → ∃ sd', f_X12_closesSums_0 wa (F + 1 + 1) 1 (nI c0) (nI w0) sd = some (nI c, nI w1, sd') ∧ CR de va sd' c := by
    intro F sd hw0 hc0 hC
    rcases h with ⟨rfl, rfl⟩ | ⟨m, m1, m2, rfl, m4, rfl, m6, m7⟩
    · exact ⟨sd, csO (by omega) hs _ _ sd, hC⟩
    · refine ⟨_, ?_, hC.add (by omega) (by omega) m6 m7⟩
      rw [csP (by omega) (by omega) m1 m2 m4]
      exact csO (by omega) hs _ _ _
  rcases hp with ⟨rfl, rfl⟩ | ⟨m, m1, m2, rfl, m4, rfl, m6, m7⟩
  · exact tl 9998 sd hw (by rcases h with ⟨_, h⟩ | ⟨_, _, _, _, _, h, _⟩ <;> omega) hC
  · rw [show FU = 9997 + 1 + 1 + 1 from rfl, csM (by omega) (by rcases h with ⟨_, h⟩ | ⟨_, _, _, _, _, h, _⟩ <;> omega) m1 m2 m4]
    exact tl 9997 _ (by omega) (by rcases h with ⟨_, h⟩ | ⟨_, _, _, _, _, h, _⟩ <;> omega) (hC.add (by omega) (by omega) m6 m7)
theorem hos1 {wa : Nat → Int32} {w : Nat} (hw : w ≤ 250) : ∀ (j F b k : Nat), w - b ≤ j → j < F → b ≤ k → k < w → wa k / 1048576 = 14 → f_X12_hasOpenSum_2 (nI w) wa F (nI b) = some 1 := by
  intro j
  induction j with
  | zero => intro F b k h1 h2 h3 h4 h5; omega
  | succ j ih =>
    intro F b k h1 h2 h3 h4 h5
    obtain ⟨F, rfl⟩ : ∃ G, F = G + 1 := ⟨F - 1, by omega⟩
    rw [f_X12_hasOpenSum_2, if_neg (nI_ge (show b < w by omega) (by omega)), ixn (show b < 260 by omega) (by decide), nI_clamp (by omega), nI_1]
    by_cases e : wa b / 1048576 = 14
    · rw [if_pos e]
    · rw [if_neg e]
      have : b ≠ k := fun z => e (by rw [z]; exact h5)
      exact ih F (b + 1) k (by omega) (by omega) (by omega) h4 h5
theorem hos0 {wa : Nat → Int32} {w : Nat} (hw : w ≤ 250) : ∀ (j F b : Nat), b ≤ 250 → w - b ≤ j → j < F → (∀ k : Nat, b ≤ k → k < w → ¬ wa k / 1048576 = 14) → f_X12_hasOpenSum_2 (nI w) wa F (nI b) = some 0 := by
  intro j
  induction j with
  | zero =>
    intro F b h0 h1 h2 h3
    obtain ⟨F, rfl⟩ : ∃ G, F = G + 1 := ⟨F - 1, by omega⟩
    rw [f_X12_hasOpenSum_2, if_pos (nI_le (by omega) (by omega))]
  | succ j ih =>
    intro F b h0 h1 h2 h3
    obtain ⟨F, rfl⟩ : ∃ G, F = G + 1 := ⟨F - 1, by omega⟩
    by_cases e : w ≤ b
    · exact (ih (F + 1) b h0 (by omega) (by omega) h3)
    · rw [f_X12_hasOpenSum_2, if_neg (nI_ge (show b < w by omega) (by omega)), ixn (show b < 260 by omega) (by decide), nI_clamp (by omega), nI_1, if_neg (h3 b (Nat.le_refl _) (by omega))]
      exact ih F (b + 1) (by omega) (by omega) (by omega) (fun k a b => h3 k (by omega) b)
end
