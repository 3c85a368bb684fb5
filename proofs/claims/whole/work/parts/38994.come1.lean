section
/-! the law asked in both -/
theorem rek0 {deeds values codes fx fm : Nat → Int32} {t : Nat → Nat} {a e : Nat} (hae : a ≤ e) (he : e ≤ 240) (hw : wtR deeds values t a e) (ho : ∀ k : Nat, a ≤ k → k < e → opR (deeds k) (values k) (codes k)) (hf : FR fx fm) (h0 : t a = 0) (hte : t e = 1 ∨ t e = 100) (sx sm : Nat → Int32) :
    T2 (f_X2_reckon deeds values sx fx (nI a) (nI e)) (f_X12_comesTo codes sm fm (nI a) (nI e)) (fun x y => x.1 = y.1 ∧ (t e = 100 → x.1 = 0 ∨ x.1 = 1)) := by
  unfold f_X2_reckon f_X12_comesTo
  have h := rek he hw ho hf hte (e - a) a 0 FU FU sx sm (Nat.le_refl _) (FU_big (by omega)) (FU_big (by omega)) (Nat.le_refl _) hae (Nat.zero_le _) (Or.inr (by rw [h0]; decide)) (fun i hi => by rw [h0] at hi; exact absurd hi (Nat.not_lt_zero i)) (fun z => by rw [h0] at z; exact absurd z (by decide))
  rw [h0, show nI (ptr 0) = 0 from rfl, show nI 0 = 0 from rfl] at h
  rw [show (260 : Int32) * (nI a / 260) = 0 by rw [show nI a / 260 = nI (a / 260) from dv_eq (by omega) (by decide) (by decide), show a / 260 = 0 by omega]; rfl]
  exact h
theorem clip2 (z hi : Int32) (hh : (0 : Int32) ≤ hi) : (if 0 < (if z < hi then z else hi) then (if z < hi then z else hi) else 0) = (if 0 ≤ z then (if z ≤ hi then z else hi) else 0) := by
  have h0 : (0 : Int32).toInt = 0 := by decide
  rw [Int32.le_iff_toInt_le, h0] at hh
  have eqi : ∀ a b : Int32, a.toInt = b.toInt → a = b := fun a b h => Int32.toInt_inj.mp h
  by_cases c1 : z < hi
  · rw [if_pos c1]
    have c1' := Int32.lt_iff_toInt_lt.mp c1
    by_cases c2 : (0 : Int32) < z
    · have c2' := Int32.lt_iff_toInt_lt.mp c2
      rw [h0] at c2'
      rw [if_pos c2, if_pos (Int32.le_iff_toInt_le.mpr (by rw [h0]; omega)), if_pos (Int32.le_iff_toInt_le.mpr (by omega))]
    · rw [if_neg c2]
      by_cases c3 : (0 : Int32) ≤ z
      · rw [if_pos c3, if_pos (Int32.le_iff_toInt_le.mpr (by omega))]
        have c3' := Int32.le_iff_toInt_le.mp c3
        have c2' : ¬ (0 : Int32).toInt < z.toInt := fun q => c2 (Int32.lt_iff_toInt_lt.mpr q)
        exact eqi _ _ (by omega)
      · rw [if_neg c3]
  · have c1' : ¬ z.toInt < hi.toInt := fun q => c1 (Int32.lt_iff_toInt_lt.mpr q)
    rw [if_neg c1, if_pos (show (0 : Int32) ≤ z from Int32.le_iff_toInt_le.mpr (by rw [h0]; omega))]
    have e1 : (if z ≤ hi then z else hi) = hi := by
      by_cases c : z ≤ hi
      · rw [if_pos c]
        have := Int32.le_iff_toInt_le.mp c
        exact eqi _ _ (by omega)
      · rw [if_neg c]
    rw [e1]
    by_cases c : (0 : Int32) < hi
    · rw [if_pos c]
    · rw [if_neg c]
      have c' : ¬ (0 : Int32).toInt < hi.toInt := fun q => c (Int32.lt_iff_toInt_lt.mpr q)
      exact eqi _ _ (by omega)
theorem worth2 {deeds values kinds ss ts te codes clauseOf cf ch ct fx fm : Nat → Int32} {rules clauses : Int32} (hL : LwR deeds values kinds ss ts te rules codes clauseOf cf ch ct clauses) (hf : FR fx fm) {kd lt : Int32} (hk : (kd = 0 ∧ lt = 101) ∨ (kd = 1 ∧ lt = 121)) {hi : Int32} (hh : (0 : Int32) ≤ hi) (sx sm : Nat → Int32) :
    T2 (f_X2_worth rules deeds values kinds ss ts te sx fx kd hi) (f_X12_byLaw clauses codes clauseOf cf ch ct sm fm lt hi) (fun x y => x.1 = y.1) := by
  obtain ⟨r, hr, rfl, rfl, hq⟩ := hL
  unfold f_X2_worth f_X12_byLaw
  refine loop2 r (fun _ _ _ => True) (fun F i (s : Nat → Int32) => f_X2_worth_3 (nI r) deeds values kinds ss ts te fx F kd hi (nI i) s) (fun F i (s : Nat → Int32) => f_X12_byLaw_2 (nI r) codes clauseOf cf ch ct fm F lt hi (nI i) s) (fun x y => x.1 = y.1) ?_ ?_ r 0 sx sm FU FU (by omega) (FU_big (by omega)) (FU_big (by omega)) trivial
  · intro F F' s t _
    show T2 (f_X2_worth_3 (nI r) deeds values kinds ss ts te fx (F + 1) kd hi (nI r) s) (f_X12_byLaw_2 (nI r) codes clauseOf cf ch ct fm (F' + 1) lt hi (nI r) t) _
    rw [f_X2_worth_3, f_X12_byLaw_2, if_pos (nI_le (Nat.le_refl _) (by omega)), if_pos (nI_le (Nat.le_refl _) (by omega))]
    exact T2.ret rfl
  · intro F F' i s t hi' _ ih
    show T2 (f_X2_worth_3 (nI r) deeds values kinds ss ts te fx (F + 1) kd hi (nI i) s) (f_X12_byLaw_2 (nI r) codes clauseOf cf ch ct fm (F' + 1) lt hi (nI i) t) _
    rw [f_X2_worth_3, f_X12_byLaw_2, if_neg (nI_ge hi' (by omega)), if_neg (nI_ge hi' (by omega))]
    simp only [ixn (show i < 16 by omega) (show 16 < 2 ^ 31 by decide), nI_clamp (show i < 2 ^ 31 by omega), nI_1]
    obtain ⟨a, b, c, tt, hab, hbc, hc, e1, e2, e3, e4, e5, e6, hkd, hop, hk2, hsum, u, u1, u2, u3⟩ := hq i hi'
    rw [e1, e2, e3, e4, e5, e6]
    have hiff : kinds i = kd ↔ clauseOf i = lt := by
      rcases hk with ⟨rfl, rfl⟩ | ⟨rfl, rfl⟩ <;> rcases hkd with ⟨x, y⟩ | ⟨x, y⟩ | ⟨x, y⟩ <;> rw [x, y] <;> decide
    by_cases hkk : kinds i = kd
    · rw [if_pos hkk, if_pos (hiff.mp hkk)]
      refine T2.bind (rek0 (by omega) hc u2 (fun k h1 h2 => hop k (by omega) h2) hf u1 (Or.inr u3) s t) ?_
      intro x y hxy
      have hne : kinds i ≠ 2 := by
        rw [hkk]
        rcases hk with ⟨rfl, _⟩ | ⟨rfl, _⟩ <;> decide
      obtain ⟨t0, t1, t2⟩ := hsum hne
      rw [← hxy.1]
      rcases hxy.2 u3 with z | z
      · rw [z, if_pos rfl, if_neg (show ¬ (0 : Int32) = 1 by decide)]
        exact ih _ _ trivial
      · rw [z, if_neg i10, if_pos rfl]
        refine T2.bind (rek0 hab (by omega) t1 (fun k h1 h2 => hop k h1 (by omega)) hf t0 (Or.inl t2) x.2 y.2) ?_
        intro x' y' hxy'
        rw [clip2 x'.1 hi hh, ← hxy'.1]
        by_cases c1 : (0 : Int32) ≤ x'.1
        · rw [if_pos c1, if_pos c1]
          by_cases c2 : x'.1 ≤ hi
          · rw [if_pos c2, if_pos c2]; exact T2.ret rfl
          · rw [if_neg c2, if_neg c2]; exact T2.ret rfl
        · rw [if_neg c1, if_neg c1]; exact T2.ret rfl
    · rw [if_neg hkk, if_neg (fun q => hkk (hiff.mpr q))]
      exact ih _ _ trivial
theorem any2 {deeds values kinds ss ts te codes clauseOf cf ch ct fx fm : Nat → Int32} {rules clauses : Int32} (hL : LwR deeds values kinds ss ts te rules codes clauseOf cf ch ct clauses) (hf : FR fx fm) (sx sm : Nat → Int32) :
    T2 (f_X2_anyHolds rules deeds values kinds ts te sx fx 2) (f_X12_holdsAny clauses codes clauseOf ch ct sm fm 111) (fun x y => x.1 = y.1 ∧ (x.1 = 0 ∨ x.1 = 1)) := by
  obtain ⟨r, hr, rfl, rfl, hq⟩ := hL
  unfold f_X2_anyHolds f_X12_holdsAny
  refine loop2 r (fun _ _ _ => True) (fun F i (s : Nat → Int32) => f_X2_anyHolds_2 (nI r) deeds values kinds ts te fx F 2 (nI i) s) (fun F i (s : Nat → Int32) => f_X12_holdsAny_2 (nI r) codes clauseOf ch ct fm F 111 (nI i) s) (fun x y => x.1 = y.1 ∧ (x.1 = 0 ∨ x.1 = 1)) ?_ ?_ r 0 sx sm FU FU (by omega) (FU_big (by omega)) (FU_big (by omega)) trivial
  · intro F F' s t _
    show T2 (f_X2_anyHolds_2 (nI r) deeds values kinds ts te fx (F + 1) 2 (nI r) s) (f_X12_holdsAny_2 (nI r) codes clauseOf ch ct fm (F' + 1) 111 (nI r) t) _
    rw [f_X2_anyHolds_2, f_X12_holdsAny_2, if_pos (nI_le (Nat.le_refl _) (by omega)), if_pos (nI_le (Nat.le_refl _) (by omega))]
    exact T2.ret ⟨rfl, Or.inl rfl⟩
  · intro F F' i s t hi' _ ih
    show T2 (f_X2_anyHolds_2 (nI r) deeds values kinds ts te fx (F + 1) 2 (nI i) s) (f_X12_holdsAny_2 (nI r) codes clauseOf ch ct fm (F' + 1) 111 (nI i) t) _
    rw [f_X2_anyHolds_2, f_X12_holdsAny_2, if_neg (nI_ge hi' (by omega)), if_neg (nI_ge hi' (by omega))]
    simp only [ixn (show i < 16 by omega) (show 16 < 2 ^ 31 by decide), nI_clamp (show i < 2 ^ 31 by omega), nI_1]
    obtain ⟨a, b, c, tt, hab, hbc, hc, e1, e2, e3, e4, e5, e6, hkd, hop, hk2, hsum, u, u1, u2, u3⟩ := hq i hi'
    rw [e3, e4, e5, e6]
    have hiff : kinds i = 2 ↔ clauseOf i = 111 := by
      rcases hkd with ⟨x, y⟩ | ⟨x, y⟩ | ⟨x, y⟩ <;> rw [x, y] <;> decide
    by_cases hkk : kinds i = 2
    · rw [if_pos hkk, if_pos (hiff.mp hkk)]
      refine T2.bind (rek0 (by omega) hc u2 (fun k h1 h2 => hop k (by omega) h2) hf u1 (Or.inr u3) s t) ?_
      intro x y hxy
      rw [← hxy.1]
      rcases hxy.2 u3 with z | z
      · rw [z, if_pos rfl, if_neg (show ¬ (0 : Int32) = 1 by decide)]
        exact ih _ _ trivial
      · rw [z, if_neg i10, if_pos rfl]
        exact T2.ret ⟨rfl, Or.inr rfl⟩
    · rw [if_neg hkk, if_neg (fun q => hkk (hiff.mpr q))]
      exact ih _ _ trivial
/-! seats that are free -/
def fr (g co : Nat → Int32) (f : Int32) (k : Nat) : Bool := decide (g k = -1) && (decide (co k = -1) || decide (co k = f))
theorem xFr (g co : Nat → Int32) (f : Int32) {j : Nat} (h : j < 144) : f_X0_isFreeFor g co (nI j) f = some (if fr g co f j then 1 else 0) := by
  unfold f_X0_isFreeFor fr
  rw [xC co h, bs, xG g h, bs]
  by_cases c1 : g j = -1
  · rw [if_pos c1]
    by_cases c2 : co j = -1
    · rw [if_pos c2, decide_eq_true c1, decide_eq_true c2]; rfl
    · rw [if_neg c2]
      by_cases c3 : co j = f
      · rw [if_pos c3, decide_eq_true c1, decide_eq_false c2, decide_eq_true c3]; rfl
      · rw [if_neg c3, decide_eq_true c1, decide_eq_false c2, decide_eq_false c3]; rfl
  · rw [if_neg c1, decide_eq_false c1]; rfl
theorem a288 (j : Nat) : (288 : Int32) + nI j = nI (288 + j) := la 288 j
theorem mFr (now : Nat → Int32) (m : Int32) {j : Nat} (h : j < 144) : f_X12_isFree now (nI j) m = some (if fr now (fun k => now (288 + k)) (faM m) j then 1 else 0) := by
  unfold f_X12_isFree fr
  rw [mT now h, bs, a288]
  by_cases c1 : now j = -1
  · rw [if_pos c1, if_pos rfl, ixn (by omega) (by decide), nI_clamp (by omega)]
    by_cases c2 : now (288 + j) = -1
    · rw [if_pos c2, decide_eq_true c1, decide_eq_true c2]; rfl
    · rw [if_neg c2, ixn (by omega) (by decide)]
      show (if now (288 + j) = faM m then some (1 : Int32) else some 0) = _
      by_cases c3 : now (288 + j) = faM m
      · rw [if_pos c3, decide_eq_true c1, decide_eq_false c2, decide_eq_true c3]; rfl
      · rw [if_neg c3, decide_eq_true c1, decide_eq_false c2, decide_eq_false c3]; rfl
  · rw [if_neg c1, if_neg i10, decide_eq_false c1]; rfl
theorem Al_fr {gu now co : Nat → Int32} (h : Al gu now) (hc : ∀ k : Nat, k < 144 → co k = now (288 + k)) (f : Int32) {k : Nat} (hk : k < 144) : fr gu co f k = fr now (fun k => now (288 + k)) f k := by
  unfold fr
  rw [hc k hk]
  congr 1
  exact decide_eq_decide.mpr (h k hk).iff
/-- where a pew's seat is found, or not -/
def sIn (g co : Nat → Int32) (f : Int32) (p : Nat) (v : Int32) : Prop := (v = -1 ∧ ∀ i : Nat, i < 9 → fr g co f (9 * p + i) = false) ∨ ∃ i : Nat, i < 9 ∧ v = nI (9 * p + i) ∧ fr g co f (9 * p + i) = true
theorem seatA {gu now co : Nat → Int32} (h : Al gu now) (hc : ∀ k : Nat, k < 144 → co k = now (288 + k)) {f m : Int32} (hf : faM m = f) {p : Nat} (hp : p < 16) :
    T2 (f_X0_nearestToAisle gu co (nI p) f) (f_X12_seatIn now (nI p) m 0) (fun a b => a = b ∧ sIn gu co f p a) := by
  unfold f_X0_nearestToAisle f_X12_seatIn
  refine loop2 9 (fun i (_ _ : Unit) => ∀ j : Nat, j < i → fr gu co f (9 * p + j) = false) (fun F i _ => f_X0_nearestToAisle_2 gu co F (nI p) f (nI i)) (fun F i _ => f_X12_seatIn_3 now F (nI p) m 0 (nI i)) (fun a b => a = b ∧ sIn gu co f p a) ?_ ?_ 9 0 () () FU FU (by omega) (FU_big (by omega)) (FU_big (by omega)) (fun j hj => absurd hj (Nat.not_lt_zero j))
  · intro F F' _ _ hI
    show T2 (f_X0_nearestToAisle_2 gu co (F + 1) (nI p) f (nI 9)) (f_X12_seatIn_3 now (F' + 1) (nI p) m 0 (nI 9)) _
    rw [f_X0_nearestToAisle_2, f_X12_seatIn_3, if_pos (show (9 : Int32) ≤ nI 9 from nI_le (Nat.le_refl _) (by decide)), if_pos (show (9 : Int32) ≤ nI 9 from nI_le (Nat.le_refl _) (by decide))]
    exact T2.ret ⟨rfl, Or.inl ⟨rfl, hI⟩⟩
  · intro F F' i _ _ hi hI ih
    show T2 (f_X0_nearestToAisle_2 gu co (F + 1) (nI p) f (nI i)) (f_X12_seatIn_3 now (F' + 1) (nI p) m 0 (nI i)) _
    rw [f_X0_nearestToAisle_2, f_X12_seatIn_3, if_neg (show ¬ (9 : Int32) ≤ nI i from nI_ge (b := 9) hi (by decide)), if_neg (show ¬ (9 : Int32) ≤ nI i from nI_ge (b := 9) hi (by decide)), if_pos rfl, m9, xFr gu co f (by omega), bs]
    unfold f_X12_seatIn_28
    rw [m9', mFr now m (by omega), bs, hf, ← Al_fr h hc f (show 9 * p + i < 144 by omega), nI_1]
    by_cases c : fr gu co f (9 * p + i) = true
    · rw [if_pos c, if_neg i10, if_neg i10]
      exact T2.ret ⟨rfl, Or.inr ⟨i, hi, rfl, c⟩⟩
    · rw [if_neg c, if_pos rfl, if_pos rfl]
      refine ih () () (fun j hj => ?_)
      by_cases e : j = i
      · rw [e]; exact Bool.eq_false_iff.mpr c
      · exact hI j (by omega)
theorem n8s {i : Nat} (h : i ≤ 8) : (8 : Int32) - nI i = nI (8 - i) := pk_sub (a := 8) h
theorem seatW {gu now co : Nat → Int32} (h : Al gu now) (hc : ∀ k : Nat, k < 144 → co k = now (288 + k)) {f m : Int32} (hf : faM m = f) {p : Nat} (hp : p < 16) :
    T2 (f_X0_nearestToWall gu co (nI p) f) (f_X12_seatIn now (nI p) m 1) (fun a b => a = b ∧ sIn gu co f p a) := by
  unfold f_X0_nearestToWall f_X12_seatIn
  refine loop2 9 (fun i (_ _ : Unit) => ∀ j : Nat, j < i → fr gu co f (9 * p + (8 - j)) = false) (fun F i _ => f_X0_nearestToWall_3 gu co F (nI p) f (if i = 9 then -1 else nI (8 - i))) (fun F i _ => f_X12_seatIn_3 now F (nI p) m 1 (nI i)) (fun a b => a = b ∧ sIn gu co f p a) ?_ ?_ 9 0 () () FU FU (by omega) (FU_big (by omega)) (FU_big (by omega)) (fun j hj => absurd hj (Nat.not_lt_zero j))
  · intro F F' _ _ hI
    show T2 (f_X0_nearestToWall_3 gu co (F + 1) (nI p) f (-1)) (f_X12_seatIn_3 now (F' + 1) (nI p) m 1 (nI 9)) _
    rw [f_X0_nearestToWall_3, f_X12_seatIn_3, if_pos (show (-1 : Int32) < 0 by decide), if_pos (show (9 : Int32) ≤ nI 9 from nI_le (Nat.le_refl _) (by decide))]
    exact T2.ret ⟨rfl, Or.inl ⟨rfl, fun i hi => by have := hI (8 - i) (by omega); rw [show 8 - (8 - i) = i by omega] at this; exact this⟩⟩
  · intro F F' i _ _ hi hI ih
    show T2 (f_X0_nearestToWall_3 gu co (F + 1) (nI p) f (if i = 9 then -1 else nI (8 - i))) (f_X12_seatIn_3 now (F' + 1) (nI p) m 1 (nI i)) _
    rw [if_neg (show ¬ i = 9 by omega), f_X0_nearestToWall_3, f_X12_seatIn_3, if_neg (nI_pos (show 8 - i < 2 ^ 31 by omega)), if_neg (show ¬ (9 : Int32) ≤ nI i from nI_ge (b := 9) hi (by decide)), if_neg i10, m9, xFr gu co f (by omega), bs]
    unfold f_X12_seatIn_28
    rw [n8s (by omega), m9', mFr now m (by omega), bs, hf, ← Al_fr h hc f (show 9 * p + (8 - i) < 144 by omega), nI_1]
    by_cases c : fr gu co f (9 * p + (8 - i)) = true
    · rw [if_pos c, if_neg i10, if_neg i10]
      exact T2.ret ⟨rfl, Or.inr ⟨8 - i, by omega, rfl, c⟩⟩
    · rw [if_neg c, if_pos rfl, if_pos rfl]
      have e : nI (8 - i) + (-1) = (if i + 1 = 9 then -1 else nI (8 - (i + 1))) := by
        by_cases z : i + 1 = 9
        · rw [if_pos z, show i = 8 by omega]; rfl
        · rw [if_neg z, show 8 - i = (8 - (i + 1)) + 1 by omega, pk_m1]
      rw [e]
      refine ih () () (fun j hj => ?_)
      by_cases e : j = i
      · rw [e]; exact Bool.eq_false_iff.mpr c
      · exact hI j (by omega)
/-! facts -/
def kp (g co : Nat → Int32) (f : Int32) (k : Nat) : Bool := decide (g k = -1) && decide (co k = f)
theorem xKp (g co : Nat → Int32) (f : Int32) {p : Nat} (h : p < 16) : f_X0_keptFor g co f (nI p) = some (nI (ct (kp g co f) (9 * p) 9)) := by
  unfold f_X0_keptFor
  have key := fl 9 (cS (kp g co f) (9 * p)) (fun F i s => f_X0_keptFor_5 g co F f (nI p) s (nI i)) some ?_ ?_ (nI 0) (F := FU) (by unfold FU; omega)
  · rw [fo_ct, Nat.zero_add] at key
    exact key
  · intro F s
    show f_X0_keptFor_5 g co (F + 1) f (nI p) s (nI 9) = some s
    rw [f_X0_keptFor_5, if_pos (show (9 : Int32) ≤ nI 9 from nI_le (Nat.le_refl _) (by decide))]
  · intro F i s hi
    show f_X0_keptFor_5 g co (F + 1) f (nI p) s (nI i) = f_X0_keptFor_5 g co F f (nI p) (cS (kp g co f) (9 * p) i s) (nI (i + 1))
    rw [f_X0_keptFor_5, if_neg (show ¬ (9 : Int32) ≤ nI i from nI_ge (b := 9) (by omega) (by decide)), m9, xG g (by omega), bs, nI_1]
    unfold cS kp
    by_cases c : g (9 * p + i) = -1
    · rw [if_pos c, xC co (by omega), bs, decide_eq_true c]
      by_cases c2 : co (9 * p + i) = f
      · rw [if_pos c2, decide_eq_true c2]; rfl
      · rw [if_neg c2, decide_eq_false c2]; rfl
    · rw [if_neg c, decide_eq_false c]; rfl
theorem mKp (now : Nat → Int32) (f : Int32) {p : Nat} (h : p < 16) : f_X12_coatsIn now (nI p) f = some (nI (ct (kp now (fun k => now (288 + k)) f) (9 * p) 9)) := by
  unfold f_X12_coatsIn
  have key := fl 9 (cS (kp now (fun k => now (288 + k)) f) (9 * p)) (fun F i s => f_X12_coatsIn_8 now F (nI p) f s (nI (9 * p + i))) some ?_ ?_ (nI 0) (F := FU) (by unfold FU; omega)
  · rw [fo_ct, Nat.zero_add] at key
    rw [m9'']
    exact key
  · intro F s
    show f_X12_coatsIn_8 now (F + 1) (nI p) f s (nI (9 * p + 9)) = some s
    rw [f_X12_coatsIn_8, show 9 * nI p + 9 = nI (9 * p + 9) from m9' p 9, if_pos (nI_le (Nat.le_refl _) (by omega))]
  · intro F i s hi
    show f_X12_coatsIn_8 now (F + 1) (nI p) f s (nI (9 * p + i)) = f_X12_coatsIn_8 now F (nI p) f (cS (kp now (fun k => now (288 + k)) f) (9 * p) i s) (nI (9 * p + (i + 1)))
    rw [f_X12_coatsIn_8, show 9 * nI p + 9 = nI (9 * p + 9) from m9' p 9, if_neg (nI_ge (by omega) (by omega)), mT now (by omega), bs, nI_1]
    unfold cS kp
    by_cases c : now (9 * p + i) = -1
    · rw [if_pos c, if_pos rfl, a288, ixn (by omega) (by decide), nI_clamp (by omega), decide_eq_true c]
      by_cases c2 : now (288 + (9 * p + i)) = f
      · rw [if_pos c2, decide_eq_true c2]; rfl
      · rw [if_neg c2, decide_eq_false c2]; rfl
    · rw [if_neg c, if_neg i10, decide_eq_false c]; rfl
theorem Al_kp {gu now co : Nat → Int32} (h : Al gu now) (hc : ∀ k : Nat, k < 144 → co k = now (288 + k)) (f : Int32) {a n : Nat} (hn : a + n ≤ 144) : ct (kp gu co f) a n = ct (kp now (fun k => now (288 + k)) f) a n :=
  ct_cong (fun i hi => by
    unfold kp
    rw [hc (a + i) (by omega)]
    congr 1
    exact decide_eq_decide.mpr (h (a + i) (by omega)).iff)
theorem FR_of {fx fm : Nat → Int32} (h0 : fx 0 = fm 0) (h1 : fx 1 = fm 1) (h2 : fx 2 = fm 2) (h3 : fx 3 = fm 3) (h4 : fx 4 = fm 4) (h5 : fx 5 = fm 10) (h6 : fx 6 = fm 11) (h7 : fx 7 = fm 5) (h8 : fx 8 = fm 6) (h9 : fx 9 = fm 7) (h10 : fx 10 = fm 8) (h11 : fx 11 = fm 9) : FR fx fm := by
  intro a ha
  have : a = 0 ∨ a = 1 ∨ a = 2 ∨ a = 3 ∨ a = 4 ∨ a = 5 ∨ a = 6 ∨ a = 7 ∨ a = 8 ∨ a = 9 ∨ a = 10 ∨ a = 11 := by omega
  rcases this with rfl | rfl | rfl | rfl | rfl | rfl | rfl | rfl | rfl | rfl | rfl | rfl
  · exact h0
  · exact h1
  · exact h2
  · exact h3
  · exact h4
  · exact h5
  · exact h6
  · exact h7
  · exact h8
  · exact h9
  · exact h10
  · exact h11
theorem ixl {α : Type} {n : Nat} {x : Int32} (j : Nat) (hx : x = nI j) (h : j < n) (hn : n < 2 ^ 31) (k : Option α) : ix n x k = k := by rw [hx]; exact ixn h hn
theorem ixq {α : Type} (n : Nat) (x : Int32) (h : ¬ (x < 0 ∨ n ≤ x.toNatClampNeg)) (k : Option α) : ix n x k = k := by rw [ix, if_neg h]
theorem pew2 {gu now co fx fm : Nat → Int32} (h : Al gu now) (hc : ∀ k : Nat, k < 144 → co k = now (288 + k)) {f m : Int32} (hf : faM m = f) (hF : FR fx fm) {p : Nat} (hp : p < 16) :
    T2 (f_X10_tellPew fx gu co (nI p) f) (f_X12_feelsPew now fm m (nI p)) (fun a b => FR a b) := by
  unfold f_X10_tellPew f_X12_feelsPew
  have hm : f_X12_familyOf m = some f := by rw [← hf]; rfl
  rw [xSI gu hp, mSI now hp, bs, bs, xOI gu f hp, bs, xKp gu co f hp, bs, hm, bs, mOI now f hp, bs, bs, mKp now f hp, bs]
  simp only [ixl 5 (show (5 : Int32) = nI 5 from rfl) (show 5 < 12 by decide) (by decide), ixl 6 (show (6 : Int32) = nI 6 from rfl) (show 6 < 12 by decide) (by decide), ixl 7 (show (7 : Int32) = nI 7 from rfl) (show 7 < 12 by decide) (by decide), ixl 8 (show (8 : Int32) = nI 8 from rfl) (show 8 < 12 by decide) (by decide), ixl 9 (show (9 : Int32) = nI 9 from rfl) (show 9 < 12 by decide) (by decide), ixl 10 (show (10 : Int32) = nI 10 from rfl) (show 10 < 12 by decide) (by decide), ixl 11 (show (11 : Int32) = nI 11 from rfl) (show 11 < 12 by decide) (by decide)]
  rw [Al_ct h (show 9 * p + 9 ≤ 144 by omega), Al_cf h f (show 9 * p + 9 ≤ 144 by omega), Al_kp h hc f (show 9 * p + 9 ≤ 144 by omega)]
  refine T2.ret (FR_of ?_ ?_ ?_ ?_ ?_ ?_ ?_ ?_ ?_ ?_ ?_ ?_)
  · exact hF 0 (by decide)
  · exact hF 1 (by decide)
  · exact hF 2 (by decide)
  · exact hF 3 (by decide)
  · exact hF 4 (by decide)
  · exact hF 5 (by decide)
  · exact hF 6 (by decide)
  · rfl
  · rfl
  · rfl
  · rfl
  · rfl
theorem tg0 (ar : Int32) (gu : Nat → Int32) (fx : Nat → Int32) : ∃ r, f_X10_tellGuest_78 ar gu FU 7 fx = some r ∧ (∀ a : Nat, a < 7 → r a = fx a) ∧ ∀ a : Nat, 7 ≤ a → a < 12 → r a = 0 := by
  have key := loop1 5 (fun i (s : Nat → Int32) => (∀ a : Nat, a < 7 → s a = fx a) ∧ ∀ a : Nat, 7 ≤ a → a < 7 + i → s a = 0) (fun F i s => f_X10_tellGuest_78 ar gu F (nI (7 + i)) s) (fun o => ∃ r, o = some r ∧ (∀ a : Nat, a < 7 → r a = fx a) ∧ ∀ a : Nat, 7 ≤ a → a < 12 → r a = 0) ?_ ?_ 5 0 fx FU (by omega) (FU_big (by omega)) ⟨fun _ _ => rfl, fun a h1 h2 => by omega⟩
  · exact key
  · intro F s hI
    show ∃ r, f_X10_tellGuest_78 ar gu (F + 1) (nI 12) s = some r ∧ _
    rw [f_X10_tellGuest_78, if_pos (show (12 : Int32) ≤ nI 12 from nI_le (Nat.le_refl _) (by decide))]
    exact ⟨s, rfl, hI.1, hI.2⟩
  · intro F i s hi hI ih
    show ∃ r, f_X10_tellGuest_78 ar gu (F + 1) (nI (7 + i)) s = some r ∧ _
    rw [f_X10_tellGuest_78, if_neg (show ¬ (12 : Int32) ≤ nI (7 + i) from nI_ge (b := 12) (by omega) (by decide)), ixn (by omega) (by decide), nI_clamp (by omega), nI_1]
    refine ih _ ⟨fun a ha => ?_, fun a h1 h2 => ?_⟩
    · rw [upd_n (by omega)]; exact hI.1 a ha
    · by_cases e : a = 7 + i
      · rw [e, upd_s]
      · rw [upd_n e]; exact hI.2 a h1 (by omega)
theorem tg1 (now : Nat → Int32) (fm : Nat → Int32) : ∃ r, f_X12_feelsGuest_52 now FU 5 fm = some r ∧ (∀ a : Nat, a < 5 → r a = fm a) ∧ (∀ a : Nat, 5 ≤ a → a < 10 → r a = 0) ∧ r 10 = nI (ct (tk now) 0 72) - nI (ct (tk now) 72 72) ∧ r 11 = jrem (now 633) 1000 := by
  have key := loop1 5 (fun i (s : Nat → Int32) => (∀ a : Nat, a < 5 → s a = fm a) ∧ ∀ a : Nat, 5 ≤ a → a < 5 + i → s a = 0) (fun F i s => f_X12_feelsGuest_52 now F (nI (5 + i)) s) (fun o => ∃ r, o = some r ∧ (∀ a : Nat, a < 5 → r a = fm a) ∧ (∀ a : Nat, 5 ≤ a → a < 10 → r a = 0) ∧ r 10 = nI (ct (tk now) 0 72) - nI (ct (tk now) 72 72) ∧ r 11 = jrem (now 633) 1000) ?_ ?_ 5 0 fm FU (by omega) (FU_big (by omega)) ⟨fun _ _ => rfl, fun a h1 h2 => by omega⟩
  · exact key
  · intro F s hI
    show ∃ r, f_X12_feelsGuest_52 now (F + 1) (nI 10) s = some r ∧ _
    rw [f_X12_feelsGuest_52, if_pos (show (10 : Int32) ≤ nI 10 from nI_le (Nat.le_refl _) (by decide)), show f_X12_sittersOn now 0 = _ from mSO now (p := 0) (by decide), bs, show f_X12_sittersOn now 1 = _ from mSO now (p := 1) (by decide), bs, ixq 12 10 (by decide), ixq 637 633 (by decide), ixq 12 11 (by decide)]
    refine ⟨_, rfl, fun a ha => ?_, fun a h1 h2 => ?_, ?_, ?_⟩
    · rw [show (11 : Int32).toNatClampNeg = 11 from rfl, show (10 : Int32).toNatClampNeg = 10 from rfl, upd_n (by omega), upd_n (by omega)]; exact hI.1 a ha
    · rw [show (11 : Int32).toNatClampNeg = 11 from rfl, show (10 : Int32).toNatClampNeg = 10 from rfl, upd_n (by omega), upd_n (by omega)]; exact hI.2 a h1 (by omega)
    · rfl
    · rfl
  · intro F i s hi hI ih
    show ∃ r, f_X12_feelsGuest_52 now (F + 1) (nI (5 + i)) s = some r ∧ _
    rw [f_X12_feelsGuest_52, if_neg (show ¬ (10 : Int32) ≤ nI (5 + i) from nI_ge (b := 10) (by omega) (by decide)), ixn (by omega) (by decide), nI_clamp (by omega), nI_1]
    refine ih _ ⟨fun a ha => ?_, fun a h1 h2 => ?_⟩
    · rw [upd_n (by omega)]; exact hI.1 a ha
    · by_cases e : a = 5 + i
      · rw [e, upd_s]
      · rw [upd_n e]; exact hI.2 a h1 (by omega)
theorem guest2 {gu now : Nat → Int32} (h : Al gu now) {ar x m : Int32} (har : ar = now 633) (hg : GR x m) (fx fm : Nat → Int32) : T2 (f_X10_tellGuest fx ar gu x) (f_X12_feelsGuest now fm m) (fun a b => FR a b) := by
  obtain ⟨s, f, hh, c, i, _, _, _, _, _, ⟨a1, a2, a3, a4, a5⟩, ⟨b1, b2, b3, b4, b5⟩, _, _⟩ := hg.dec
  unfold f_X10_tellGuest f_X12_feelsGuest f_X0_moreOnHers
  rw [a1, bs, a2, bs, a3, bs, a4, bs, a5, bs, b1, bs, b2, bs, b3, bs, b4, bs, b5, bs, show f_X0_sittingOn gu 0 = _ from xSO gu (p := 0) (by decide), bs, show f_X0_sittingOn gu 1 = _ from xSO gu (p := 1) (by decide), bs, bs]
  simp only [ixl 0 (show (0 : Int32) = nI 0 from rfl) (show 0 < 12 by decide) (by decide), ixl 1 (show (1 : Int32) = nI 1 from rfl) (show 1 < 12 by decide) (by decide), ixl 2 (show (2 : Int32) = nI 2 from rfl) (show 2 < 12 by decide) (by decide), ixl 3 (show (3 : Int32) = nI 3 from rfl) (show 3 < 12 by decide) (by decide), ixl 4 (show (4 : Int32) = nI 4 from rfl) (show 4 < 12 by decide) (by decide), ixl 5 (show (5 : Int32) = nI 5 from rfl) (show 5 < 12 by decide) (by decide), ixl 6 (show (6 : Int32) = nI 6 from rfl) (show 6 < 12 by decide) (by decide)]
  obtain ⟨r, r1, r2, r3⟩ := tg0 ar gu (upd (upd (upd (upd (upd (upd (upd fx (0 : Int32).toNatClampNeg (nI s)) (1 : Int32).toNatClampNeg (nI f)) (2 : Int32).toNatClampNeg (nI hh)) (3 : Int32).toNatClampNeg (nI c)) (4 : Int32).toNatClampNeg (nI i)) (5 : Int32).toNatClampNeg (nI (ct (tk gu) (72 * 0) 72) - nI (ct (tk gu) (72 * 1) 72))) (6 : Int32).toNatClampNeg (jrem ar 1000))
  obtain ⟨q, q1, q2, q3, q4, q5⟩ := tg1 now (upd (upd (upd (upd (upd fm (0 : Int32).toNatClampNeg (nI s)) (1 : Int32).toNatClampNeg (nI f)) (2 : Int32).toNatClampNeg (nI hh)) (3 : Int32).toNatClampNeg (nI c)) (4 : Int32).toNatClampNeg (nI i))
  rw [r1, q1]
  refine T2.ret (FR_of ?_ ?_ ?_ ?_ ?_ ?_ ?_ ?_ ?_ ?_ ?_ ?_)
  · rw [r2 0 (by decide), q2 0 (by decide)]; rfl
  · rw [r2 1 (by decide), q2 1 (by decide)]; rfl
  · rw [r2 2 (by decide), q2 2 (by decide)]; rfl
  · rw [r2 3 (by decide), q2 3 (by decide)]; rfl
  · rw [r2 4 (by decide), q2 4 (by decide)]; rfl
  · rw [r2 5 (by decide), q4, ← Al_ct h (show 0 + 72 ≤ 144 by omega), ← Al_ct h (show 72 + 72 ≤ 144 by omega)]; rfl
  · rw [r2 6 (by decide), q5, ← har]; rfl
  · rw [r3 7 (by decide) (by decide), q3 5 (by decide) (by decide)]
  · rw [r3 8 (by decide) (by decide), q3 6 (by decide) (by decide)]
  · rw [r3 9 (by decide) (by decide), q3 7 (by decide) (by decide)]
  · rw [r3 10 (by decide) (by decide), q3 8 (by decide) (by decide)]
  · rw [r3 11 (by decide) (by decide), q3 9 (by decide) (by decide)]
end
