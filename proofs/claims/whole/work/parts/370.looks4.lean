/-! inLine, count, guestAt, fathers -/
theorem c432 (i : Nat) : (432 : Int32) + nI i = nI (432 + i) := la 432 i
theorem lit_632 {α : Type} (k : Option α) : ix 637 632 k = k := ixn (j := 632) (by decide) (by decide)
theorem clamp_632 : (632 : Int32).toNatClampNeg = 632 := nI_clamp (n := 632) (by decide)
theorem like1 {x m : Int32} (g : GR x m) (w : Int32) : ∃ b : Bool, f_X5_isLike x w = some (if b then 1 else 0) ∧ ∀ (K : Int32 → Option Int32), (if 3 ≤ w then (if w = 3 then (f_X12_childOf m).bind (fun z73 => (if z73 = 1 then K 1 else K 0)) else (f_X12_singerOf m).bind (fun z90 => (if z90 = 1 then K 1 else K 0))) else (f_X12_sideOf m).bind (fun z51 => (if z51 = w then K 1 else K 0))) = (if w = 5 then K (if f_X1_singerOf x = some 1 then 1 else 0) else K (if b then 1 else 0)) ∨ ¬ (∃ j : Nat, j ≤ 5 ∧ w = nI j) := by
  obtain ⟨s, f, h, c, i, h1, h2, h3, h4, h5, ⟨a1, a2, a3, a4, a5⟩, ⟨b1, b2, b3, b4, b5⟩, _⟩ := g.dec
  unfold f_X5_isLike
  rw [a1, a4, a5, b1, b4, b5, bs, bs, bs]
  refine ⟨if w = 3 then decide (nI c = 1) else if w = 4 then decide (nI i = 1) else decide (nI s = w), ?_, fun K => ?_⟩
  · by_cases e : w = 3
    · rw [if_pos e, if_pos e]; by_cases z : nI c = 1 <;> simp [z]
    · rw [if_neg e, if_neg e]
      by_cases e : w = 4
      · rw [if_pos e, if_pos e]; by_cases z : nI i = 1 <;> simp [z]
      · rw [if_neg e, if_neg e]; by_cases z : nI s = w <;> simp [z]
  · by_cases hw : ∃ j : Nat, j ≤ 5 ∧ w = nI j
    · left
      obtain ⟨j, hj, rfl⟩ := hw
      rw [bs, bs, bs]
      match j, hj with
      | 0, _ => by_cases z : nI s = nI 0 <;> simp [z, show ¬ (3 : Int32) ≤ nI 0 by decide, show ¬ nI 0 = 5 by decide, show ¬ nI 0 = 3 by decide, show ¬ nI 0 = 4 by decide]
      | 1, _ => by_cases z : nI s = nI 1 <;> simp [z, show ¬ (3 : Int32) ≤ nI 1 by decide, show ¬ nI 1 = 5 by decide, show ¬ nI 1 = 3 by decide, show ¬ nI 1 = 4 by decide]
      | 2, _ => by_cases z : nI s = nI 2 <;> simp [z, show ¬ (3 : Int32) ≤ nI 2 by decide, show ¬ nI 2 = 5 by decide, show ¬ nI 2 = 3 by decide, show ¬ nI 2 = 4 by decide]
      | 3, _ => by_cases z : nI c = 1 <;> simp [z, show (3 : Int32) ≤ nI 3 by decide, show ¬ nI 3 = 5 by decide, show nI 3 = 3 by decide]
      | 4, _ => by_cases z : nI i = 1 <;> simp [z, show (3 : Int32) ≤ nI 4 by decide, show ¬ nI 4 = 5 by decide, show ¬ nI 4 = 3 by decide, show nI 4 = 4 by decide]
      | 5, _ => by_cases z : nI i = 1 <;> simp [z, show (3 : Int32) ≤ nI 5 by decide, show nI 5 = 5 by decide, show ¬ nI 5 = 3 by decide]
    · right; exact hw
theorem mIL {gu : Nat → Int32} {now : Nat → Int32} {w i : Nat} (hw : w ≤ 200) (e : now 632 = nI w) (hi : i < w) {x : Int32} (g : GR x (now (432 + i))) (j : Nat) (hj : j ≤ 5) (F : Nat) (a b : Int32) : ∃ (t : Bool) (f : Int32), f_X5_isLike x (nI j) = some (if t then 1 else 0) ∧ f_X1_familyOf x = some f ∧ ∃ a', (j ≠ 5 → a' = if t then a + 1 else a) ∧ f_X12_inLine_18 now (F + 1) (nI j) a b (nI i) = f_X12_inLine_18 now F (nI j) a' (b ||| (1 <<< (f &&& 31))) (nI (i + 1)) := by
  obtain ⟨t, t1, t2⟩ := like1 g (nI j)
  obtain ⟨s, f, h, c, i', h1, h2, h3, h4, h5, ⟨a1, a2, a3, a4, a5⟩, ⟨b1, b2, b3, b4, b5⟩, _⟩ := g.dec
  have K := t2 (fun y => f_X12_inLine_102 now (f_X12_inLine_18 now F) (nI j) a b (nI i) (now (432 + i)) y)
  rcases K with K | K
  · have step : ∀ y : Int32, (y = 0 ∨ y = 1) → f_X12_inLine_102 now (f_X12_inLine_18 now F) (nI j) a b (nI i) (now (432 + i)) y = f_X12_inLine_18 now F (nI j) (if y = 0 then a else a + 1) (b ||| (1 <<< (nI f &&& 31))) (nI (i + 1)) := by
      intro y hy
      unfold f_X12_inLine_102 f_X12_inLine_113
      rw [b2, bs, bs, nI_1]
      rcases hy with rfl | rfl
      · rw [if_pos rfl, if_pos rfl]
      · rw [if_neg i10, if_neg i10]
    have body : f_X12_inLine_18 now (F + 1) (nI j) a b (nI i) = (if nI j = 5 then f_X12_inLine_102 now (f_X12_inLine_18 now F) (nI j) a b (nI i) (now (432 + i)) (if f_X1_singerOf x = some 1 then 1 else 0) else f_X12_inLine_102 now (f_X12_inLine_18 now F) (nI j) a b (nI i) (now (432 + i)) (if t then 1 else 0)) := by
      rw [f_X12_inLine_18, lit_632, clamp_632, e, if_neg (nI_ge hi (by omega)), c432, ixn (by omega) (by decide), nI_clamp (by omega)]
      exact K
    by_cases h5' : nI j = 5
    · rw [if_pos h5'] at body
      by_cases z : f_X1_singerOf x = some 1
      · rw [if_pos z] at body
        rw [step 1 (Or.inr rfl), if_neg i10] at body
        exact ⟨t, nI f, t1, a2, a + 1, fun q => absurd (nI_inj (by omega) (by decide) (show nI j = nI 5 from h5')) q, body⟩
      · rw [if_neg z] at body
        rw [step 0 (Or.inl rfl), if_pos rfl] at body
        exact ⟨t, nI f, t1, a2, a, fun q => absurd (nI_inj (by omega) (by decide) (show nI j = nI 5 from h5')) q, body⟩
    · rw [if_neg h5'] at body
      cases t with
      | true =>
        rw [if_pos rfl, step 1 (Or.inr rfl), if_neg i10] at body
        exact ⟨true, nI f, t1, a2, a + 1, fun _ => rfl, body⟩
      | false =>
        rw [show (if false = true then (1 : Int32) else 0) = 0 from rfl, step 0 (Or.inl rfl), if_pos rfl] at body
        exact ⟨false, nI f, t1, a2, a, fun _ => rfl, body⟩
  · exact absurd ⟨j, hj, rfl⟩ K
theorem pm_inLine {XA : Nat → Nat → Int32} {XI : Nat → Int32} {MA : Nat → Nat → Int32} {MI : Nat → Int32} (h : Inv XA XI MA MI) (x1 : Int32) : ∃ (rX : Int32) (rM : Int32), f_X11_inLine (XI 7) (XA 4) x1 = some rX ∧ f_X12_inLine (MA 0) x1 = some rM ∧ rX = rM ∧ Inv XA XI MA MI := by
  have h0 := h
  obtain ⟨hT, hC, hk, hkk, hL⟩ := h
  obtain ⟨w, hw, e1, e2, hG⟩ := hC.2.2.2.1
  unfold f_X11_inLine f_X12_inLine
  rw [show (5 : Int32) = nI 5 from rfl]
  rcases wi x1 5 (by decide) with ⟨c1, c2, -⟩ | ⟨j, hj, rfl, c1, c2⟩
  · rw [c1, c2]
    exact ⟨_, _, rfl, rfl, rfl, h0⟩
  · rw [c1, c2, bs, bs, if_neg i10, if_neg i10]
    by_cases h5 : nI j = nI 5
    · rw [if_pos h5]
      have key : T2 (f_X5_familiesWaiting (XI 7) (XA 4)) (f_X12_inLine_18 (MA 0) FU (nI j) 0 0 0) (fun a b => a = b) := by
        unfold f_X5_familiesWaiting
        rw [e1]
        refine loop2 w (fun i (s : Int32) (t : Int32 × Int32) => s = t.2) (fun F i s => f_X5_familiesWaiting_4 (nI w) (XA 4) F s (nI i)) (fun F i t => f_X12_inLine_18 (MA 0) F (nI j) t.1 t.2 (nI i)) (fun a b => a = b) ?_ ?_ w 0 0 (0, 0) FU FU (by omega) (by unfold FU; omega) (by unfold FU; omega) rfl
        · intro F F' s t hI
          show T2 (f_X5_familiesWaiting_4 (nI w) (XA 4) (F + 1) s (nI w)) (f_X12_inLine_18 (MA 0) (F' + 1) (nI j) t.1 t.2 (nI w)) _
          rw [f_X5_familiesWaiting_4, f_X12_inLine_18, if_pos (nI_le (Nat.le_refl w) (by omega)), lit_632, clamp_632, e2, if_pos (nI_le (Nat.le_refl w) (by omega)), if_pos (show nI j = 5 from h5), hI]
          exact T2.ret rfl
        · intro F F' i s t hi hI ih
          show T2 (f_X5_familiesWaiting_4 (nI w) (XA 4) (F + 1) s (nI i)) (f_X12_inLine_18 (MA 0) (F' + 1) (nI j) t.1 t.2 (nI i)) _
          obtain ⟨tt, f, q1, q2, a', q3, q4⟩ := mIL (gu := XA 1) hw e2 hi (hG i hi) j hj F' t.1 t.2
          rw [q4, f_X5_familiesWaiting_4, if_neg (nI_ge hi (by omega)), if_neg (show ¬ (200 : Int32) ≤ nI i from nI_ge (b := 200) (by omega) (by decide)), ixn (by omega) (by decide), nI_clamp (by omega), q2, bs, nI_1, hI]
          exact ih _ (_, _) rfl
      obtain ⟨a, b, ea, eb, rfl⟩ := key
      rw [ea, eb]
      exact ⟨_, _, rfl, rfl, rfl, h0⟩
    · rw [if_neg h5]
      have h5n : j ≠ 5 := fun q => h5 (by rw [q])
      have key : T2 (f_X5_waitingLike (XI 7) (XA 4) (nI j)) (f_X12_inLine_18 (MA 0) FU (nI j) 0 0 0) (fun a b => a = b) := by
        unfold f_X5_waitingLike
        rw [e1]
        refine loop2 w (fun i (s : Int32) (t : Int32 × Int32) => s = t.1) (fun F i s => f_X5_waitingLike_5 (nI w) (XA 4) F (nI j) s (nI i)) (fun F i t => f_X12_inLine_18 (MA 0) F (nI j) t.1 t.2 (nI i)) (fun a b => a = b) ?_ ?_ w 0 0 (0, 0) FU FU (by omega) (by unfold FU; omega) (by unfold FU; omega) rfl
        · intro F F' s t hI
          show T2 (f_X5_waitingLike_5 (nI w) (XA 4) (F + 1) (nI j) s (nI w)) (f_X12_inLine_18 (MA 0) (F' + 1) (nI j) t.1 t.2 (nI w)) _
          rw [f_X5_waitingLike_5, f_X12_inLine_18, if_pos (nI_le (Nat.le_refl w) (by omega)), lit_632, clamp_632, e2, if_pos (nI_le (Nat.le_refl w) (by omega)), if_neg (show ¬ nI j = 5 from h5), hI]
          exact T2.ret rfl
        · intro F F' i s t hi hI ih
          show T2 (f_X5_waitingLike_5 (nI w) (XA 4) (F + 1) (nI j) s (nI i)) (f_X12_inLine_18 (MA 0) (F' + 1) (nI j) t.1 t.2 (nI i)) _
          obtain ⟨tt, f, q1, q2, a', q3, q4⟩ := mIL (gu := XA 1) hw e2 hi (hG i hi) j hj F' t.1 t.2
          rw [q4, f_X5_waitingLike_5, if_neg (nI_ge hi (by omega)), if_neg (show ¬ (200 : Int32) ≤ nI i from nI_ge (b := 200) (by omega) (by decide)), ixn (by omega) (by decide), nI_clamp (by omega), q1, bs, nI_1, hI, q3 h5n]
          cases tt with
          | true => rw [if_pos rfl, if_neg i10, if_pos rfl]; exact ih _ (_, _) rfl
          | false => rw [show (if false = true then (1 : Int32) else 0) = 0 from rfl, if_pos rfl, show (if false = true then t.1 + 1 else t.1) = t.1 from rfl]; exact ih t.1 (t.1, t.2 ||| (1 <<< (f &&& 31))) rfl
      obtain ⟨a, b, ea, eb, rfl⟩ := key
      rw [ea, eb]
      exact ⟨_, _, rfl, rfl, rfl, h0⟩
theorem view2 {gu now : Nat → Int32} (h : Al gu now) {k : Nat} (hk : k < 144) (ht : ¬ gu k = -1) : T2 (f_X5_view gu (nI k)) (f_X12_viewOf now (nI k)) (fun a b => a = b) := by
  obtain ⟨_, _, h1, _, _, _, _, hh1, _, _, ⟨_, _, a1, _⟩, ⟨_, _, b1, _⟩, _⟩ := (h k hk).ex ht
  unfold f_X5_view f_X12_viewOf
  rw [xG gu hk, bs, a1, bs, show nI k / 9 = nI (k / 9) from dv_eq (by omega) (by decide) (by decide), show jrem (nI (k / 9)) 8 = nI (k / 9 % 8) from rm_eq (by omega) (by decide) (by decide), show jrem (nI k) 72 = nI (k % 72) from rm_eq (by omega) (by decide) (by decide), show nI (k % 72) / 9 = nI (k % 72 / 9) from dv_eq (by omega) (by decide) (by decide), show k % 72 / 9 = k / 9 % 8 by omega]
  have hr : 9 * (k / 9 % 8) ≤ k := by omega
  have hr7 : k / 9 % 8 < 8 := by omega
  generalize k / 9 % 8 = r at hr hr7
  refine loop2 r (fun i (_ _ : Unit) => True) (fun F i _ => f_X5_view_21 gu F (nI k) (nI h1) (nI r) (nI (i + 1))) (fun F i _ => f_X12_viewOf_10 now F (nI k) (nI r) (nI (i + 1))) (fun a b => a = b) ?_ ?_ r 0 () () FU FU (by omega) (by unfold FU; omega) (by unfold FU; omega) trivial
  · intro F F' _ _ _
    show T2 (f_X5_view_21 gu (F + 1) (nI k) (nI h1) (nI r) (nI (r + 1))) (f_X12_viewOf_10 now (F' + 1) (nI k) (nI r) (nI (r + 1))) _
    rw [f_X5_view_21, f_X12_viewOf_10, if_pos (nI_lt (by omega) (by omega)), if_pos (nI_lt (by omega) (by omega))]
    exact T2.ret rfl
  · intro F F' i _ _ hi _ ih
    show T2 (f_X5_view_21 gu (F + 1) (nI k) (nI h1) (nI r) (nI (i + 1))) (f_X12_viewOf_10 now (F' + 1) (nI k) (nI r) (nI (i + 1))) _
    have e9 : nI k - nI (i + 1) * 9 = nI (k - 9 * (i + 1)) := by
      rw [show nI (i + 1) * 9 = nI (9 * (i + 1)) by rw [Nat.mul_comm]; exact lm (i + 1) 9]
      exact pk_sub (by omega)
    have e9' : nI k - 9 * nI (i + 1) = nI (k - 9 * (i + 1)) := by
      rw [m9'']
      exact pk_sub (by omega)
    rw [f_X5_view_21, f_X12_viewOf_10, if_neg (nI_nlt (by omega) (by omega)), if_neg (nI_nlt (by omega) (by omega)), e9, e9', xT gu (by omega), mT now (by omega), bs, bs, nI_1, Int32.zero_add, ixn (by omega) (by decide), nI_clamp (by omega), xG gu (by omega)]
    have q := h (k - 9 * (i + 1)) (by omega)
    by_cases d : gu (k - 9 * (i + 1)) = -1
    · rw [if_pos d, if_pos (q.iff.mp d), if_pos rfl, if_pos rfl]
      exact ih () () trivial
    · have d' : ¬ now (k - 9 * (i + 1)) = -1 := fun e => d (q.iff.mpr e)
      obtain ⟨_, _, h2, _, _, _, _, hh2, _, _, ⟨_, _, a2, _⟩, ⟨_, _, b2, _⟩, _⟩ := q.ex d
      rw [if_neg d, if_neg d', if_neg i10, if_neg i10, bs, a2, bs, b2, bs, Int32.zero_add, ixn (by omega) (by decide), nI_clamp (by omega), b1, bs]
      by_cases e : nI h2 < nI h1
      · rw [if_pos e, if_pos e]
        exact ih () () trivial
      · rw [if_neg e, if_neg e]
        exact T2.ret rfl
theorem pm_guestAt {XA : Nat → Nat → Int32} {XI : Nat → Int32} {MA : Nat → Nat → Int32} {MI : Nat → Int32} (h : Inv XA XI MA MI) (x1 : Int32) (x2 : Int32) : ∃ (rX : Int32) (rM : Int32), f_X11_guestAt (XA 1) (XA 2) x1 x2 = some rX ∧ f_X12_guestAt (MA 0) x1 x2 = some rM ∧ rX = rM ∧ Inv XA XI MA MI := by
  have h0 := h
  obtain ⟨hT, hC, hk, hkk, hL⟩ := h
  unfold f_X11_guestAt f_X12_guestAt
  rw [isSeat_eq, show (143 : Int32) = nI 143 from rfl]
  rcases wi x1 143 (by decide) with ⟨e1, e2, -⟩ | ⟨j, hj, rfl, e1, e2⟩
  · rw [e1, e2]
    exact ⟨_, _, rfl, rfl, rfl, h0⟩
  · rw [e1, e2, bs, bs, if_neg i10, if_neg i10, same_in]
    rcases wi01 x2 0 6 with e | e
    · rw [e]
      exact ⟨_, _, rfl, rfl, rfl, h0⟩
    · rw [e, bs, bs, if_neg i10, if_neg i10, mT (MA 0) (by omega), bs, ixn (by omega) (by decide), nI_clamp (by omega)]
      have q := hC.1 j (by omega)
      by_cases d : XA 1 j = -1
      · rw [if_pos d, if_pos (q.iff.mp d), if_pos rfl]
        exact ⟨_, _, rfl, rfl, rfl, h0⟩
      · have d' : ¬ MA 0 j = -1 := fun e => d (q.iff.mpr e)
        obtain ⟨s, f, h', c, i, _, _, _, _, _, ⟨a1, a2, a3, a4, a5⟩, ⟨b1, b2, b3, b4, b5⟩, _⟩ := q.ex d
        rw [if_neg d, if_neg d', if_neg i10, Int32.zero_add, ixn (by omega) (by decide), nI_clamp (by omega), a1, a2, a3, a4, a5, b1, b2, b3, b4, b5, ixn (by omega) (by decide), show (144 : Int32) + nI j = nI (144 + j) from la 144 j, ixn (by omega) (by decide), nI_clamp (by omega), ← hC.2.1 j (by omega)]
        by_cases z0 : x2 = 0
        · rw [if_pos z0, if_pos z0]; exact ⟨_, _, rfl, rfl, rfl, h0⟩
        rw [if_neg z0, if_neg z0]
        by_cases z1 : x2 = 1
        · rw [if_pos z1, if_pos z1]; exact ⟨_, _, rfl, rfl, rfl, h0⟩
        rw [if_neg z1, if_neg z1]
        by_cases z2 : x2 = 2
        · rw [if_pos z2, if_pos z2]; exact ⟨_, _, rfl, rfl, rfl, h0⟩
        rw [if_neg z2, if_neg z2]
        by_cases z3 : x2 = 3
        · rw [if_pos z3, if_pos z3]; exact ⟨_, _, rfl, rfl, rfl, h0⟩
        rw [if_neg z3, if_neg z3]
        by_cases z4 : x2 = 4
        · rw [if_pos z4, if_pos z4]; exact ⟨_, _, rfl, rfl, rfl, h0⟩
        rw [if_neg z4, if_neg z4]
        by_cases z5 : x2 = 5
        · rw [if_pos z5, if_pos z5]; exact ⟨_, _, rfl, rfl, rfl, h0⟩
        rw [if_neg z5, if_neg z5]
        obtain ⟨a, b, ea, eb, rfl⟩ := view2 hC.1 (show j < 144 by omega) d
        rw [ea, eb]
        exact ⟨_, _, rfl, rfl, rfl, h0⟩
