section
/-! those who come, in both -/
theorem pm_come {XA : Nat → Nat → Int32} {XI : Nat → Int32} {MA : Nat → Nat → Int32} {MI : Nat → Int32} (h : Inv XA XI MA MI) (x1 : Int32) : ∃ (rX : Int32 × Int32 × Int32 × Int32 × Int32 × Int32 × (Nat → Int32) × (Nat → Int32) × (Nat → Int32) × Int32 × (Nat → Int32) × (Nat → Int32)) (rM : Int32 × Int32 × Int32 × Int32 × (Nat → Int32) × (Nat → Int32) × (Nat → Int32)), f_X11_come (XI 7) (XI 8) (XI 9) (XI 10) (XI 11) (XA 1) (XA 2) (XA 3) (XA 4) (XI 24) (XA 13) (XI 26) (XA 22) (XA 23) (XA 24) (XA 25) (XA 26) (XA 27) (XA 28) x1 = some rX ∧ f_X12_come (MI 9) (MI 12) (MI 13) (MI 14) (MA 0) (MA 10) (MA 11) (MA 12) (MA 13) (MA 14) (MA 15) (MA 16) x1 = some rM ∧ rX.1 = rM.1 ∧ Inv (va_up (va_up (va_up (va_up (va_up XA 1 rX.2.2.2.2.2.2.1) 2 rX.2.2.2.2.2.2.2.1) 4 rX.2.2.2.2.2.2.2.2.1) 13 rX.2.2.2.2.2.2.2.2.2.2.1) 28 rX.2.2.2.2.2.2.2.2.2.2.2) (va_up (va_up (va_up (va_up (va_up (va_up XI 7 rX.2.1) 8 rX.2.2.1) 9 rX.2.2.2.1) 10 rX.2.2.2.2.1) 11 rX.2.2.2.2.2.1) 24 rX.2.2.2.2.2.2.2.2.2.1) (va_up (va_up (va_up MA 0 rM.2.2.2.2.1) 15 rM.2.2.2.2.2.1) 16 rM.2.2.2.2.2.2) (va_up (va_up (va_up MI 12 rM.2.1) 13 rM.2.2.1) 14 rM.2.2.2.1) := by
  obtain ⟨hT, hC, hk, hkk, hL⟩ := h
  unfold f_X11_come f_X12_come
  rcases wi200 x1 with ⟨d1, d2⟩ | ⟨n, n1, n2, rfl, d1, d2⟩
  · rw [d1, d2, bs, bs, if_pos rfl, if_pos rfl]
    exact ⟨_, _, rfl, rfl, rfl, hT, hC, hk, hkk, hL⟩
  · rw [d1, d2, bs, bs, if_neg i10, if_neg i10]
    obtain ⟨a, b, ea, eb, p1, p2, p3, p4⟩ := many2 hL hC (XI 24) (MI 12) (MI 13) (MI 14) (XA 13) (MA 16) (XA 28) (MA 15) n2
    rw [ea, eb, bs, bs]
    exact ⟨_, _, rfl, rfl, p1, hT, p3, hk, hkk, hL⟩
theorem pm_tried {XA : Nat → Nat → Int32} {XI : Nat → Int32} {MA : Nat → Nat → Int32} {MI : Nat → Int32} (h : Inv XA XI MA MI) (x1 : Int32) (x2 : Int32) : ∃ (rX : Int32 × Int32 × Int32 × Int32 × Int32 × Int32 × (Nat → Int32) × (Nat → Int32) × (Nat → Int32) × (Nat → Int32) × Int32 × (Nat → Int32) × (Nat → Int32)) (rM : Int32 × Int32 × Int32 × Int32 × (Nat → Int32) × (Nat → Int32) × (Nat → Int32) × (Nat → Int32)), f_X11_tried (XI 7) (XI 8) (XI 9) (XI 10) (XI 11) (XA 1) (XA 2) (XA 3) (XA 4) (XI 17) (XI 18) (XI 19) (XI 20) (XI 21) (XA 9) (XA 10) (XA 11) (XA 12) (XI 24) (XA 13) (XI 26) (XA 22) (XA 23) (XA 24) (XA 25) (XA 26) (XA 27) (XA 28) x1 x2 = some rX ∧ f_X12_tried (MI 9) (MI 12) (MI 13) (MI 14) (MA 0) (MA 1) (MA 10) (MA 11) (MA 12) (MA 13) (MA 14) (MA 15) (MA 16) x1 x2 = some rM ∧ rX.1 = rM.1 ∧ Inv (va_up (va_up (va_up (va_up (va_up (va_up XA 9 rX.2.2.2.2.2.2.1) 10 rX.2.2.2.2.2.2.2.1) 11 rX.2.2.2.2.2.2.2.2.1) 12 rX.2.2.2.2.2.2.2.2.2.1) 13 rX.2.2.2.2.2.2.2.2.2.2.2.1) 28 rX.2.2.2.2.2.2.2.2.2.2.2.2) (va_up (va_up (va_up (va_up (va_up (va_up XI 17 rX.2.1) 18 rX.2.2.1) 19 rX.2.2.2.1) 20 rX.2.2.2.2.1) 21 rX.2.2.2.2.2.1) 24 rX.2.2.2.2.2.2.2.2.2.2.1) (va_up (va_up (va_up (va_up MA 0 rM.2.2.2.2.1) 1 rM.2.2.2.2.2.1) 15 rM.2.2.2.2.2.2.1) 16 rM.2.2.2.2.2.2.2) (va_up (va_up (va_up MI 12 rM.2.1) 13 rM.2.2.1) 14 rM.2.2.2.1) := by
  obtain ⟨hT, hC, hk, hkk, hL⟩ := h
  unfold f_X11_tried f_X12_tried
  rcases wi200 x1 with ⟨d1, d2⟩ | ⟨n, n1, n2, rfl, d1, d2⟩
  · rw [d1, d2, bs, bs, if_pos rfl, if_pos rfl]
    exact ⟨_, _, rfl, rfl, rfl, hT, hC, hk, hkk, hL⟩
  · rw [d1, d2, bs, bs, if_neg i10, if_neg i10]
    rcases wi x2 4 (by decide) with ⟨d3, d4, _⟩ | ⟨j, hj, rfl, d3, d4⟩
    · have d3 : f_X11_isWithin x2 0 4 = some 0 := d3
      have d4 : f_X12_in x2 0 4 = some 0 := d4
      rw [d3, d4, bs, bs, if_pos rfl, if_pos rfl]
      exact ⟨_, _, rfl, rfl, rfl, hT, hC, hk, hkk, hL⟩
    · have d3 : f_X11_isWithin (nI j) 0 4 = some 1 := d3
      have d4 : f_X12_in (nI j) 0 4 = some 1 := d4
      obtain ⟨aside, ea, ha⟩ := copies_eq (MA 0) (MA 1)
      have hC' : ChR (va_cpy (XA 1) (XA 9) 0 0 144) (va_cpy (XA 2) (XA 10) 0 0 144) (va_cpy (XA 3) (XA 11) 0 0 144) (va_cpy (XA 4) (XA 12) 0 0 200) (XI 7) (XI 8) (XI 9) (XI 10) (XI 11) (MA 0) := hC.cong (fun k h => cpy_in _ _ h) (fun k h => cpy_in _ _ h) (fun k h => cpy_in _ _ h) (fun k h => cpy_in _ _ h) (fun _ _ => rfl)
      obtain ⟨a, b, ea', eb, p1, p2, p3, p4⟩ := many2 hL hC' (XI 24) (MI 12) (MI 13) (MI 14) (XA 13) (MA 16) (XA 28) (MA 15) n2
      rw [d3, d4, bs, bs, if_neg i10, if_neg i10, copyFrom_eq, bs, ea, bs, eb, bs]
      dsimp only
      rw [ea', bs]
      have hA : Al a.2.2.2.2.2.2.2.2.1 b.2.2.2.1 := p3.1
      obtain ⟨tx, tm, et1, et2, et3⟩ := torn2 hA
      obtain ⟨z, ez, hz⟩ := copies_eq aside b.2.2.2.1
      have hz' : ∀ k : Nat, k < 637 → z k = MA 0 k := fun k hk => by rw [hz k hk, ha k hk]
      have hCz : ChR (XA 1) (XA 2) (XA 3) (XA 4) (XI 7) (XI 8) (XI 9) (XI 10) (XI 11) z := hC.cong (fun _ _ => rfl) (fun _ _ => rfl) (fun _ _ => rfl) (fun _ _ => rfl) hz'
      rw [show f_X12_sittersOn b.2.2.2.1 0 = _ from mSO b.2.2.2.1 (p := 0) (by decide), bs, show f_X12_sittersOn b.2.2.2.1 1 = _ from mSO b.2.2.2.1 (p := 1) (by decide), bs, et2, bs, ez, bs]
      by_cases c0 : nI j = 0
      · rw [if_pos c0, if_pos c0]
        exact ⟨_, _, rfl, rfl, p1, hT, hCz, hk, hkk, hL⟩
      rw [if_neg c0, if_neg c0]
      by_cases c1 : nI j = 1
      · rw [if_pos c1, if_pos c1]
        exact ⟨_, _, rfl, rfl, by show a.2.2.2.2.2.1 - XI 9 = b.1; rw [p4, Int32.add_comm, Int32.add_sub_cancel], hT, hCz, hk, hkk, hL⟩
      rw [if_neg c1, if_neg c1]
      by_cases c2 : nI j = 2
      · rw [if_pos c2, if_pos c2]
        exact ⟨_, _, rfl, rfl, p2, hT, hCz, hk, hkk, hL⟩
      rw [if_neg c2, if_neg c2]
      by_cases c3 : nI j = 3
      · rw [if_pos c3, if_pos c3]
        unfold f_X0_moreOnHers
        rw [show f_X0_sittingOn a.2.2.2.2.2.2.2.2.1 0 = _ from xSO a.2.2.2.2.2.2.2.2.1 (p := 0) (by decide), bs, show f_X0_sittingOn a.2.2.2.2.2.2.2.2.1 1 = _ from xSO a.2.2.2.2.2.2.2.2.1 (p := 1) (by decide), bs, bs]
        exact ⟨_, _, rfl, rfl, by show nI _ - nI _ = nI _ - nI _; rw [Al_ct hA (show 72 * 0 + 72 ≤ 144 by omega), Al_ct hA (show 72 * 1 + 72 ≤ 144 by omega)], hT, hCz, hk, hkk, hL⟩
      rw [if_neg c3, if_neg c3, et1, bs]
      exact ⟨_, _, rfl, rfl, et3, hT, hCz, hk, hkk, hL⟩
end
