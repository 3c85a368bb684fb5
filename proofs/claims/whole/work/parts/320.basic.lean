theorem i10 : ¬ (1 : Int32) = 0 := by decide
theorem ChR.coat {gu nu co li : Nat → Int32} {wa ar st cl dr : Int32} {now : Nat → Int32} (h : ChR gu nu co li wa ar st cl dr now) {j : Nat} (hj : j < 144) (v : Int32) : ChR gu nu (upd co j v) li wa ar st cl dr (upd now (288 + j) v) := by
  obtain ⟨h1, h2, h3, ⟨w, hw, e1, e2, h4⟩, h5, h6, h7, h8⟩ := h
  refine ⟨fun k hk => by rw [upd_n (by omega)]; exact h1 k hk, fun k hk => by rw [upd_n (by omega)]; exact h2 k hk, fun k hk => ?_, ⟨w, hw, e1, by rw [upd_n (by omega)]; exact e2, fun k hk => by rw [upd_n (by omega)]; exact h4 k hk⟩, by rw [upd_n (by omega)]; exact h5, by rw [upd_n (by omega)]; exact h6, by rw [upd_n (by omega)]; exact h7, by rw [upd_n (by omega)]; exact h8⟩
  by_cases e : k = j
  · subst e
    rw [upd_s, upd_s]
  · rw [upd_n e, upd_n (by omega)]
    exact h3 k hk
theorem ChR.seed {gu nu co li : Nat → Int32} {wa ar st cl dr : Int32} {now : Nat → Int32} (h : ChR gu nu co li wa ar st cl dr now) (v : Int32) : ChR gu nu co li wa ar st cl v (upd now 636 v) := by
  obtain ⟨h1, h2, h3, ⟨w, hw, e1, e2, h4⟩, h5, h6, h7, h8⟩ := h
  exact ⟨fun k hk => by rw [upd_n (by omega)]; exact h1 k hk, fun k hk => by rw [upd_n (by omega)]; exact h2 k hk, fun k hk => by rw [upd_n (by omega)]; exact h3 k hk, ⟨w, hw, e1, by rw [upd_n (by omega)]; exact e2, fun k hk => by rw [upd_n (by omega)]; exact h4 k hk⟩, by rw [upd_n (by omega)]; exact h5, by rw [upd_n (by omega)]; exact h6, by rw [upd_n (by omega)]; exact h7, by rw [upd_s]⟩
theorem ChR.cong {gu nu co li gu' nu' co' li' : Nat → Int32} {wa ar st cl dr : Int32} {now now' : Nat → Int32} (h : ChR gu nu co li wa ar st cl dr now) (a : ∀ k : Nat, k < 144 → gu' k = gu k) (b : ∀ k : Nat, k < 144 → nu' k = nu k) (c : ∀ k : Nat, k < 144 → co' k = co k) (d : ∀ k : Nat, k < 200 → li' k = li k) (e : ∀ k : Nat, k < 637 → now' k = now k) : ChR gu' nu' co' li' wa ar st cl dr now' := by
  obtain ⟨h1, h2, h3, ⟨w, hw, e1, e2, h4⟩, h5, h6, h7, h8⟩ := h
  exact ⟨fun k hk => by rw [a k hk, e k (by omega)]; exact h1 k hk, fun k hk => by rw [b k hk, e _ (by omega)]; exact h2 k hk, fun k hk => by rw [c k hk, e _ (by omega)]; exact h3 k hk, ⟨w, hw, e1, by rw [e _ (by omega)]; exact e2, fun k hk => by rw [d k (by omega), e _ (by omega)]; exact h4 k hk⟩, by rw [e _ (by omega)]; exact h5, by rw [e _ (by omega)]; exact h6, by rw [e _ (by omega)]; exact h7, by rw [e _ (by omega)]; exact h8⟩
theorem isSeat_eq (x : Int32) : f_X11_isSeat x = f_X11_isWithin x 0 (nI 143) := by
  unfold f_X11_isSeat
  show (f_X11_isWithin x 0 143).bind (fun z5 => some z5) = f_X11_isWithin x 0 143
  cases f_X11_isWithin x 0 143 <;> rfl
theorem isSide_eq (x : Int32) : f_X11_isSide x = f_X11_isWithin x 0 (nI 1) := by
  unfold f_X11_isSide
  show (f_X11_isWithin x 0 1).bind (fun z5 => some z5) = f_X11_isWithin x 0 1
  cases f_X11_isWithin x 0 1 <;> rfl
theorem pm_coat {XA : Nat → Nat → Int32} {XI : Nat → Int32} {MA : Nat → Nat → Int32} {MI : Nat → Int32} (h : Inv XA XI MA MI) (x1 : Int32) (x2 : Int32) : ∃ (rX : Int32 × (Nat → Int32)) (rM : Int32 × (Nat → Int32)), f_X11_coat (XA 3) x1 x2 = some rX ∧ f_X12_coat (MA 0) x1 x2 = some rM ∧ rX.1 = rM.1 ∧ Inv (va_up XA 3 rX.2) XI (va_up MA 0 rM.2) MI := by
  obtain ⟨hT, hC, hk, hkk, hL⟩ := h
  unfold f_X11_coat f_X12_coat
  rw [isSeat_eq, show (143 : Int32) = nI 143 from rfl]
  rcases wi x1 143 (by decide) with ⟨e1, e2, -⟩ | ⟨j, hj, rfl, e1, e2⟩
  · rw [e1, e2]
    exact ⟨(0, XA 3), (0, MA 0), rfl, rfl, rfl, hT, hC, hk, hkk, hL⟩
  · rw [e1, e2, bs, bs, if_neg i10, if_neg i10, same_in]
    rcases wi01 x2 (-1) 15 with e | e
    · rw [e]
      exact ⟨(0, XA 3), (0, MA 0), rfl, rfl, rfl, hT, hC, hk, hkk, hL⟩
    · rw [e, bs, bs, if_neg i10, if_neg i10, show (288 : Int32) + nI j = nI (288 + j) from la 288 j, ixn (by omega) (by decide), ixn (by omega) (by decide), nI_clamp (by omega), nI_clamp (by omega)]
      exact ⟨_, _, rfl, rfl, rfl, hT, hC.coat (by omega) x2, hk, hkk, hL⟩
theorem pm_coatAt {XA : Nat → Nat → Int32} {XI : Nat → Int32} {MA : Nat → Nat → Int32} {MI : Nat → Int32} (h : Inv XA XI MA MI) (x1 : Int32) : ∃ (rX : Int32) (rM : Int32), f_X11_coatAt (XA 3) x1 = some rX ∧ f_X12_coatAt (MA 0) x1 = some rM ∧ rX = rM ∧ Inv XA XI MA MI := by
  have h0 := h
  obtain ⟨hT, hC, hk, hkk, hL⟩ := h
  unfold f_X11_coatAt f_X12_coatAt
  rw [isSeat_eq, show (143 : Int32) = nI 143 from rfl]
  rcases wi x1 143 (by decide) with ⟨e1, e2, -⟩ | ⟨j, hj, rfl, e1, e2⟩
  · rw [e1, e2]
    exact ⟨_, _, rfl, rfl, rfl, h0⟩
  · rw [e1, e2, bs, bs, if_neg i10, if_neg i10, show (288 : Int32) + nI j = nI (288 + j) from la 288 j, ixn (by omega) (by decide), ixn (by omega) (by decide), ixn (by omega) (by decide), ixn (by omega) (by decide), nI_clamp (by omega), nI_clamp (by omega), ← hC.2.2.1 j (by omega)]
    by_cases c : XA 3 j = -1
    · rw [if_pos c]
      exact ⟨_, _, rfl, rfl, rfl, h0⟩
    · rw [if_neg c]
      exact ⟨_, _, rfl, rfl, rfl, h0⟩
theorem pm_seed {XA : Nat → Nat → Int32} {XI : Nat → Int32} {MA : Nat → Nat → Int32} {MI : Nat → Int32} (h : Inv XA XI MA MI) (x1 : Int32) : ∃ (rX : Int32 × Int32) (rM : Int32 × (Nat → Int32)), f_X11_seed (XI 11) x1 = some rX ∧ f_X12_seed (MA 0) x1 = some rM ∧ rX.1 = rM.1 ∧ Inv XA (va_up XI 11 rX.2) (va_up MA 0 rM.2) MI := by
  have h0 := h
  obtain ⟨hT, hC, hk, hkk, hL⟩ := h
  unfold f_X11_seed f_X12_seed
  rw [same_in]
  rcases wi01 x1 0 65535 with e | e
  · rw [e]
    exact ⟨(0, XI 11), (0, MA 0), rfl, rfl, rfl, hT, hC, hk, hkk, hL⟩
  · rw [e, bs, bs, if_neg i10, if_neg i10, show (636 : Int32) = nI 636 from rfl, ixn (by omega) (by decide), nI_clamp (by omega)]
    exact ⟨_, _, rfl, rfl, rfl, hT, hC.seed x1, hk, hkk, hL⟩
theorem copies_eq (a b : Nat → Int32) : ∃ c, f_X12_copies a b = some c ∧ ∀ k : Nat, k < 637 → c k = a k := by
  unfold f_X12_copies
  have key := loop1 637 (fun i (s : Nat → Int32) => ∀ k : Nat, k < i → s k = a k) (fun F i s => f_X12_copies_2 a F (nI i) s) (fun o => ∃ c, o = some c ∧ ∀ k : Nat, k < 637 → c k = a k) ?_ ?_ 637 0 b FU (by omega) (by unfold FU; omega) (fun k hk => absurd hk (by omega))
  · exact key
  · intro F s hI
    show ∃ c, f_X12_copies_2 a (F + 1) (nI 637) s = some c ∧ _
    rw [f_X12_copies_2, if_pos (show (637 : Int32) ≤ nI 637 from nI_le (Nat.le_refl 637) (by decide))]
    exact ⟨s, rfl, hI⟩
  · intro F i s hi hI ih
    show ∃ c, f_X12_copies_2 a (F + 1) (nI i) s = some c ∧ _
    rw [f_X12_copies_2, if_neg (show ¬ (637 : Int32) ≤ nI i from nI_ge (b := 637) hi (by decide)), ixn hi (by decide), ixn hi (by decide), nI_clamp (by omega), nI_1]
    refine ih _ (fun k hk => ?_)
    by_cases e : k = i
    · subst e; rw [upd_s]
    · rw [upd_n e]; exact hI k (by omega)
theorem cpk_ok {α : Type} (n : Nat) (hn : n < 2 ^ 31) (k : Option α) : cpk n n 0 0 (nI n) k = k := by
  unfold cpk
  rw [if_pos]
  refine ⟨by decide, by decide, nI_pos hn, ?_, ?_⟩ <;> rw [nI_clamp hn, sb_cl0] <;> omega
theorem cpy_in (f g : Nat → Int32) {n k : Nat} (h : k < n) : va_cpy f g 0 0 n k = f k := by
  rw [pk_cpy_in (Nat.zero_le k) (by omega)]
  congr 1
  omega
theorem copyFrom_eq (a b c d e : Int32) (g nu co li : Nat → Int32) (wa ar st cl dr : Int32) (gu' nu' co' li' : Nat → Int32) : f_X0_copyFrom a b c d e g nu co li wa ar st cl dr gu' nu' co' li' = some (wa, ar, st, cl, dr, va_cpy gu' g 0 0 144, va_cpy nu' nu 0 0 144, va_cpy co' co 0 0 144, va_cpy li' li 0 0 200) := by
  unfold f_X0_copyFrom
  rw [show (144 : Int32) = nI 144 from rfl, show (200 : Int32) = nI 200 from rfl, cpk_ok 144 (by decide), cpk_ok 144 (by decide), cpk_ok 144 (by decide), cpk_ok 200 (by decide), nI_clamp (by omega), nI_clamp (by omega), sb_cl0]
theorem pm_keep {XA : Nat → Nat → Int32} {XI : Nat → Int32} {MA : Nat → Nat → Int32} {MI : Nat → Int32} (h : Inv XA XI MA MI) : ∃ (rX : Int32 × Int32 × Int32 × Int32 × Int32 × Int32 × Int32 × (Nat → Int32) × (Nat → Int32) × (Nat → Int32) × (Nat → Int32)) (rM : Int32 × Int32 × (Nat → Int32)), f_X11_keep (XI 0) (XI 7) (XI 8) (XI 9) (XI 10) (XI 11) (XA 1) (XA 2) (XA 3) (XA 4) (XI 12) (XI 13) (XI 14) (XI 15) (XI 16) (XA 5) (XA 6) (XA 7) (XA 8) = some rX ∧ f_X12_keep (MI 15) (MA 0) (MA 2) = some rM ∧ rX.1 = rM.1 ∧ Inv (va_up (va_up (va_up (va_up XA 5 rX.2.2.2.2.2.2.2.1) 6 rX.2.2.2.2.2.2.2.2.1) 7 rX.2.2.2.2.2.2.2.2.2.1) 8 rX.2.2.2.2.2.2.2.2.2.2) (va_up (va_up (va_up (va_up (va_up (va_up XI 0 rX.2.1) 12 rX.2.2.1) 13 rX.2.2.2.1) 14 rX.2.2.2.2.1) 15 rX.2.2.2.2.2.1) 16 rX.2.2.2.2.2.2.1) (va_up MA 2 rM.2.2) (va_up MI 15 rM.2.1) := by
  obtain ⟨hT, hC, hk, hkk, hL⟩ := h
  unfold f_X11_keep f_X12_keep
  obtain ⟨z, ez, hz⟩ := copies_eq (MA 0) (MA 2)
  rw [copyFrom_eq, ez, bs, bs, show (633 : Int32) = nI 633 from rfl, ixn (by omega) (by decide), nI_clamp (by omega)]
  exact ⟨_, _, rfl, rfl, hC.2.2.2.2.1, hT, hC, rfl, Or.inr ⟨rfl, hC.cong (fun k h => cpy_in _ _ h) (fun k h => cpy_in _ _ h) (fun k h => cpy_in _ _ h) (fun k h => cpy_in _ _ h) hz⟩, hL⟩
theorem pm_undo {XA : Nat → Nat → Int32} {XI : Nat → Int32} {MA : Nat → Nat → Int32} {MI : Nat → Int32} (h : Inv XA XI MA MI) : ∃ (rX : Int32 × Int32 × Int32 × Int32 × Int32 × Int32 × (Nat → Int32) × (Nat → Int32) × (Nat → Int32) × (Nat → Int32)) (rM : Int32 × (Nat → Int32)), f_X11_undo (XI 0) (XI 7) (XI 8) (XI 9) (XI 10) (XI 11) (XA 1) (XA 2) (XA 3) (XA 4) (XI 12) (XI 13) (XI 14) (XI 15) (XI 16) (XA 5) (XA 6) (XA 7) (XA 8) = some rX ∧ f_X12_undo (MI 15) (MA 0) (MA 2) = some rM ∧ rX.1 = rM.1 ∧ Inv (va_up (va_up (va_up (va_up XA 1 rX.2.2.2.2.2.2.1) 2 rX.2.2.2.2.2.2.2.1) 3 rX.2.2.2.2.2.2.2.2.1) 4 rX.2.2.2.2.2.2.2.2.2) (va_up (va_up (va_up (va_up (va_up XI 7 rX.2.1) 8 rX.2.2.1) 9 rX.2.2.2.1) 10 rX.2.2.2.2.1) 11 rX.2.2.2.2.2.1) (va_up MA 0 rM.2) MI := by
  obtain ⟨hT, hC, hk, hkk, hL⟩ := h
  unfold f_X11_undo f_X12_undo
  rw [hk]
  rcases hkk with e | ⟨e, hK⟩
  · rw [e, if_pos rfl, if_pos rfl]
    exact ⟨_, _, rfl, rfl, rfl, hT, hC, hk, Or.inl e, hL⟩
  · obtain ⟨z, ez, hz⟩ := copies_eq (MA 2) (MA 0)
    rw [e, if_neg i10, if_neg i10, copyFrom_eq, ez, bs, bs]
    exact ⟨_, _, rfl, rfl, rfl, hT, hK.cong (fun k h => cpy_in _ _ h) (fun k h => cpy_in _ _ h) (fun k h => cpy_in _ _ h) (fun k h => cpy_in _ _ h) hz, hk, Or.inr ⟨e, hK⟩, hL⟩
