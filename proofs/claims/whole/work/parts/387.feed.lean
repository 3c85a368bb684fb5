/-! feed -/
theorem b255 : ∀ i : Nat, i < 32 → (255#32).getLsbD i = decide (i < 8) := by decide
theorem by1 (x : Int32) : x.toInt8.toInt32 &&& 255 = x &&& 255 := by
  apply Int32.toBitVec_inj.mp
  apply BitVec.eq_of_getLsbD_eq
  intro i hi
  have e : (255 : Int32).toBitVec = 255#32 := rfl
  rw [Int32.toBitVec_and, Int32.toBitVec_and, BitVec.getLsbD_and, BitVec.getLsbD_and, e, b255 i hi]
  by_cases h : i < 8
  · simp [BitVec.getElem_signExtend, h, hi]
  · simp [h]
theorem by2a (x : Int32) {y z : Int32} {q : Nat} (hq : q ≤ 24) (h1 : y.toBitVec = x.toBitVec >>> q) (h2 : z.toBitVec = x.toBitVec.sshiftRight q) : y &&& 255 = z &&& 255 := by
  apply Int32.toBitVec_inj.mp
  apply BitVec.eq_of_getLsbD_eq
  intro i hi
  have e : (255 : Int32).toBitVec = 255#32 := rfl
  rw [Int32.toBitVec_and, Int32.toBitVec_and, BitVec.getLsbD_and, BitVec.getLsbD_and, e, b255 i hi, h1, h2, BitVec.getLsbD_ushiftRight, BitVec.getLsbD_sshiftRight]
  by_cases h : i < 8
  · rw [if_pos (show q + i < 32 by omega), decide_eq_false (show ¬ 32 ≤ i by omega)]; simp
  · simp [h]
theorem by2 (x : Int32) (q : Nat) (hq : q = 0 ∨ q = 8 ∨ q = 16 ∨ q = 24) : jushr x (nI q) &&& 255 = x >>> (nI q &&& 31) &&& 255 := by
  rcases hq with rfl | rfl | rfl | rfl
  · exact by2a x (q := 0) (by omega) rfl rfl
  · exact by2a x (q := 8) (by omega) rfl rfl
  · exact by2a x (q := 16) (by omega) rfl rfl
  · exact by2a x (q := 24) (by omega) rfl rfl
theorem FU5 : FU = 9995 + 1 + 1 + 1 + 1 + 1 := rfl
theorem apX (bt : Nat → Int32) (x : Int32) {n : Nat} (h : n + 4 ≤ 260) : f_X8_append (nI n) bt x = some (nI (n + 4), upd (upd (upd (upd bt n (jushr x 24 &&& 255)) (n + 1) (jushr x 16 &&& 255)) (n + 2) (jushr x 8 &&& 255)) (n + 3) (jushr x 0 &&& 255)) := by
  unfold f_X8_append
  have l : ∀ k : Nat, k < 4 → ¬ (260 : Int32) ≤ nI (n + k) := fun k hk => nI_ge (b := 260) (by omega) (by decide)
  rw [FU5, f_X8_append_3, if_neg (by decide), if_neg (show ¬ (260 : Int32) ≤ nI n from l 0 (by omega)), ixn (by omega) (by decide), nI_clamp (by omega), nI_1, show (24 : Int32) + -8 = 16 from rfl,
    f_X8_append_3, if_neg (by decide), if_neg (l 1 (by omega)), ixn (by omega) (by decide), nI_clamp (by omega), nI_1, show (16 : Int32) + -8 = 8 from rfl,
    f_X8_append_3, if_neg (by decide), if_neg (l 2 (by omega)), ixn (by omega) (by decide), nI_clamp (by omega), nI_1, show (8 : Int32) + -8 = 0 from rfl,
    f_X8_append_3, if_neg (by decide), if_neg (l 3 (by omega)), ixn (by omega) (by decide), nI_clamp (by omega), nI_1, show (0 : Int32) + -8 = -8 from rfl,
    f_X8_append_3, if_pos (by decide)]
theorem apM (tp : Nat → Int32) (x : Int32) {n : Nat} (h : n + 4 ≤ 260) : f_X12_types (nI n) tp x = some (nI (n + 4), upd (upd (upd (upd tp n ((x >>> (nI 24 &&& 31)).toInt8.toInt32)) (n + 1) ((x >>> (nI 16 &&& 31)).toInt8.toInt32)) (n + 2) ((x >>> (nI 8 &&& 31)).toInt8.toInt32)) (n + 3) ((x >>> (nI 0 &&& 31)).toInt8.toInt32)) := by
  unfold f_X12_types
  rw [FU5, f_X12_types_2, if_neg (by decide), ixn (by omega) (by decide), nI_clamp (by omega), nI_1, show (3 : Int32) + -1 = 2 from rfl, pk_vb, show (8 : Int32) * 3 = nI 24 from rfl,
    f_X12_types_2, if_neg (by decide), ixn (by omega) (by decide), nI_clamp (by omega), nI_1, show (2 : Int32) + -1 = 1 from rfl, pk_vb, show (8 : Int32) * 2 = nI 16 from rfl,
    f_X12_types_2, if_neg (by decide), ixn (by omega) (by decide), nI_clamp (by omega), nI_1, show (1 : Int32) + -1 = 0 from rfl, pk_vb, show (8 : Int32) * 1 = nI 8 from rfl,
    f_X12_types_2, if_neg (by decide), ixn (by omega) (by decide), nI_clamp (by omega), nI_1, show (0 : Int32) + -1 = -1 from rfl, pk_vb, show (8 : Int32) * 0 = nI 0 from rfl,
    f_X12_types_2, if_pos (by decide)]
theorem ap2 {bt tp : Nat → Int32} (h : ∀ k : Nat, k < 260 → bt k = tp k &&& 255) (x : Int32) {n : Nat} (hn : n + 4 ≤ 260) : ∃ bt' tp', f_X8_append (nI n) bt x = some (nI (n + 4), bt') ∧ f_X12_types (nI n) tp x = some (nI (n + 4), tp') ∧ ∀ k : Nat, k < 260 → bt' k = tp' k &&& 255 := by
  have st : ∀ {b t : Nat → Int32} (i q : Nat), (q = 0 ∨ q = 8 ∨ q = 16 ∨ q = 24) → (∀ k : Nat, k < 260 → b k = t k &&& 255) → ∀ k : Nat, k < 260 → upd b i (jushr x (nI q) &&& 255) k = upd t i ((x >>> (nI q &&& 31)).toInt8.toInt32) k &&& 255 := by
    intro b t i q hq hb k hk
    by_cases e : k = i
    · rw [e, upd_s, upd_s, by1, by2 x q hq]
    · rw [upd_n e, upd_n e]; exact hb k hk
  exact ⟨_, _, apX bt x hn, apM tp x hn, st _ 0 (by omega) (st _ 8 (by omega) (st _ 16 (by omega) (st _ 24 (by omega) h)))⟩
theorem pm_feed {XA : Nat → Nat → Int32} {XI : Nat → Int32} {MA : Nat → Nat → Int32} {MI : Nat → Int32} (h : Inv XA XI MA MI) (x1 : Int32) (x2 : Int32) (x3 : Int32) (x4 : Int32) (x5 : Int32) : ∃ (rX : Int32 × Int32 × (Nat → Int32)) (rM : Int32 × Int32 × (Nat → Int32)), f_X11_feed (XI 1) (XA 0) x1 x2 x3 x4 x5 = some rX ∧ f_X12_feed (MI 0) (MA 3) x1 x2 x3 x4 x5 = some rM ∧ rX.1 = rM.1 ∧ Inv (va_up XA 0 rX.2.2) (va_up XI 1 rX.2.1) (va_up MA 3 rM.2.2) (va_up MI 0 rM.2.1) := by
  obtain ⟨⟨⟨n, hn, e1, e2⟩, hb⟩, hC, hk, hkk, hL⟩ := h
  unfold f_X11_feed f_X12_feed f_X8_hasRoomForFive
  rw [e1, e2, show nI n + 20 = nI (n + 20) from la n 20]
  by_cases c : n + 20 ≤ 260
  · rw [if_neg (show ¬ (260 : Int32) < nI (n + 20) from nI_nlt (a := 260) c (by decide)), if_pos (show nI (n + 20) ≤ (260 : Int32) from nI_le (b := 260) c (by decide)), bs, if_neg i10]
    obtain ⟨b1, t1, p1, q1, h1⟩ := ap2 hb x1 (n := n) (by omega)
    obtain ⟨b2, t2, p2, q2, h2⟩ := ap2 h1 x2 (n := n + 4) (by omega)
    obtain ⟨b3, t3, p3, q3, h3⟩ := ap2 h2 x3 (n := n + 4 + 4) (by omega)
    obtain ⟨b4, t4, p4, q4, h4⟩ := ap2 h3 x4 (n := n + 4 + 4 + 4) (by omega)
    obtain ⟨b5, t5, p5, q5, h5⟩ := ap2 h4 x5 (n := n + 4 + 4 + 4 + 4) (by omega)
    rw [p1, q1, bs, bs]
    simp only [p2, q2, bs, p3, q3, p4, q4, p5, q5]
    exact ⟨_, _, rfl, rfl, rfl, ⟨⟨n + 4 + 4 + 4 + 4 + 4, by omega, rfl, rfl⟩, h5⟩, hC, hk, hkk, hL⟩
  · rw [if_pos (show (260 : Int32) < nI (n + 20) from nI_lt (a := 260) (by omega) (by omega)), if_neg (show ¬ nI (n + 20) ≤ (260 : Int32) from nI_ge (a := 260) (by omega) (by omega)), bs, if_pos rfl]
    exact ⟨_, _, rfl, rfl, rfl, ⟨⟨n, hn, rfl, rfl⟩, hb⟩, hC, hk, hkk, hL⟩
