/-! edge -/
theorem xSA (g : Nat → Int32) {P j : Nat} (hP : P < 16) (hj : j < 9) : f_X0_sittingAisleward g (nI (9 * P + j)) = some (nI (ct (tk g) (9 * P) j)) := by
  unfold f_X0_sittingAisleward
  rw [show jrem (nI (9 * P + j)) 9 = nI ((9 * P + j) % 9) from rm_eq (by omega) (by decide) (by decide), show (9 * P + j) % 9 = j by omega, pk_sub (by omega), Nat.add_sub_cancel, xSF g (by omega)]
  rfl
def chM (x : Int32) : Int32 := jrem (x / 480) 2
/-- a child sits there -/
def kid (now : Nat → Int32) (k : Nat) : Bool := tk now k && decide (f_X12_childOf (now k) = some 1)
def atE (now : Nat → Int32) (k : Nat) : Bool := kid now k && decide (ct (tk now) (k - k % 9) (k % 9) = 0)
def offE (now : Nat → Int32) (k : Nat) : Bool := kid now k && decide (¬ ct (tk now) (k - k % 9) (k % 9) = 0)
theorem kidX {gu now : Nat → Int32} (h : Al gu now) (y : Bool) : f_X5_children gu (if y then 1 else 0) = some (nI (ct (if y then atE now else offE now) 0 144)) := by
  unfold f_X5_children
  have key := cloop (fun F i m => f_X5_children_5 gu F (if y then 1 else 0) (nI m) (nI i)) (fun m => some (nI m)) (if y then atE now else offE now) 0 144 ?_ ?_ 144 0 0 FU (by omega) (by omega) (by unfold FU; omega)
  · rw [Nat.zero_add] at key
    exact key
  · intro F m
    show f_X5_children_5 gu (F + 1) (if y then 1 else 0) (nI m) (nI 144) = _
    rw [f_X5_children_5, if_pos (show (144 : Int32) ≤ nI 144 from nI_le (Nat.le_refl _) (by decide))]
  · intro F i m _ hi
    show f_X5_children_5 gu (F + 1) (if y then 1 else 0) (nI m) (nI i) = f_X5_children_5 gu F (if y then 1 else 0) (nI _) (nI (i + 1))
    rw [f_X5_children_5, if_neg (show ¬ (144 : Int32) ≤ nI i from nI_ge (b := 144) (by omega) (by decide)), xT gu hi, bs, nI_1]
    have q := h i hi
    by_cases d : gu i = -1
    · have d' := q.iff.mp d
      rw [if_pos d, if_pos rfl]
      have : (if y then atE now else offE now) i = false := by cases y <;> simp [atE, offE, kid, tk_false d']
      rw [this]
      rfl
    · have d' : ¬ now i = -1 := fun z => d (q.iff.mpr z)
      obtain ⟨_, _, _, c, _, _, _, _, hc, _, ⟨_, _, _, a4, _⟩, ⟨_, _, _, b4, _⟩, _⟩ := q.ex d
      rw [if_neg d, if_neg i10, xG gu hi, bs, a4, bs]
      have e : i = 9 * (i / 9) + i % 9 := by omega
      have sa : f_X0_sittingAisleward gu (nI i) = some (nI (ct (tk now) (i - i % 9) (i % 9))) := by
        have := xSA gu (P := i / 9) (j := i % 9) (by omega) (by omega)
        rw [← e, Al_ct h (by omega), show 9 * (i / 9) = i - i % 9 by omega] at this
        exact this
      by_cases z : nI c = 1
      · rw [if_pos z, sa, bs]
        have k1 : kid now i = true := by unfold kid; rw [tk_true d', b4, z]; rfl
        unfold f_X5_children_49
        rw [nI_1]
        by_cases f : ct (tk now) (i - i % 9) (i % 9) = 0
        · rw [if_pos (show nI (ct (tk now) (i - i % 9) (i % 9)) = 0 by rw [f]; rfl)]
          cases y with
          | true =>
            have : (if true = true then atE now else offE now) i = true := by show atE now i = true; unfold atE; rw [k1]; simp [f]
            rw [this, show (if true = true then (1:Int32) else 0) = 1 from rfl, if_pos rfl, nI_1]
            rfl
          | false =>
            have : (if false = true then atE now else offE now) i = false := by show offE now i = false; unfold offE; rw [k1]; simp [f]
            rw [this, show (if false = true then (1:Int32) else 0) = 0 from rfl, if_neg i10, nI_1]
            rfl
        · rw [if_neg (nI_ne0 (by omega) (by have := ct_le (tk now) (i - i % 9) (i % 9); omega))]
          cases y with
          | true =>
            have : (if true = true then atE now else offE now) i = false := by show atE now i = false; unfold atE; rw [k1]; simp [f]
            rw [this, show (if true = true then (1:Int32) else 0) = 1 from rfl, if_neg (show ¬ (0:Int32) = 1 by decide), nI_1]
            rfl
          | false =>
            have : (if false = true then atE now else offE now) i = true := by show offE now i = true; unfold offE; rw [k1]; simp [f]
            rw [this, show (if false = true then (1:Int32) else 0) = 0 from rfl, if_pos rfl, nI_1]
            rfl
      · rw [if_neg z]
        have k1 : kid now i = false := by unfold kid; rw [b4]; simp [z]
        have : (if y then atE now else offE now) i = false := by cases y <;> simp [atE, offE, k1]
        rw [this]
        rfl
theorem kidM (now : Nat → Int32) (hg : ∀ k : Nat, k < 144 → now k = -1 ∨ ∃ c : Nat, c < 2 ∧ f_X12_childOf (now k) = some (nI c)) (w : Int32) : f_X12_edge_18 now FU w 0 0 0 = if w = 0 then some (nI (ct (atE now) 0 144)) else some (nI (ct (offE now) 0 144)) := by
  have key := loop1 16 (fun i (s : Nat × Nat) => s.1 = ct (atE now) 0 (9 * i) ∧ s.2 = ct (offE now) 0 (9 * i)) (fun F i s => f_X12_edge_18 now F w (nI s.1) (nI s.2) (nI i)) (fun o => o = if w = 0 then some (nI (ct (atE now) 0 144)) else some (nI (ct (offE now) 0 144))) ?_ ?_ 16 0 (0, 0) FU (by omega) (by unfold FU; omega) ⟨rfl, rfl⟩
  · exact key
  · intro F s hI
    show f_X12_edge_18 now (F + 1) w (nI s.1) (nI s.2) (nI 16) = _
    rw [f_X12_edge_18, if_pos (show (16 : Int32) ≤ nI 16 from nI_le (Nat.le_refl _) (by decide)), hI.1, hI.2]
  · intro F P s hP hI ih
    show f_X12_edge_18 now (F + 1) w (nI s.1) (nI s.2) (nI P) = _
    rw [f_X12_edge_18, if_neg (show ¬ (16 : Int32) ≤ nI P from nI_ge (b := 16) (by omega) (by decide)), m9'']
    have e9 : nI (9 * P) + 9 = nI (9 * P + 9) := la _ 9
    refine loop1 9 (fun j (t : Nat × Nat × Int32) => t.1 = ct (atE now) 0 (9 * P + j) ∧ t.2.1 = ct (offE now) 0 (9 * P + j) ∧ t.2.2 = (if ct (tk now) (9 * P) j = 0 then 0 else 1)) (fun G j t => f_X12_edge_35 now (f_X12_edge_18 now F) G w (nI t.1) (nI t.2.1) (nI P) t.2.2 (nI (9 * P + j))) (fun o => o = if w = 0 then some (nI (ct (atE now) 0 144)) else some (nI (ct (offE now) 0 144))) ?_ ?_ 9 0 (s.1, s.2, 0) FU (by omega) (by unfold FU; omega) ⟨hI.1, hI.2, rfl⟩
    · intro G t hJ
      show f_X12_edge_35 now (f_X12_edge_18 now F) (G + 1) w (nI t.1) (nI t.2.1) (nI P) t.2.2 (nI (9 * P + 9)) = _
      rw [f_X12_edge_35, m9'', e9, if_pos (nI_le (Nat.le_refl _) (by omega)), nI_1]
      exact ih (t.1, t.2.1) ⟨by rw [hJ.1]; rfl, by rw [hJ.2.1]; rfl⟩
    · intro G j t hj hJ ih2
      show f_X12_edge_35 now (f_X12_edge_18 now F) (G + 1) w (nI t.1) (nI t.2.1) (nI P) t.2.2 (nI (9 * P + j)) = _
      rw [f_X12_edge_35, m9'', e9, if_neg (nI_ge (by omega) (by omega)), mT now (by omega), bs, nI_1]
      have hm : (9 * P + j) - (9 * P + j) % 9 = 9 * P := by omega
      have hm2 : (9 * P + j) % 9 = j := by omega
      have s1 : ct (atE now) 0 (9 * P + (j + 1)) = ct (atE now) 0 (9 * P + j) + (if atE now (9 * P + j) then 1 else 0) := by
        show ct (atE now) 0 (9 * P + j) + (if atE now (0 + (9 * P + j)) then 1 else 0) = _
        rw [Nat.zero_add]
      have s2 : ct (offE now) 0 (9 * P + (j + 1)) = ct (offE now) 0 (9 * P + j) + (if offE now (9 * P + j) then 1 else 0) := by
        show ct (offE now) 0 (9 * P + j) + (if offE now (0 + (9 * P + j)) then 1 else 0) = _
        rw [Nat.zero_add]
      have s3 : ct (tk now) (9 * P) (j + 1) = ct (tk now) (9 * P) j + (if tk now (9 * P + j) then 1 else 0) := rfl
      by_cases d : now (9 * P + j) = -1
      · rw [if_pos d, if_pos rfl]
        have k0 : kid now (9 * P + j) = false := by unfold kid; rw [tk_false d]; rfl
        refine ih2 (t.1, t.2.1, t.2.2) ⟨?_, ?_, ?_⟩
        · rw [s1, ← hJ.1]; unfold atE; rw [k0]; rfl
        · rw [s2, ← hJ.2.1]; unfold offE; rw [k0]; rfl
        · rw [s3, tk_false d]; exact hJ.2.2
      · rcases hg (9 * P + j) (by omega) with z | ⟨c, hc, b4⟩
        · exact absurd z d
        rw [if_neg d, if_neg i10, Int32.zero_add, ixn (by omega) (by decide), nI_clamp (by omega), b4, bs]
        have nx : (1 : Int32) = if ct (tk now) (9 * P) (j + 1) = 0 then 0 else 1 := by
          rw [s3, tk_true d, if_neg (show ¬ ct (tk now) (9 * P) j + (if true = true then 1 else 0) = 0 by rw [if_pos rfl]; omega)]
        have kc : kid now (9 * P + j) = decide (nI c = 1) := by unfold kid; rw [tk_true d, b4]; simp
        have aE : atE now (9 * P + j) = (decide (nI c = 1) && decide (ct (tk now) (9 * P) j = 0)) := by unfold atE; rw [kc, hm, hm2]
        have oE : offE now (9 * P + j) = (decide (nI c = 1) && decide (¬ ct (tk now) (9 * P) j = 0)) := by unfold offE; rw [kc, hm, hm2]
        unfold f_X12_edge_81 f_X12_edge_97
        rw [nI_1, hJ.2.2]
        by_cases z : nI c = 1
        · rw [if_pos z, if_neg i10, if_neg i10]
          by_cases f : ct (tk now) (9 * P) j = 0
          · rw [if_pos f, if_pos rfl, if_pos rfl, nI_1]
            refine ih2 (t.1 + 1, t.2.1, 1) ⟨?_, ?_, nx⟩
            · rw [s1, aE, ← hJ.1]; simp [z, f]
            · rw [s2, oE, ← hJ.2.1]; simp [f]
          · rw [if_neg f, if_neg i10, if_neg i10, if_neg i10, nI_1]
            refine ih2 (t.1, t.2.1 + 1, 1) ⟨?_, ?_, nx⟩
            · rw [s1, aE, ← hJ.1]; simp [f]
            · rw [s2, oE, ← hJ.2.1]; simp [z, f]
        · rw [if_neg z, if_pos rfl, if_pos rfl]
          refine ih2 (t.1, t.2.1, 1) ⟨?_, ?_, nx⟩
          · rw [s1, aE, ← hJ.1]; simp [z]
          · rw [s2, oE, ← hJ.2.1]; simp [z]
theorem pm_edge {XA : Nat → Nat → Int32} {XI : Nat → Int32} {MA : Nat → Nat → Int32} {MI : Nat → Int32} (h : Inv XA XI MA MI) (x1 : Int32) : ∃ (rX : Int32) (rM : Int32), f_X11_edge (XA 1) x1 = some rX ∧ f_X12_edge (MA 0) x1 = some rM ∧ rX = rM ∧ Inv XA XI MA MI := by
  have h0 := h
  obtain ⟨hT, hC, hk, hkk, hL⟩ := h
  unfold f_X11_edge f_X12_edge
  rw [same_in]
  rcases wi01 x1 0 1 with e | e
  · rw [e]; exact ⟨_, _, rfl, rfl, rfl, h0⟩
  · rw [e, bs, bs, if_neg i10, if_neg i10, kidM (MA 0) (fun k hk => by
      rcases hC.1 k hk with z | z
      · exact Or.inl z.2
      · obtain ⟨_, _, _, c, _, _, _, _, hc, _, _, ⟨_, _, _, b4, _⟩, _⟩ := z.dec
        exact Or.inr ⟨c, hc, b4⟩)]
    unfold f_X11_edge_28
    by_cases z : x1 = 0
    · rw [if_pos z, if_pos z, show f_X5_children (XA 1) 1 = _ from kidX hC.1 true]
      exact ⟨_, _, rfl, rfl, rfl, h0⟩
    · rw [if_neg z, if_neg z, show f_X5_children (XA 1) 0 = _ from kidX hC.1 false]
      exact ⟨_, _, rfl, rfl, rfl, h0⟩
