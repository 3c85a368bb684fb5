theorem bn {α β : Type} (f : α → Option β) : (none : Option α).bind f = none := rfl
/-! strangers, inLine -/
theorem SR.ex {x m : Int32} (h : SR x m) (hx : ¬ x = -1) : ∃ s f h' c i : Nat, s < 3 ∧ f < 16 ∧ h' < 10 ∧ c < 2 ∧ i < 2 ∧ (f_X1_sideOf x = some (nI s) ∧ f_X1_familyOf x = some (nI f) ∧ f_X1_heightOf x = some (nI h') ∧ f_X1_childOf x = some (nI c) ∧ f_X1_singerOf x = some (nI i)) ∧ (f_X12_sideOf m = some (nI s) ∧ f_X12_familyOf m = some (nI f) ∧ f_X12_heightOf m = some (nI h') ∧ f_X12_childOf m = some (nI c) ∧ f_X12_singerOf m = some (nI i)) ∧ x ≠ -1 ∧ m ≠ -1 := (h.gr hx).dec
theorem nle0 {a : Nat} (h : a < 2 ^ 31) : (nI a ≤ 0) ↔ a = 0 := by
  constructor
  · intro q
    exact Nat.le_zero.mp ((nI_leI h (by decide)).mp (show nI a ≤ nI 0 from q))
  · rintro rfl
    exact nI_le (Nat.le_refl 0) (by decide)
theorem n8le {a : Nat} (h : a < 2 ^ 31) : ((8 : Int32) ≤ nI a) ↔ 8 ≤ a := nI_leI (by decide) h
theorem besL (now : Nat → Int32) {k : Nat} (hk : k < 144) (a : Int32) : f_X12_isBeside now (nI k) (-1) a = if k % 9 = 0 then some 0 else if now (k - 1) = -1 then some 0 else if a = 0 then some 1 else if faM (now k) = faM (now (k - 1)) then some 1 else some 0 := by
  unfold f_X12_isBeside
  rw [show jrem (nI k) 9 = nI (k % 9) from rm_eq (by omega) (by decide) (by decide)]
  by_cases c : k % 9 = 0
  · rw [if_pos c, c]
    rfl
  · rw [if_neg c, sb_m1 (by omega), show (8 : Int32) = nI 8 from rfl, (wi1 (show k % 9 - 1 ≤ 8 by omega) (by decide)).2, bs, if_neg i10, sb_m1 (by omega), mT now (by omega), bs]
    by_cases d : now (k - 1) = -1
    · rw [if_pos d, if_pos rfl, if_pos d]
    · rw [if_neg d, if_neg i10, if_neg d]
      by_cases e : a = 0
      · rw [if_pos e, if_pos e]
      · rw [if_neg e, if_neg e, Int32.zero_add, ixn (by omega) (by decide), nI_clamp (by omega)]
        rw [show f_X12_familyOf (now k) = some (faM (now k)) from rfl, bs, sb_m1 (by omega), ixn (by omega) (by decide), nI_clamp (by omega), show f_X12_familyOf (now (k - 1)) = some (faM (now (k - 1))) from rfl, bs]
theorem besR (now : Nat → Int32) {k : Nat} (hk : k < 144) (a : Int32) : f_X12_isBeside now (nI k) 1 a = if k % 9 = 8 then some 0 else if now (k + 1) = -1 then some 0 else if a = 0 then some 1 else if faM (now k) = faM (now (k + 1)) then some 1 else some 0 := by
  unfold f_X12_isBeside
  rw [show jrem (nI k) 9 = nI (k % 9) from rm_eq (by omega) (by decide) (by decide), nI_1]
  by_cases c : k % 9 = 8
  · rw [if_pos c, c]
    rfl
  · rw [if_neg c, show (8 : Int32) = nI 8 from rfl, (wi1 (show k % 9 + 1 ≤ 8 by omega) (by decide)).2, bs, if_neg i10, nI_1, mT now (by omega), bs]
    by_cases d : now (k + 1) = -1
    · rw [if_pos d, if_pos rfl, if_pos d]
    · rw [if_neg d, if_neg i10, if_neg d]
      by_cases e : a = 0
      · rw [if_pos e, if_pos e]
      · rw [if_neg e, if_neg e, Int32.zero_add, ixn (by omega) (by decide), nI_clamp (by omega)]
        show (ix 637 (nI k + 1) ((f_X12_familyOf (now (nI k + 1).toNatClampNeg)).bind fun z56 => if faM (now k) = z56 then some 1 else some 0)) = _
        rw [nI_1, ixn (by omega) (by decide), nI_clamp (by omega)]
        rfl
def fLX (g : Nat → Int32) (i : Int32) : Option Int32 := (f_X0_isTaken g i).bind (fun z => if z = 0 then some 0 else f_X5_isLonely g i)
def fLG (g : Nat → Int32) (i : Int32) : Option Int32 := (f_X12_isBeside g i (-1) 1).bind (fun z65 => (if z65 = 0 then (f_X12_isBeside g i 1 1).bind (fun z76 => (if z76 = 0 then some 1 else some 0)) else some 0))
def fLM (g : Nat → Int32) (i : Int32) : Option Int32 := (f_X12_isTaken g i).bind (fun z29 => (if z29 = 0 then some 0 else (f_X12_isBeside g i (-1) 0).bind (fun z40 => (if z40 = 0 then (f_X12_isBeside g i 1 0).bind (fun z51 => (if z51 = 0 then some 0 else fLG g i)) else fLG g i))))
theorem lon_l (g : Nat → Int32) {k : Nat} (hk : k < 144) (f : Int32) : (if (jrem (nI k) 9) ≤ 0 then f_X5_isLonely_30 g (nI k) f else (f_X0_isTaken g (nI k - 1)).bind (fun z20 => (if z20 = 0 then f_X5_isLonely_30 g (nI k) f else f_X5_isLonely_31 g (nI k) f 1))) = f_X5_isLonely_31 g (nI k) f (if k % 9 = 0 ∨ g (k - 1) = -1 then 0 else 1) := by
  rw [show jrem (nI k) 9 = nI (k % 9) from rm_eq (by omega) (by decide) (by decide)]
  by_cases c : k % 9 = 0
  · rw [if_pos ((nle0 (by omega)).mpr c), if_pos (Or.inl c)]
    rfl
  · rw [if_neg (fun q => c ((nle0 (by omega)).mp q)), show nI k - 1 = nI (k - 1) from pk_sub (show 1 ≤ k by omega), xT g (by omega), bs]
    by_cases d : g (k - 1) = -1
    · rw [if_pos d, if_pos rfl, if_pos (Or.inr d)]
      rfl
    · rw [if_neg d, if_neg i10, if_neg (fun q => q.elim c d)]
theorem lon_r (g : Nat → Int32) {k : Nat} (hk : k < 144) (f y : Int32) : f_X5_isLonely_31 g (nI k) f y = f_X5_isLonely_57 g (nI k) f y (if k % 9 = 8 ∨ g (k + 1) = -1 then 0 else 1) := by
  unfold f_X5_isLonely_31
  rw [show jrem (nI k) 9 = nI (k % 9) from rm_eq (by omega) (by decide) (by decide)]
  by_cases c : k % 9 = 8
  · rw [if_pos ((n8le (by omega)).mpr (by omega)), if_pos (Or.inl c)]
    rfl
  · rw [if_neg (fun q => c (by have := (n8le (by omega)).mp q; omega)), nI_1, xT g (by omega), bs]
    by_cases d : g (k + 1) = -1
    · rw [if_pos d, if_pos rfl, if_pos (Or.inr d)]
      rfl
    · rw [if_neg d, if_neg i10, if_neg (fun q => q.elim c d)]
theorem lonely1 {gu now : Nat → Int32} (h : Al gu now) {k : Nat} (hk : k < 144) : ∃ b : Bool, fLX gu (nI k) = some (if b then 1 else 0) ∧ fLM now (nI k) = some (if b then 1 else 0) := by
  unfold fLX fLM fLG
  rw [xT gu hk, mT now hk, bs, bs]
  have q := h k hk
  by_cases d : gu k = -1
  · rw [if_pos d, if_pos (q.iff.mp d), if_pos rfl, if_pos rfl]
    exact ⟨false, rfl, rfl⟩
  · have d' : ¬ now k = -1 := fun e => d (q.iff.mpr e)
    rw [if_neg d, if_neg d', if_neg i10, if_neg i10, besL now hk, besR now hk, besL now hk, besR now hk, if_pos rfl, if_pos rfl, if_neg i10, if_neg i10]
    unfold f_X5_isLonely
    rw [xG gu hk, bs]
    show ∃ b : Bool, (if (jrem (nI k) 9) ≤ 0 then f_X5_isLonely_30 gu (nI k) (faX (gu k)) else (f_X0_isTaken gu (nI k - 1)).bind (fun z20 => (if z20 = 0 then f_X5_isLonely_30 gu (nI k) (faX (gu k)) else f_X5_isLonely_31 gu (nI k) (faX (gu k)) 1))) = _ ∧ _
    rw [lon_l gu hk, lon_r gu hk, q.fa d]
    -- the left neighbour
    have L : ∃ l sl : Bool, (l = true ↔ ¬ (k % 9 = 0 ∨ gu (k - 1) = -1)) ∧ (l = true → f_X0_isTakenBy gu (nI k - 1) (faM (now k)) = some (if sl then 1 else 0)) ∧ (if k % 9 = 0 then some (0 : Int32) else if now (k - 1) = -1 then some 0 else some 1) = some (if l then 1 else 0) ∧ (if k % 9 = 0 then some (0 : Int32) else if now (k - 1) = -1 then some 0 else if faM (now k) = faM (now (k - 1)) then some 1 else some 0) = some (if l && sl then 1 else 0) := by
      by_cases c : k % 9 = 0
      · exact ⟨false, false, by simp [c], by simp, by rw [if_pos c]; rfl, by rw [if_pos c]; rfl⟩
      · have q1 := h (k - 1) (by omega)
        by_cases e : gu (k - 1) = -1
        · have e' := q1.iff.mp e
          exact ⟨false, false, by simp [c, e], by simp, by rw [if_neg c, if_pos e']; rfl, by rw [if_neg c, if_pos e']; rfl⟩
        · have e' : ¬ now (k - 1) = -1 := fun z => e (q1.iff.mpr z)
          refine ⟨true, decide (faM (now k) = faM (now (k - 1))), by simp [c, e], fun _ => ?_, by rw [if_neg c, if_neg e']; rfl, ?_⟩
          · rw [show nI k - 1 = nI (k - 1) from pk_sub (show 1 ≤ k by omega), xTB gu _ (by omega), Al_tb h _ (by omega)]
            unfold tbM
            simp only [e', decide_false, Bool.not_false, Bool.true_and, decide_eq_true_eq, eq_comm]
          · rw [if_neg c, if_neg e']
            by_cases z : faM (now k) = faM (now (k - 1))
            · rw [if_pos z]; simp [z]
            · rw [if_neg z]; simp [z]
    have R : ∃ l sl : Bool, (l = true ↔ ¬ (k % 9 = 8 ∨ gu (k + 1) = -1)) ∧ (l = true → f_X0_isTakenBy gu (nI k + 1) (faM (now k)) = some (if sl then 1 else 0)) ∧ (if k % 9 = 8 then some (0 : Int32) else if now (k + 1) = -1 then some 0 else some 1) = some (if l then 1 else 0) ∧ (if k % 9 = 8 then some (0 : Int32) else if now (k + 1) = -1 then some 0 else if faM (now k) = faM (now (k + 1)) then some 1 else some 0) = some (if l && sl then 1 else 0) := by
      by_cases c : k % 9 = 8
      · exact ⟨false, false, by simp [c], by simp, by rw [if_pos c]; rfl, by rw [if_pos c]; rfl⟩
      · have q1 := h (k + 1) (by omega)
        by_cases e : gu (k + 1) = -1
        · have e' := q1.iff.mp e
          exact ⟨false, false, by simp [c, e], by simp, by rw [if_neg c, if_pos e']; rfl, by rw [if_neg c, if_pos e']; rfl⟩
        · have e' : ¬ now (k + 1) = -1 := fun z => e (q1.iff.mpr z)
          refine ⟨true, decide (faM (now k) = faM (now (k + 1))), by simp [c, e], fun _ => ?_, by rw [if_neg c, if_neg e']; rfl, ?_⟩
          · rw [nI_1, xTB gu _ (by omega), Al_tb h _ (by omega)]
            unfold tbM
            simp only [e', decide_false, Bool.not_false, Bool.true_and, decide_eq_true_eq, eq_comm]
          · rw [if_neg c, if_neg e']
            by_cases z : faM (now k) = faM (now (k + 1))
            · rw [if_pos z]; simp [z]
            · rw [if_neg z]; simp [z]
    obtain ⟨l, sl, l1, l2, l3, l4⟩ := L
    obtain ⟨r, sr, r1, r2, r3, r4⟩ := R
    rw [l3, l4, r3, r4, bs, bs]
    cases l with
    | false =>
      have hl : k % 9 = 0 ∨ gu (k - 1) = -1 := Classical.byContradiction (fun z => by have := l1.mpr z; cases this)
      rw [if_pos hl]
      cases r with
      | false =>
        have hr : k % 9 = 8 ∨ gu (k + 1) = -1 := Classical.byContradiction (fun z => by have := r1.mpr z; cases this)
        rw [if_pos hr]
        exact ⟨false, rfl, rfl⟩
      | true =>
        rw [if_neg (r1.mp rfl)]
        unfold f_X5_isLonely_57 f_X5_isLonely_75
        rw [if_pos rfl, if_neg i10, r2 rfl]
        cases sr
        · exact ⟨true, rfl, rfl⟩
        · exact ⟨false, rfl, rfl⟩
    | true =>
      rw [if_neg (l1.mp rfl)]
      unfold f_X5_isLonely_57
      rw [if_neg i10, l2 rfl]
      cases sl with
      | true =>
        cases r with
        | false =>
          have hr : k % 9 = 8 ∨ gu (k + 1) = -1 := Classical.byContradiction (fun z => by have := r1.mpr z; cases this)
          rw [if_pos hr]
          exact ⟨false, rfl, rfl⟩
        | true =>
          rw [if_neg (r1.mp rfl)]
          exact ⟨false, rfl, rfl⟩
      | false =>
        cases r with
        | false =>
          have hr : k % 9 = 8 ∨ gu (k + 1) = -1 := Classical.byContradiction (fun z => by have := r1.mpr z; cases this)
          rw [if_pos hr]
          exact ⟨true, rfl, rfl⟩
        | true =>
          rw [if_neg (r1.mp rfl), bs, if_pos (show (if false = true then (1 : Int32) else 0) = 0 from rfl)]
          unfold f_X5_isLonely_75
          rw [if_neg i10, r2 rfl]
          cases sr
          · exact ⟨true, rfl, rfl⟩
          · exact ⟨false, rfl, rfl⟩
theorem pm_strangers {XA : Nat → Nat → Int32} {XI : Nat → Int32} {MA : Nat → Nat → Int32} {MI : Nat → Int32} (h : Inv XA XI MA MI) (x1 : Int32) : ∃ (rX : Int32) (rM : Int32), f_X11_strangers (XA 1) x1 = some rX ∧ f_X12_strangers (MA 0) x1 = some rM ∧ rX = rM ∧ Inv XA XI MA MI := by
  have h0 := h
  obtain ⟨hT, hC, hk, hkk, hL⟩ := h
  unfold f_X11_strangers f_X12_strangers
  rw [same_in]
  rcases wi01 x1 0 1 with e | e
  · rw [e]
    exact ⟨_, _, rfl, rfl, rfl, h0⟩
  · rw [e, bs, bs, if_neg i10, if_neg i10]
    have key := many_first (w := x1) (p := fun k => decide (fLX (XA 1) (nI k) = some 1)) (fX := fLX (XA 1)) (fM := fLM (MA 0)) (LX := fun F a b i => f_X5_lonely_9 (XA 1) F x1 a b i) (LM := fun F a b i => f_X12_strangers_21 (MA 0) F x1 a b i) ?_ ?_ ?_ ?_
    · obtain ⟨a, b, ea, eb, rfl⟩ := key
      have ea : f_X5_lonely (XA 1) x1 = some a := ea
      rw [ea, eb]
      exact ⟨_, _, rfl, rfl, rfl, h0⟩
    · intro k hk
      obtain ⟨b, e1, e2⟩ := lonely1 hC.1 hk
      rw [e1]
      cases b <;> rfl
    · intro k hk
      obtain ⟨b, e1, e2⟩ := lonely1 hC.1 hk
      rw [e1, e2]
      cases b <;> rfl
    · intro F a b i
      rw [f_X5_lonely_9]
      unfold fLX
      by_cases c : (144 : Int32) ≤ i
      · rw [if_pos c, if_pos c]
      · rw [if_neg c, if_neg c]
        cases f_X0_isTaken (XA 1) i with
        | none => rw [bn, bn, bn]
        | some z =>
          rw [bs, bs]
          by_cases d : z = 0
          · rw [if_pos d, if_pos d, bs, if_pos rfl]
          · rw [if_neg d, if_neg d]
    · intro F a b i
      rw [f_X12_strangers_21]
      unfold fLM fLG f_X12_strangers_60
      by_cases c : i < 0
      · rw [if_pos c, if_pos c]
      · rw [if_neg c, if_neg c]
        cases f_X12_isTaken (MA 0) i with
        | none => rw [bn, bn, bn]
        | some z =>
          rw [bs, bs]
          by_cases d : z = 0
          · rw [if_pos d, if_pos d, bs, if_pos rfl]
          · rw [if_neg d, if_neg d]
            cases f_X12_isBeside (MA 0) i (-1) 0 with
            | none => rw [bn, bn, bn]
            | some z1 =>
              rw [bs, bs]
              have G : ∀ (y : Option Int32) (y' : Option Int32), (y.bind fun z65 => if z65 = 0 then y'.bind fun z76 => if z76 = 0 then f_X12_strangers_21 (MA 0) F x1 (a + 1) i (i + -1) else f_X12_strangers_21 (MA 0) F x1 a b (i + -1) else f_X12_strangers_21 (MA 0) F x1 a b (i + -1)) = ((y.bind fun z65 => if z65 = 0 then y'.bind fun z76 => if z76 = 0 then some (1 : Int32) else some 0 else some 0).bind fun z => if z = 0 then f_X12_strangers_21 (MA 0) F x1 a b (i + -1) else f_X12_strangers_21 (MA 0) F x1 (a + 1) i (i + -1)) := by
                intro y y'
                cases y with
                | none => rw [bn, bn, bn]
                | some v =>
                  rw [bs, bs]
                  by_cases e : v = 0
                  · rw [if_pos e, if_pos e]
                    cases y' with
                    | none => rw [bn, bn, bn]
                    | some u =>
                      rw [bs, bs]
                      by_cases e2 : u = 0
                      · rw [if_pos e2, if_pos e2, bs, if_neg i10]
                      · rw [if_neg e2, if_neg e2, bs, if_pos rfl]
                  · rw [if_neg e, if_neg e, bs, if_pos rfl]
              by_cases e : z1 = 0
              · rw [if_pos e, if_pos e]
                cases f_X12_isBeside (MA 0) i 1 0 with
                | none => rw [bn, bn, bn]
                | some z2 =>
                  rw [bs, bs]
                  by_cases e2 : z2 = 0
                  · rw [if_pos e2, if_pos e2, bs, if_pos rfl]
                  · rw [if_neg e2, if_neg e2]
                    exact G _ _
              · rw [if_neg e, if_neg e]
                exact G _ _
