/-! counting loops with a number that grows -/
theorem cloop {ρ : Type} (L : Nat → Nat → Nat → Option ρ) (out : Nat → Option ρ) (p : Nat → Bool) (lo N : Nat) (hx : ∀ F m, L (F + 1) N m = out m) (hs : ∀ F i m, lo ≤ i → i < N → L (F + 1) i m = L F (i + 1) (if p i then m + 1 else m)) : ∀ n i m F, i + n = N → lo ≤ i → n < F → L F i m = out (m + ct p i n) := by
  intro n
  induction n with
  | zero =>
    intro i m F h1 h2 h3
    obtain ⟨F, rfl⟩ : ∃ G, F = G + 1 := ⟨F - 1, by omega⟩
    obtain rfl : i = N := by omega
    rw [hx]
    rfl
  | succ n ih =>
    intro i m F h1 h2 h3
    obtain ⟨F, rfl⟩ : ∃ G, F = G + 1 := ⟨F - 1, by omega⟩
    rw [hs F i m h2 (by omega), ih (i + 1) _ F (by omega) (by omega) (by omega), ct_front]
    by_cases c : p i = true
    · rw [if_pos c, if_pos c, Nat.add_assoc]
    · rw [if_neg c, if_neg c, Nat.zero_add]
def sm (f : Nat → Nat) : Nat → Nat
  | 0 => 0
  | n + 1 => sm f n + f n
theorem sm_cong {f g : Nat → Nat} : ∀ {n : Nat}, (∀ i : Nat, i < n → f i = g i) → sm f n = sm g n
  | 0, _ => rfl
  | n + 1, h => by
    show sm f n + f n = sm g n + g n
    rw [sm_cong (fun i hi => h i (by omega)), h n (by omega)]
theorem sm_add (f g : Nat → Nat) : ∀ n, sm (fun i => f i + g i) n = sm f n + sm g n
  | 0 => rfl
  | n + 1 => by
    show sm (fun i => f i + g i) n + (f n + g n) = sm f n + f n + (sm g n + g n)
    rw [sm_add f g n]
    omega
theorem sm_ct (p : Nat → Bool) : ∀ n, sm (fun i => if p i then 1 else 0) n = ct p 0 n
  | 0 => rfl
  | n + 1 => by
    show sm (fun i => if p i then 1 else 0) n + (if p n then 1 else 0) = ct p 0 n + (if p (0 + n) then 1 else 0)
    rw [sm_ct p n, Nat.zero_add]
/-- pairs, counted by the later one or by the earlier one -/
theorem pairs (f : Nat → Nat → Bool) : ∀ N, sm (fun p => ct (fun q => f q p) 0 p) N = sm (fun a => ct (f a) (a + 1) (N - a - 1)) N
  | 0 => rfl
  | N + 1 => by
    show sm (fun p => ct (fun q => f q p) 0 p) N + ct (fun q => f q N) 0 N = sm (fun a => ct (f a) (a + 1) (N + 1 - a - 1)) N + ct (f N) (N + 1) (N + 1 - N - 1)
    rw [pairs f N, show N + 1 - N - 1 = 0 by omega]
    show _ = _ + 0
    rw [Nat.add_zero, ← sm_ct, ← sm_add]
    refine sm_cong (fun i hi => ?_)
    show ct (f i) (i + 1) (N - i - 1) + (if f i N then 1 else 0) = ct (f i) (i + 1) (N + 1 - i - 1)
    rw [show N + 1 - i - 1 = (N - i - 1) + 1 by omega]
    show _ = ct (f i) (i + 1) (N - i - 1) + (if f i (i + 1 + (N - i - 1)) then 1 else 0)
    rw [show i + 1 + (N - i - 1) = N by omega]
/-- seats q, p of a pew: both taken, and the one that matters came first -/
def prF (now : Nat → Int32) (P : Nat) (c : Bool) (q p : Nat) : Bool := tk now (9 * P + q) && tk now (9 * P + p) && (!c || decide (now (144 + (9 * P + q)) < now (144 + (9 * P + p))))
theorem ct_le_all (p : Nat → Bool) (a n : Nat) : ct p a n ≤ n := ct_le p a n
theorem tk_false {g : Nat → Int32} {k : Nat} (h : g k = -1) : tk g k = false := by unfold tk; simp [h]
theorem tk_true {g : Nat → Int32} {k : Nat} (h : ¬ g k = -1) : tk g k = true := tk_t.mpr h
theorem ordX {gu nu now : Nat → Int32} (h : Al gu now) (hn : ∀ k : Nat, k < 144 → nu k = now (144 + k)) {P : Nat} (hP : P < 16) (c : Bool) : f_X5_climbsAnew gu nu (nI P) (if c then 1 else 0) = some (nI (sm (fun p => ct (fun q => prF now P c q p) 0 p) 9)) := by
  unfold f_X5_climbsAnew
  have key := loop1 9 (fun i (s : Nat) => s = sm (fun p => ct (fun q => prF now P c q p) 0 p) i) (fun F i s => f_X5_climbsAnew_6 gu nu F (nI P) (if c then 1 else 0) (nI s) (nI i)) (fun o => o = some (nI (sm (fun p => ct (fun q => prF now P c q p) 0 p) 9))) ?_ ?_ 9 0 0 FU (by omega) (by unfold FU; omega) rfl
  · exact key
  · intro F s hI
    show f_X5_climbsAnew_6 gu nu (F + 1) (nI P) (if c then 1 else 0) (nI s) (nI 9) = _
    rw [f_X5_climbsAnew_6, if_pos (show (9 : Int32) ≤ nI 9 from nI_le (Nat.le_refl _) (by decide)), hI]
  · intro F i s hi hI ih
    show f_X5_climbsAnew_6 gu nu (F + 1) (nI P) (if c then 1 else 0) (nI s) (nI i) = _
    rw [f_X5_climbsAnew_6, if_neg (show ¬ (9 : Int32) ≤ nI i from nI_ge (b := 9) (by omega) (by decide))]
    have inn := cloop (fun F j m => f_X5_climbsAnew_16 gu nu (f_X5_climbsAnew_6 gu nu F) F (nI P) (if c then 1 else 0) (nI m) (nI i) (nI j)) (fun m => none (α := Int32)) (fun q => prF now P c q i) 0 i
    clear inn
    have inn := cloop (fun G j m => f_X5_climbsAnew_16 gu nu (f_X5_climbsAnew_6 gu nu F) G (nI P) (if c then 1 else 0) (nI m) (nI i) (nI j)) (fun m => f_X5_climbsAnew_6 gu nu F (nI P) (if c then 1 else 0) (nI m) (nI (i + 1))) (fun q => prF now P c q i) 0 i ?_ ?_ i 0 s FU (by omega) (by omega) (by unfold FU; omega)
    · refine Eq.trans inn (ih _ ?_)
      rw [hI]
      rfl
    · intro G m
      show f_X5_climbsAnew_16 gu nu (f_X5_climbsAnew_6 gu nu F) (G + 1) (nI P) (if c then 1 else 0) (nI m) (nI i) (nI i) = _
      rw [f_X5_climbsAnew_16, if_pos (nI_le (Nat.le_refl i) (by omega)), nI_1]
    · intro G j m _ hj
      show f_X5_climbsAnew_16 gu nu (f_X5_climbsAnew_6 gu nu F) (G + 1) (nI P) (if c then 1 else 0) (nI m) (nI i) (nI j) = f_X5_climbsAnew_16 gu nu (f_X5_climbsAnew_6 gu nu F) G (nI P) (if c then 1 else 0) (nI (if prF now P c j i then m + 1 else m)) (nI i) (nI (j + 1))
      rw [f_X5_climbsAnew_16, if_neg (nI_ge hj (by omega)), m9, m9, xT gu (by omega), xT gu (by omega), bs, nI_1, nI_1]
      have qi := h (9 * P + i) (by omega)
      have qj := h (9 * P + j) (by omega)
      unfold prF
      by_cases d : gu (9 * P + i) = -1
      · rw [if_pos d, if_pos rfl, tk_false (qi.iff.mp d)]; simp
      · rw [if_neg d, if_neg i10, bs, tk_true (fun z => d (qi.iff.mpr z))]
        by_cases e : gu (9 * P + j) = -1
        · rw [if_pos e, if_pos rfl, tk_false (qj.iff.mp e)]; simp
        · rw [if_neg e, if_neg i10, tk_true (fun z => e (qj.iff.mpr z))]
          cases c with
          | false => rw [show (if false = true then (1 : Int32) else 0) = 0 from rfl, if_pos rfl]; simp
          | true =>
            rw [show (if true = true then (1 : Int32) else 0) = 1 from rfl, if_neg i10, ixn (by omega) (by decide), ixn (by omega) (by decide), nI_clamp (by omega), nI_clamp (by omega), hn _ (by omega), hn _ (by omega)]
            by_cases z : now (144 + (9 * P + i)) ≤ now (144 + (9 * P + j))
            · rw [if_pos z]; simp [Int32.not_lt.mpr z]
            · rw [if_neg z]; simp [Int32.not_le.mp z]
theorem ordM {now : Nat → Int32} {P : Nat} (hP : P < 16) (c : Bool) (w : Int32) (hw : (c = true ∧ w = 2) ∨ (c = false ∧ w = 1)) : f_X12_order_37 now FU w (nI (9 * P)) 0 (nI (9 * P)) = some (nI (sm (fun a => ct (prF now P c a) (a + 1) (9 - a - 1)) 9)) := by
  have e9 : nI (9 * P) + 9 = nI (9 * P + 9) := la _ 9
  have key := loop1 9 (fun i (s : Nat) => s = sm (fun a => ct (prF now P c a) (a + 1) (9 - a - 1)) i) (fun F i s => f_X12_order_37 now F w (nI (9 * P)) (nI s) (nI (9 * P + i))) (fun o => o = some (nI (sm (fun a => ct (prF now P c a) (a + 1) (9 - a - 1)) 9))) ?_ ?_ 9 0 0 FU (by omega) (by unfold FU; omega) rfl
  · exact key
  · intro F s hI
    show f_X12_order_37 now (F + 1) w (nI (9 * P)) (nI s) (nI (9 * P + 9)) = _
    rw [f_X12_order_37, e9, if_pos (nI_le (Nat.le_refl _) (by omega)), hI]
  · intro F i s hi hI ih
    show f_X12_order_37 now (F + 1) w (nI (9 * P)) (nI s) (nI (9 * P + i)) = _
    rw [f_X12_order_37, e9, if_neg (nI_ge (by omega) (by omega)), nI_1]
    have inn := cloop (fun G j m => f_X12_order_53 now (f_X12_order_37 now F) G w (nI (9 * P)) (nI m) (nI (9 * P + i)) (nI (9 * P + j))) (fun m => f_X12_order_37 now F w (nI (9 * P)) (nI m) (nI (9 * P + i + 1))) (prF now P c i) (i + 1) 9 ?_ ?_ (9 - i - 1) (i + 1) s FU (by omega) (by omega) (by unfold FU; omega)
    · refine Eq.trans inn (ih _ ?_)
      rw [hI]
      rfl
    · intro G m
      show f_X12_order_53 now (f_X12_order_37 now F) (G + 1) w (nI (9 * P)) (nI m) (nI (9 * P + i)) (nI (9 * P + 9)) = _
      rw [f_X12_order_53, e9, if_pos (nI_le (Nat.le_refl _) (by omega)), nI_1]
    · intro G j m _ hj
      show f_X12_order_53 now (f_X12_order_37 now F) (G + 1) w (nI (9 * P)) (nI m) (nI (9 * P + i)) (nI (9 * P + j)) = f_X12_order_53 now (f_X12_order_37 now F) G w (nI (9 * P)) (nI (if prF now P c i j then m + 1 else m)) (nI (9 * P + i)) (nI (9 * P + (j + 1)))
      rw [f_X12_order_53, e9, if_neg (nI_ge (by omega) (by omega)), mT now (by omega), mT now (by omega), bs, nI_1]
      unfold f_X12_order_119 prF
      rw [nI_1, nI_1]
      by_cases d : now (9 * P + i) = -1
      · rw [if_pos d, if_pos rfl, tk_false d]; simp; rfl
      · rw [if_neg d, if_neg i10, bs, tk_true d]
        by_cases e : now (9 * P + j) = -1
        · rw [if_pos e, if_pos rfl, tk_false e]; simp; rfl
        · rw [if_neg e, if_neg i10, tk_true e]
          rcases hw with ⟨rfl, rfl⟩ | ⟨rfl, rfl⟩
          · rw [if_neg (by decide), if_pos rfl, show (144 : Int32) + nI (9 * P + i) = nI (144 + (9 * P + i)) from la 144 _, show (144 : Int32) + nI (9 * P + j) = nI (144 + (9 * P + j)) from la 144 _, ixn (by omega) (by decide), ixn (by omega) (by decide), nI_clamp (by omega), nI_clamp (by omega)]
            by_cases z : now (144 + (9 * P + j)) ≤ now (144 + (9 * P + i))
            · rw [if_pos z]; simp [Int32.not_lt.mpr z]; rfl
            · rw [if_neg z]; simp [Int32.not_le.mp z]; rfl
          · rw [if_pos rfl]; simp; rfl
theorem ord0 {now : Nat → Int32} {P : Nat} (hP : P < 16) : f_X12_order_37 now FU 0 (nI (9 * P)) 0 (nI (9 * P)) = some 0 := by
  have e9 : nI (9 * P) + 9 = nI (9 * P + 9) := la _ 9
  have key := loop1 9 (fun i (s : Unit) => True) (fun F i _ => f_X12_order_37 now F 0 (nI (9 * P)) 0 (nI (9 * P + i))) (fun o => o = some 0) ?_ ?_ 9 0 () FU (by omega) (by unfold FU; omega) trivial
  · exact key
  · intro F s hI
    show f_X12_order_37 now (F + 1) 0 (nI (9 * P)) 0 (nI (9 * P + 9)) = _
    rw [f_X12_order_37, e9, if_pos (nI_le (Nat.le_refl _) (by omega))]
  · intro F i s hi hI ih
    show f_X12_order_37 now (F + 1) 0 (nI (9 * P)) 0 (nI (9 * P + i)) = _
    rw [f_X12_order_37, e9, if_neg (nI_ge (by omega) (by omega)), nI_1]
    have inn := cloop (fun G j m => f_X12_order_53 now (f_X12_order_37 now F) G 0 (nI (9 * P)) 0 (nI (9 * P + i)) (nI (9 * P + j))) (fun m => f_X12_order_37 now F 0 (nI (9 * P)) 0 (nI (9 * P + i + 1))) (fun _ => false) (i + 1) 9 ?_ ?_ (9 - i - 1) (i + 1) 0 FU (by omega) (by omega) (by unfold FU; omega)
    · exact Eq.trans inn (ih () trivial)
    · intro G m
      show f_X12_order_53 now (f_X12_order_37 now F) (G + 1) 0 (nI (9 * P)) 0 (nI (9 * P + i)) (nI (9 * P + 9)) = _
      rw [f_X12_order_53, e9, if_pos (nI_le (Nat.le_refl _) (by omega)), nI_1]
    · intro G j m _ hj
      show f_X12_order_53 now (f_X12_order_37 now F) (G + 1) 0 (nI (9 * P)) 0 (nI (9 * P + i)) (nI (9 * P + j)) = f_X12_order_53 now (f_X12_order_37 now F) G 0 (nI (9 * P)) 0 (nI (9 * P + i)) (nI (9 * P + (j + 1)))
      rw [f_X12_order_53, e9, if_neg (nI_ge (by omega) (by omega)), mT now (by omega), mT now (by omega), bs, nI_1]
      by_cases d : now (9 * P + i) = -1
      · rw [if_pos d, if_pos rfl]; rfl
      · rw [if_neg d, if_neg i10, bs]
        by_cases e : now (9 * P + j) = -1
        · rw [if_pos e, if_pos rfl]; rfl
        · rw [if_neg e, if_neg i10, if_neg (by decide), if_neg (by decide)]; rfl
theorem isPew_eq (x y : Int32) : f_X12_isPew x y = f_X11_isPew x y := by
  unfold f_X12_isPew f_X11_isPew
  rw [isSide_eq]
  rfl
theorem isPew2 (x y : Int32) : f_X11_isPew x y = some 0 ∨ ∃ s r : Nat, s < 2 ∧ r < 8 ∧ x = nI s ∧ y = nI r ∧ f_X11_isPew x y = some 1 := by
  unfold f_X11_isPew
  rw [isSide_eq]
  rcases wi x 1 (by decide) with ⟨e1, -, -⟩ | ⟨s, hs, rfl, e1, -⟩
  · rw [e1]; exact Or.inl rfl
  · rw [e1, bs, if_neg i10, show (7 : Int32) = nI 7 from rfl]
    rcases wi y 7 (by decide) with ⟨e2, -, -⟩ | ⟨r, hr, rfl, e2, -⟩
    · rw [e2]; exact Or.inl rfl
    · rw [e2]; exact Or.inr ⟨s, r, by omega, by omega, rfl, rfl, rfl⟩
theorem pm_order {XA : Nat → Nat → Int32} {XI : Nat → Int32} {MA : Nat → Nat → Int32} {MI : Nat → Int32} (h : Inv XA XI MA MI) (x1 : Int32) (x2 : Int32) (x3 : Int32) : ∃ (rX : Int32) (rM : Int32), f_X11_order (XA 1) (XA 2) x1 x2 x3 = some rX ∧ f_X12_order (MA 0) x1 x2 x3 = some rM ∧ rX = rM ∧ Inv XA XI MA MI := by
  have h0 := h
  obtain ⟨hT, hC, hk, hkk, hL⟩ := h
  unfold f_X11_order f_X12_order
  rw [isPew_eq]
  rcases isPew2 x1 x2 with e | ⟨s, r, hs, hr, rfl, rfl, e⟩
  · rw [e]; exact ⟨_, _, rfl, rfl, rfl, h0⟩
  · rw [e, bs, bs, if_neg i10, if_neg i10, show (2 : Int32) = nI 2 from rfl, pew_eq, m8', m9'']
    rcases wi x3 2 (by decide) with ⟨d1, d2, -⟩ | ⟨j, hj, rfl, d1, d2⟩
    · rw [d1, d2]; exact ⟨_, _, rfl, rfl, rfl, h0⟩
    · rw [d1, d2]
      simp only [bs, i10, if_false]
      unfold f_X11_order_50
      match j, hj with
      | 0, _ =>
        rw [show nI 0 = (0 : Int32) from rfl, ord0 (by omega), if_pos rfl]
        exact ⟨_, _, rfl, rfl, rfl, h0⟩
      | 1, _ =>
        have a := ordX hC.1 hC.2.1 (show 8 * s + r < 16 by omega) false
        have b := ordM (now := MA 0) (show 8 * s + r < 16 by omega) false 1 (Or.inr ⟨rfl, rfl⟩)
        rw [show nI 1 = (1 : Int32) from rfl, b, if_neg i10, if_neg (by decide), show f_X5_climbsAnew (XA 1) (XA 2) (nI (8 * s + r)) 0 = _ from a, pairs]
        exact ⟨_, _, rfl, rfl, rfl, h0⟩
      | 2, _ =>
        have a := ordX hC.1 hC.2.1 (show 8 * s + r < 16 by omega) true
        have b := ordM (now := MA 0) (show 8 * s + r < 16 by omega) true 2 (Or.inl ⟨rfl, rfl⟩)
        rw [show f_X12_order_37 (MA 0) FU (nI 2) (nI (9 * (8 * s + r))) 0 (nI (9 * (8 * s + r))) = _ from b, if_neg (by decide), if_pos rfl, show f_X5_climbsAnew (XA 1) (XA 2) (nI (8 * s + r)) 1 = _ from a, pairs]
        exact ⟨_, _, rfl, rfl, rfl, h0⟩
