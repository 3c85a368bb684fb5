/-! singers -/
def pre (c : Nat → Nat) : Nat → Nat
  | 0 => 0
  | n + 1 => pre c n + c n
def bump (c : Nat → Nat) (r : Nat) : Nat → Nat := fun k => if k = r then c k + 1 else c k
theorem pre_bump (c : Nat → Nat) (r : Nat) : ∀ n, pre (bump c r) n = pre c n + (if r < n then 1 else 0)
  | 0 => by rw [if_neg (by omega)]; rfl
  | n + 1 => by
    show pre (bump c r) n + bump c r n = pre c n + c n + _
    rw [pre_bump c r n]
    unfold bump
    by_cases h : n = r
    · rw [if_pos h, if_neg (by omega), if_pos (by omega)]; omega
    · rw [if_neg h]
      by_cases h2 : r < n
      · rw [if_pos h2, if_pos (by omega)]; omega
      · rw [if_neg h2, if_neg (by omega)]; omega
theorem pre_mono (c : Nat → Nat) {a : Nat} : ∀ {b : Nat}, a ≤ b → pre c a ≤ pre c b
  | 0, h => by rw [show a = 0 by omega]; exact Nat.le_refl _
  | b + 1, h => by
    rcases Nat.lt_or_ge b a with q | q
    · rw [show a = b + 1 by omega]; exact Nat.le_refl _
    · exact Nat.le_trans (pre_mono c q) (Nat.le_add_right _ _)
def Cn (s t : Int32 × (Nat → Int32)) (i : Nat) : Prop := ∃ c : Nat → Nat, (∀ k : Nat, k < 8 → s.2 k = nI (c k) ∧ t.2 k = nI (c k)) ∧ s.1 = nI (pre c 8) ∧ t.1 = nI (pre c 8) ∧ pre c 8 ≤ i
theorem fillS {gu now : Nat → Int32} (h : Al gu now) (x1 : Int32) (a b : Nat → Int32) (K : Int32 × (Nat → Int32) → Option (Int32 × (Nat → Int32)))
    (hK : ∀ s t : Int32 × (Nat → Int32), Cn s t 144 → T2 (K s) (if x1 = 0 then some t else if t.1 = 0 then some (-2, t.2) else ix 8 0 (f_X12_singers_127 now FU x1 t.1 0 (t.2 0) t.2)) (fun x y => x.1 = y.1)) :
    T2 ((f_X5_fillSingersByRow a gu).bind K) (f_X12_singers_15 now FU x1 0 0 b) (fun x y => x.1 = y.1) := by
  unfold f_X5_fillSingersByRow f_J7_fill_53178
  rw [show f_J7_fill_53178_5 8 FU 0 0 (Int32.ofNat 8) a = _ from fill_loop 8 (by decide) 0 8 0 FU (by omega) (by unfold FU; omega) a, bs]
  refine loop1 8 (fun i (b' : Nat → Int32) => ∀ k : Nat, k < i → b' k = 0) (fun F i b' => f_X12_singers_15 now F x1 0 (nI i) b') (fun o => T2 _ o (fun (x y : Int32 × (Nat → Int32)) => x.1 = y.1)) ?_ ?_ 8 0 b FU (by omega) (by unfold FU; omega) (fun k hk => by omega)
  · intro F b' hb
    show T2 _ (f_X12_singers_15 now (F + 1) x1 0 (nI 8) b') _
    rw [f_X12_singers_15, if_pos (show (8 : Int32) ≤ nI 8 by decide)]
    have key := loop2 (ρ := Int32 × (Nat → Int32)) (ρ' := Int32 × (Nat → Int32)) 144 (fun i s t => Cn s t i) (fun F i s => (f_X5_fillSingersByRow_12 gu F s.1 (nI i) s.2).bind K) (fun F i t => f_X12_singers_36 now F x1 t.1 (nI i) t.2) (fun x y => x.1 = y.1) ?_ ?_ 144 0 (0, fun k => if 0 ≤ k ∧ k < 8 then 0 else a k) (0, b') FU FU (by omega) (by unfold FU; omega) (by unfold FU; omega) ⟨fun _ => 0, fun k hk => ⟨by show (if 0 ≤ k ∧ k < 8 then (0 : Int32) else a k) = _; rw [if_pos (by omega)]; rfl, hb k hk⟩, rfl, rfl, Nat.le_refl _⟩
    · exact key
    · intro F F' s t hI
      show T2 ((f_X5_fillSingersByRow_12 gu (F + 1) s.1 (nI 144) s.2).bind K) (f_X12_singers_36 now (F' + 1) x1 t.1 (nI 144) t.2) _
      rw [f_X5_fillSingersByRow_12, f_X12_singers_36, if_pos (show (144 : Int32) ≤ nI 144 by decide), if_pos (show (144 : Int32) ≤ nI 144 by decide), bs]
      exact hK s t hI
    · intro F F' i s t hi hI ih
      show T2 ((f_X5_fillSingersByRow_12 gu (F + 1) s.1 (nI i) s.2).bind K) (f_X12_singers_36 now (F' + 1) x1 t.1 (nI i) t.2) _
      have q := h i hi
      obtain ⟨c, hc, hs, ht, hm⟩ := hI
      rw [f_X5_fillSingersByRow_12, f_X12_singers_36, if_neg (show ¬ (144 : Int32) ≤ nI i from nI_ge (b := 144) (by omega) (by decide)), if_neg (show ¬ (144 : Int32) ≤ nI i from nI_ge (b := 144) (by omega) (by decide)), xT gu hi, mT now hi, bs, bs, nI_1]
      by_cases d : gu i = -1
      · rw [if_pos d, if_pos (q.iff.mp d), if_pos rfl, if_pos rfl]
        exact ih s t ⟨c, hc, hs, ht, by omega⟩
      · have d' : ¬ now i = -1 := fun z => d (q.iff.mpr z)
        obtain ⟨_, _, _, _, c5, _, _, _, _, hc5, ⟨_, _, _, _, a5⟩, ⟨_, _, _, _, b5⟩, _⟩ := q.ex d
        rw [if_neg d, if_neg d', if_neg i10, if_neg i10, xG gu hi, bs, a5, bs, Int32.zero_add, ixn (by omega) (by decide), nI_clamp (by omega), b5, bs]
        have e1 : jrem (nI i / 9) 8 = nI (i / 9 % 8) := by rw [show nI i / 9 = nI (i / 9) from dv_eq (by omega) (by decide) (by decide)]; exact rm_eq (by omega) (by decide) (by decide)
        have e2 : jrem (nI i) 72 / 9 = nI (i / 9 % 8) := by rw [show jrem (nI i) 72 = nI (i % 72) from rm_eq (by omega) (by decide) (by decide), show nI (i % 72) / 9 = nI (i % 72 / 9) from dv_eq (by omega) (by decide) (by decide), show i % 72 / 9 = i / 9 % 8 by omega]
        rw [e1, e2, ixn (by omega) (by decide), ixn (by omega) (by decide), ixn (by omega) (by decide), ixn (by omega) (by decide), nI_clamp (by omega)]
        have hr : i / 9 % 8 < 8 := by omega
        generalize i / 9 % 8 = r at hr
        by_cases z : c5 = 1
        · rw [z, if_pos (show nI 1 = 1 from rfl), if_neg (show ¬ nI 1 = 0 by decide)]
          refine ih (s.1 + 1, _) (t.1 + 1, _) ⟨bump c r, ?_, ?_, ?_, ?_⟩
          · intro k hk
            show upd s.2 r (s.2 r + 1) k = nI (bump c r k) ∧ upd t.2 r (t.2 r + 1) k = nI (bump c r k)
            unfold bump
            by_cases e : k = r
            · rw [e, upd_s, upd_s, if_pos rfl, (hc r hr).1, (hc r hr).2]; exact ⟨nI_1 _, nI_1 _⟩
            · rw [upd_n e, upd_n e, if_neg e]; exact hc k hk
          · show s.1 + 1 = _; rw [pre_bump, if_pos hr, hs]; exact nI_1 _
          · show t.1 + 1 = _; rw [pre_bump, if_pos hr, ht]; exact nI_1 _
          · rw [pre_bump, if_pos hr]; omega
        · have : c5 = 0 := by omega
          rw [this, if_neg (show ¬ nI 0 = 1 by decide), if_pos (show nI 0 = 0 from rfl)]
          exact ih s t ⟨c, hc, hs, ht, by omega⟩
  · intro F i b' hi hb ih
    show T2 _ (f_X12_singers_15 now (F + 1) x1 0 (nI i) b') _
    rw [f_X12_singers_15, if_neg (show ¬ (8 : Int32) ≤ nI i from nI_ge (b := 8) (by omega) (by decide)), ixn (by omega) (by decide), nI_clamp (by omega), nI_1]
    refine ih _ (fun k hk => ?_)
    by_cases e : k = i
    · rw [e, upd_s]
    · rw [upd_n e]; exact hb k (by omega)
theorem midS {s t : Nat → Int32} {c : Nat → Nat} (hc : ∀ k : Nat, k < 8 → s k = nI (c k) ∧ t k = nI (c k)) (hm : pre c 8 ≤ 144) (h0 : 0 < pre c 8) (now : Nat → Int32) (x1 : Int32) :
    ∃ r : Nat, r < 8 ∧ f_X5_middleRow s (nI (pre c 8)) = some (nI r) ∧ f_X12_singers_127 now FU x1 (nI (pre c 8)) 0 (t 0) t = if x1 = 1 then some (nI r, t) else f_X12_singers_168 now FU (nI r) 0 0 t := by
  have h2 : (nI (pre c 8) + 1) / 2 = nI ((pre c 8 + 1) / 2) := by rw [nI_1]; exact dv_eq (by omega) (by decide) (by decide)
  have key : ∀ (n r F F' : Nat), r + n = 7 → n < F → n < F' → ∃ r' : Nat, r' < 8 ∧ f_X5_middleRow_4 s F (nI (pre c 8)) (nI (pre c r)) (nI r) = some (nI r') ∧ f_X12_singers_127 now F' x1 (nI (pre c 8)) (nI r) (nI (pre c (r + 1))) t = if x1 = 1 then some (nI r', t) else f_X12_singers_168 now FU (nI r') 0 0 t := by
    intro n
    induction n with
    | zero =>
      intro r F F' hr hF hF'
      obtain ⟨F, rfl⟩ : ∃ G, F = G + 1 := ⟨F - 1, by omega⟩
      obtain ⟨F', rfl⟩ : ∃ G, F' = G + 1 := ⟨F' - 1, by omega⟩
      obtain rfl : r = 7 := by omega
      refine ⟨7, by omega, ?_, ?_⟩
      · rw [f_X5_middleRow_4, if_neg (by decide), ixn (by decide) (by decide), nI_clamp (by decide), (hc 7 (by omega)).1, la, show pre c 7 + c 7 = pre c 8 from rfl, show 2 * nI (pre c 8) = nI (2 * pre c 8) from lm 2 _, if_neg (nI_nlt (by omega) (by omega))]
      · rw [f_X12_singers_127, h2, show (7 + 1 : Nat) = 8 from rfl, if_pos (nI_le (by omega) (by omega))]
    | succ n ih =>
      intro r F F' hr hF hF'
      obtain ⟨F, rfl⟩ : ∃ G, F = G + 1 := ⟨F - 1, by omega⟩
      obtain ⟨F', rfl⟩ : ∃ G, F' = G + 1 := ⟨F' - 1, by omega⟩
      have hp : pre c (r + 1) ≤ 144 := Nat.le_trans (pre_mono c (show r + 1 ≤ 8 by omega)) hm
      rw [f_X5_middleRow_4, if_neg (show ¬ (8 : Int32) ≤ nI r from nI_ge (b := 8) (by omega) (by decide)), ixn (by omega) (by decide), nI_clamp (by omega), (hc r (by omega)).1, la, show pre c r + c r = pre c (r + 1) from rfl, show 2 * nI (pre c (r + 1)) = nI (2 * pre c (r + 1)) from lm 2 _, f_X12_singers_127, h2]
      by_cases g : 2 * pre c (r + 1) < pre c 8
      · rw [if_pos (nI_lt g (by omega)), if_neg (nI_ge (by omega) (by omega)), nI_1, ixn (by omega) (by decide), nI_clamp (by omega), (hc (r + 1) (by omega)).2, la]
        exact ih (r + 1) F F' (by omega) (by omega) (by omega)
      · rw [if_neg (nI_nlt (by omega) (by omega)), if_pos (nI_le (by omega) (by omega))]
        exact ⟨r, by omega, rfl, rfl⟩
  have := key 7 0 FU FU (by omega) (by unfold FU; omega) (by unfold FU; omega)
  rw [show nI (pre c (0 + 1)) = t 0 by rw [(hc 0 (by omega)).2]; show nI (0 + c 0) = _; rw [Nat.zero_add]] at this
  exact this
theorem farS {s t : Nat → Int32} {c : Nat → Nat} (hc : ∀ k : Nat, k < 8 → s k = nI (c k) ∧ t k = nI (c k)) (gu now : Nat → Int32) (r : Int32) : T2 (f_X5_choir_46 gu FU r 0 0 s) (f_X12_singers_168 now FU r 0 0 t) (fun x y => x.1 = y.1) := by
  refine loop2 8 (fun i (x y : Int32) => x = y) (fun F i x => f_X5_choir_46 gu F r x (nI i) s) (fun F i y => f_X12_singers_168 now F r y (nI i) t) (fun x y => x.1 = y.1) ?_ ?_ 8 0 0 0 FU FU (by omega) (by unfold FU; omega) (by unfold FU; omega) rfl
  · intro F F' x y e
    show T2 (f_X5_choir_46 gu (F + 1) r x (nI 8) s) (f_X12_singers_168 now (F' + 1) r y (nI 8) t) _
    rw [f_X5_choir_46, f_X12_singers_168, if_pos (by decide), if_pos (by decide)]
    exact T2.ret e
  · intro F F' i x y hi e ih
    show T2 (f_X5_choir_46 gu (F + 1) r x (nI i) s) (f_X12_singers_168 now (F' + 1) r y (nI i) t) _
    have sz : f_X12_size (nI i - r) = some (if 0 ≤ nI i - r then nI i - r else 0 - (nI i - r)) := by
      unfold f_X12_size
      by_cases q : 0 ≤ nI i - r
      · rw [if_pos q, if_pos q]
      · rw [if_neg q, if_neg q, Int32.zero_sub]
    rw [f_X5_choir_46, f_X12_singers_168, if_neg (show ¬ (8 : Int32) ≤ nI i from nI_ge (b := 8) (by omega) (by decide)), if_neg (show ¬ (8 : Int32) ≤ nI i from nI_ge (b := 8) (by omega) (by decide)), sz, bs, ixn (by omega) (by decide), ixn (by omega) (by decide), nI_clamp (by omega), (hc i hi).1, (hc i hi).2, nI_1, e, Int32.mul_comm (nI (c i))]
    exact ih _ _ rfl
theorem pm_singers {XA : Nat → Nat → Int32} {XI : Nat → Int32} {MA : Nat → Nat → Int32} {MI : Nat → Int32} (h : Inv XA XI MA MI) (x1 : Int32) : ∃ (rX : Int32 × (Nat → Int32)) (rM : Int32 × (Nat → Int32)), f_X11_singers (XA 1) (XA 14) x1 = some rX ∧ f_X12_singers (MA 0) (MA 20) x1 = some rM ∧ rX.1 = rM.1 ∧ Inv (va_up XA 14 rX.2) XI (va_up MA 20 rM.2) MI := by
  have h0 := h
  obtain ⟨hT, hC, hk, hkk, hL⟩ := h
  suffices q : T2 (f_X11_singers (XA 1) (XA 14) x1) (f_X12_singers (MA 0) (MA 20) x1) (fun x y => x.1 = y.1) by
    obtain ⟨rX, rM, q1, q2, q3⟩ := q
    exact ⟨rX, rM, q1, q2, q3, hT, hC, hk, hkk, hL⟩
  unfold f_X11_singers f_X12_singers
  rw [same_in]
  rcases wi01 x1 0 2 with e | e
  · rw [e]; exact T2.ret rfl
  · rw [e, bs, bs, if_neg i10, if_neg i10]
    unfold f_X5_choir
    rw [show ∀ (o : Option (Int32 × (Nat → Int32))), o.bind (fun z20 => some (z20.1, z20.2)) = o from fun o => by cases o <;> rfl]
    refine fillS hC.1 x1 (XA 14) (MA 20) _ ?_
    rintro ⟨s1, s⟩ ⟨t1, t⟩ ⟨c, hc, hs, ht, hm⟩
    simp only at hs ht hc
    show T2 (if x1 = 0 then f_X5_choir_14 (XA 1) x1 s1 s else if s1 = 0 then f_X5_choir_14 (XA 1) x1 s1 s else (f_X5_middleRow s s1).bind (fun z27 => if x1 = 1 then some (z27, s) else f_X5_choir_46 (XA 1) FU z27 0 0 s)) (if x1 = 0 then some (t1, t) else if t1 = 0 then some (-2, t) else ix 8 0 (f_X12_singers_127 (MA 0) FU x1 t1 0 (t 0) t)) _
    unfold f_X5_choir_14
    by_cases z : x1 = 0
    · rw [if_pos z, if_pos z, if_pos z]; exact T2.ret (by show s1 = t1; rw [hs, ht])
    · rw [if_neg z, if_neg z, if_neg z, hs, ht]
      by_cases z2 : pre c 8 = 0
      · rw [z2, if_pos (show nI 0 = 0 from rfl), if_pos (show nI 0 = 0 from rfl)]; exact T2.ret rfl
      · rw [if_neg (nI_ne0 (by omega) (by omega)), if_neg (nI_ne0 (by omega) (by omega))]
        obtain ⟨r, hr, m1, m2⟩ := midS hc hm (by omega) (MA 0) x1
        rw [m1, bs, show ix 8 0 (f_X12_singers_127 (MA 0) FU x1 (nI (pre c 8)) 0 (t 0) t) = _ from ixn (j := 0) (by decide) (by decide), m2]
        by_cases z3 : x1 = 1
        · rw [if_pos z3, if_pos z3]; exact T2.ret rfl
        · rw [if_neg z3, if_neg z3]
          exact farS hc (XA 1) (MA 0) (nI r)
