/-! even -/
theorem smk : ∀ k : Nat, k < 32 → ((nI k &&& 31).toBitVec.smod 32).toNat = k := by decide
theorem sl1 {k : Nat} (h : k < 31) : (1 : Int32) <<< (nI k &&& 31) = nI (2 ^ k) := by
  have := pk_shlN (n := 1) (nI k &&& 31) k (smk k (by omega)) (by rw [Nat.one_mul]; exact Nat.pow_lt_pow_right (by decide) (by omega))
  rw [Nat.one_mul] at this
  exact this
theorem sr1 {n k : Nat} (hn : n < 2 ^ 31) (h : k < 32) : nI n >>> (nI k &&& 31) = nI (n / 2 ^ k) := pk_shrN hn _ k (smk k h)
theorem an1 {n k : Nat} (hn : n < 2 ^ 31) (h : k < 31) : nI n &&& nI (2 ^ k - 1) = nI (n % 2 ^ k) := by
  refine pk_andN (by omega) k ?_
  have : 2 ^ k < 2 ^ 31 := Nat.pow_lt_pow_right (by decide) h
  show (BitVec.ofNat 32 (2 ^ k - 1)).toNat = _
  rw [BitVec.toNat_ofNat, Nat.mod_eq_of_lt (by omega)]
theorem tbq (s i : Nat) : s.testBit i = decide (s / 2 ^ i % 2 = 1) := Nat.testBit_eq_decide_div_mod_eq
theorem has1 {s i : Nat} (hs : s < 2 ^ 31) (hi : i < 31) : f_X12_has (nI s) (nI i) = some (if s.testBit i then 1 else 0) := by
  unfold f_X12_has
  have e : nI (s / 2 ^ i) &&& 1 = nI (s / 2 ^ i % 2) := pk_andN (k := 1) (by have := Nat.div_le_self s (2 ^ i); omega) (by decide)
  rw [sr1 hs (by omega), e, tbq]
  have : s / 2 ^ i % 2 < 2 := Nat.mod_lt _ (by decide)
  by_cases c : s / 2 ^ i % 2 = 1
  · rw [c]; rfl
  · rw [show s / 2 ^ i % 2 = 0 by omega]; rfl
theorem and255 (x : Int32) : ∃ c : Nat, c < 256 ∧ x &&& 255 = nI c := pk_andE x 8 (by decide)
def sw (w : Nat → Int32) (s : Nat) : Nat → Int32
  | 0 => 0
  | n + 1 => sw w s n + (if s.testBit n then w n else 0)
theorem sw_cong {w w' : Nat → Int32} {s s' : Nat} : ∀ {n : Nat}, (∀ i : Nat, i < n → s.testBit i = s'.testBit i ∧ w i = w' i) → sw w s n = sw w' s' n
  | 0, _ => rfl
  | n + 1, h => by
    show sw w s n + (if s.testBit n then w n else 0) = sw w' s' n + (if s'.testBit n then w' n else 0)
    rw [sw_cong (fun i hi => h i (by omega)), (h n (by omega)).1, (h n (by omega)).2]
theorem sw_lo (w : Nat → Int32) {t i : Nat} (h : t < 2 ^ i) : sw w t (i + 1) = sw w t i := by
  show sw w t i + (if t.testBit i then w i else 0) = _
  rw [Nat.testBit_lt_two_pow h]
  exact Int32.add_zero _
theorem sw_hi (w : Nat → Int32) {t i : Nat} (h : t < 2 ^ i) : sw w (2 ^ i + t) (i + 1) = sw w t i + w i := by
  show sw w (2 ^ i + t) i + (if (2 ^ i + t).testBit i then w i else 0) = _
  rw [Nat.testBit_two_pow_add_eq, Nat.testBit_lt_two_pow h, sw_cong (s' := t) (w' := w) (fun j hj => ⟨Nat.testBit_two_pow_add_gt hj t, rfl⟩)]
  rfl
theorem sw_cut (w : Nat → Int32) (s l : Nat) : ∀ d : Nat, sw w s (l + d) = sw w (s % 2 ^ l) l + sw (fun i => w (l + i)) (s / 2 ^ l) d
  | 0 => by
    show sw w s l = sw w (s % 2 ^ l) l + 0
    rw [Int32.add_zero]
    exact sw_cong (fun i hi => ⟨by rw [Nat.testBit_mod_two_pow, decide_eq_true hi, Bool.true_and], rfl⟩)
  | d + 1 => by
    show sw w s (l + d) + (if s.testBit (l + d) then w (l + d) else 0) = sw w (s % 2 ^ l) l + (sw (fun i => w (l + i)) (s / 2 ^ l) d + (if (s / 2 ^ l).testBit d then w (l + d) else 0))
    rw [sw_cut w s l d, Nat.testBit_div_two_pow, Int32.add_assoc, Nat.add_comm d l]
theorem sw_0 (w : Nat → Int32) : ∀ n : Nat, sw w 0 n = 0
  | 0 => rfl
  | n + 1 => by
    show sw w 0 n + (if (0 : Nat).testBit n then w n else 0) = 0
    rw [sw_0 w n, Nat.zero_testBit]
    rfl
theorem FS {bt w : Nat → Int32} {L : Int32} {a m : Nat} (hm : m ≤ 6) (ha : a ≤ 200) (hw : ∀ i : Nat, i < m → f_X8_byteAt L bt (nI (a + i)) = some (w i)) (p : Nat → Int32) : ∃ r, f_X7_fillSums L bt p (nI a) (nI m) = some r ∧ ∀ t : Nat, t < 2 ^ m → r t = sw w t m := by
  unfold f_X7_fillSums
  rw [show ∀ o : Option (Nat → Int32), ix 64 0 o = o from fun o => ixn (j := 0) (by decide) (by decide), show (0 : Int32).toNatClampNeg = 0 from rfl]
  refine loop1 m (fun i (p : Nat → Int32) => ∀ t : Nat, t < 2 ^ i → p t = sw w t i) (fun F i p => f_X7_fillSums_7 L bt F (nI a) (nI m) (nI i) p) (fun o => ∃ r, o = some r ∧ ∀ t : Nat, t < 2 ^ m → r t = sw w t m) ?_ ?_ m 0 (upd p 0 0) FU (by omega) (by unfold FU; omega) ?_
  · intro F p hp
    show ∃ r, f_X7_fillSums_7 L bt (F + 1) (nI a) (nI m) (nI m) p = some r ∧ _
    rw [f_X7_fillSums_7, if_pos (nI_le (Nat.le_refl _) (by omega))]
    exact ⟨p, rfl, hp⟩
  · intro F i p hi hp ih
    have h64 : 2 ^ i ≤ 32 := Nat.le_trans (Nat.pow_le_pow_right (by decide) (show i ≤ 5 by omega)) (by decide)
    show ∃ r, f_X7_fillSums_7 L bt (F + 1) (nI a) (nI m) (nI i) p = some r ∧ _
    rw [f_X7_fillSums_7, if_neg (nI_ge (by omega) (by omega)), if_neg (show ¬ (6 : Int32) ≤ nI i from nI_ge (b := 6) (by omega) (by decide)), sl1 (by omega)]
    refine loop1 (2 ^ i) (fun q (p : Nat → Int32) => (∀ t : Nat, t < 2 ^ i → p t = sw w t i) ∧ ∀ t : Nat, t < q → p (2 ^ i + t) = sw w t i + w i) (fun G q p => f_X7_fillSums_29 L bt (f_X7_fillSums_7 L bt F) G (nI a) (nI m) (nI i) (nI (2 ^ i)) (nI q) p) (fun o => ∃ r, o = some r ∧ ∀ t : Nat, t < 2 ^ m → r t = sw w t m) ?_ ?_ (2 ^ i) 0 p FU (by omega) (by unfold FU; omega) ⟨hp, fun t ht => by omega⟩
    · intro G p hp
      show ∃ r, f_X7_fillSums_29 L bt (f_X7_fillSums_7 L bt F) (G + 1) (nI a) (nI m) (nI i) (nI (2 ^ i)) (nI (2 ^ i)) p = some r ∧ _
      rw [f_X7_fillSums_29, if_pos (nI_le (Nat.le_refl _) (by omega)), nI_1]
      refine ih p (fun t ht => ?_)
      rcases Nat.lt_or_ge t (2 ^ i) with q | q
      · rw [sw_lo w q]; exact hp.1 t q
      · obtain ⟨u, rfl⟩ : ∃ u, t = 2 ^ i + u := ⟨t - 2 ^ i, by omega⟩
        have hu : u < 2 ^ i := by rw [Nat.pow_succ] at ht; omega
        rw [sw_hi w hu]
        exact hp.2 u hu
    · intro G q p hq hp ih2
      show ∃ r, f_X7_fillSums_29 L bt (f_X7_fillSums_7 L bt F) (G + 1) (nI a) (nI m) (nI i) (nI (2 ^ i)) (nI q) p = some r ∧ _
      rw [f_X7_fillSums_29, if_neg (nI_ge (by omega) (by omega)), ixn (by omega) (by decide), la, la, hw i hi, bs, ixn (by omega) (by decide), nI_clamp (by omega), nI_clamp (by omega), nI_1]
      refine ih2 _ ⟨fun t ht => ?_, fun t ht => ?_⟩
      · rw [upd_n (by omega)]; exact hp.1 t ht
      · by_cases e : t = q
        · rw [e, upd_s, hp.1 q hq]
        · rw [upd_n (by omega)]; exact hp.2 t (by omega)
  · intro t ht
    rw [show t = 0 by omega, upd_s]
    rfl
def tot (w : Nat → Int32) : Nat → Int32
  | 0 => 0
  | n + 1 => tot w n + w n
theorem SoF {bt w : Nat → Int32} {L : Int32} {n : Nat} (hn : n ≤ 200) (hw : ∀ i : Nat, i < n → f_X8_byteAt L bt (nI i) = some (w i)) : f_X7_sumOfFirst L bt (nI n) = some (tot w n) := by
  unfold f_X7_sumOfFirst
  refine loop1 n (fun i (s : Int32) => s = tot w i) (fun F i s => f_X7_sumOfFirst_4 L bt F (nI n) s (nI i)) (fun o => o = some (tot w n)) ?_ ?_ n 0 0 FU (by omega) (by unfold FU; omega) rfl
  · intro F s hs
    show f_X7_sumOfFirst_4 L bt (F + 1) (nI n) s (nI n) = _
    rw [f_X7_sumOfFirst_4, if_pos (nI_le (Nat.le_refl _) (by omega)), hs]
  · intro F i s hi hs ih
    show f_X7_sumOfFirst_4 L bt (F + 1) (nI n) s (nI i) = _
    rw [f_X7_sumOfFirst_4, if_neg (nI_ge (by omega) (by omega)), hw i hi, bs, nI_1]
    exact ih _ (by rw [hs]; rfl)
def sgn (w : Nat → Int32) (s : Nat) : Nat → Int32 → Int32 := fun i v => if s.testBit i then v + w i else v + -(w i)
theorem sgn_eq (w : Nat → Int32) (s : Nat) (v : Int32) : ∀ n : Nat, fo (sgn w s) n v = v - tot w n + 2 * sw w s n
  | 0 => by
    show v = v - 0 + 2 * 0
    rw [Int32.sub_zero, Int32.mul_zero, Int32.add_zero]
  | n + 1 => by
    show (if s.testBit n then fo (sgn w s) n v + w n else fo (sgn w s) n v + -(w n)) = v - (tot w n + w n) + 2 * (sw w s n + (if s.testBit n then w n else 0))
    rw [sgn_eq w s v n]
    cases s.testBit n
    · show v - tot w n + 2 * sw w s n + -(w n) = v - (tot w n + w n) + 2 * (sw w s n + 0)
      grind
    · show v - tot w n + 2 * sw w s n + w n = v - (tot w n + w n) + 2 * (sw w s n + w n)
      grind
def ab (y : Int32) : Int32 := if 0 ≤ y then y else 0 - y
theorem szb (y : Int32) : f_X12_size y = some (ab y) := by
  unfold f_X12_size ab
  by_cases q : 0 ≤ y
  · rw [if_pos q, if_pos q]
  · rw [if_neg q, if_neg q, Int32.zero_sub]
theorem evM {tape w : Nat → Int32} {n s : Nat} (hn : n ≤ 12) (hs : s < 2 ^ n) (hw : ∀ i : Nat, i < n → f_X12_octet tape (nI i) = some (w i)) (K : Int32 → Int32 → Int32 → Int32 → Int32 → Int32 → Int32 → Int32 → Option (Int32 × Int32)) (x2 x3 x4 x5 x6 : Int32) :
    f_X12_even_84 tape K FU (nI n) x2 x3 x4 x5 x6 (nI s) (x2 - x3) 0 0 = if ab (x2 - x3 - tot w n + 2 * sw w s n) < x6 then K (nI n) x2 x3 x4 (nI s) (ab (x2 - x3 - tot w n + 2 * sw w s n)) (nI (s + 1)) 0 else K (nI n) x2 x3 x4 x5 x6 (nI (s + 1)) 0 := by
  have h12 : 2 ^ n ≤ 4096 := Nat.le_trans (Nat.pow_le_pow_right (by decide) hn) (by decide)
  rw [← sgn_eq]
  refine fl n (sgn w s) (fun F i v => f_X12_even_84 tape K F (nI n) x2 x3 x4 x5 x6 (nI s) v (nI i) 0) (fun v => if ab v < x6 then K (nI n) x2 x3 x4 (nI s) (ab v) (nI (s + 1)) 0 else K (nI n) x2 x3 x4 x5 x6 (nI (s + 1)) 0) ?_ ?_ (x2 - x3) (show n < FU by unfold FU; omega)
  · intro F v
    show f_X12_even_84 tape K (F + 1) (nI n) x2 x3 x4 x5 x6 (nI s) v (nI n) 0 = _
    rw [f_X12_even_84, if_pos (nI_le (Nat.le_refl _) (by omega)), szb, bs, bs, nI_1]
  · intro F i v hi
    show f_X12_even_84 tape K (F + 1) (nI n) x2 x3 x4 x5 x6 (nI s) v (nI i) 0 = f_X12_even_84 tape K F (nI n) x2 x3 x4 x5 x6 (nI s) (sgn w s i v) (nI (i + 1)) 0
    rw [f_X12_even_84, if_neg (nI_ge (by omega) (by omega)), has1 (by omega) (by omega), bs, hw i hi, bs, bs, nI_1, sgn]
    cases s.testBit i
    · rfl
    · rfl
theorem ab0 {a b c : Nat} (ha : a ≤ 200) (hb : b ≤ 200) (hc : c ≤ 3060) : ∃ k : Nat, k ≤ 3260 ∧ ab (nI a - nI b - nI c + 2 * 0) = nI k := by
  have e : nI a - nI b - nI c + 2 * 0 = nI a - nI (b + c) := by rw [← la]; grind
  rw [e]
  unfold ab
  by_cases q : b + c ≤ a
  · rw [pk_sub q, if_pos (nI_pos' (by omega))]
    exact ⟨_, by omega, rfl⟩
  · rw [if_neg (Int32.not_le.mpr (pk_sneg (by omega) (by omega)))]
    refine ⟨b + c - a, by omega, ?_⟩
    rw [← pk_sub (by omega)]
    grind
theorem tot_nI {w : Nat → Int32} (h : ∀ i : Nat, ∃ c : Nat, c < 256 ∧ w i = nI c) : ∀ n : Nat, ∃ c : Nat, c ≤ 255 * n ∧ tot w n = nI c
  | 0 => ⟨0, by omega, rfl⟩
  | n + 1 => by
    obtain ⟨c, h1, h2⟩ := tot_nI h n
    obtain ⟨d, h3, h4⟩ := h n
    exact ⟨c + d, by omega, by show tot w n + w n = _; rw [h2, h4, la]⟩
theorem ev2 {tape bt w : Nat → Int32} {L : Int32} {n a b : Nat} (hn : n ≤ 12) (ha : a ≤ 200) (hb : b ≤ 200) (hw : ∀ i : Nat, i < n → f_X8_byteAt L bt (nI i) = some (w i) ∧ f_X12_octet tape (nI i) = some (w i)) (hc : ∀ i : Nat, ∃ c : Nat, c < 256 ∧ w i = nI c) (p q : Nat → Int32) (x4 : Int32) :
    T2 (f_X7_balance L bt p q (nI n) (nI a) (nI b) x4) (f_X12_even_68 tape FU (nI n) (nI a) (nI b) x4 0 1000000 0 0) (fun x y => x.1 = y.1 ∧ y.2 = 0) := by
  have h12 : 2 ^ n ≤ 4096 := Nat.le_trans (Nat.pow_le_pow_right (by decide) hn) (by decide)
  obtain ⟨l, hl6, hln, el⟩ : ∃ l : Nat, l ≤ 6 ∧ l ≤ n ∧ n - l ≤ 6 ∧ (if (6 : Int32) < nI n then (6 : Int32) else nI n) = nI l := by
    by_cases c : 6 < n
    · exact ⟨6, by omega, by omega, by omega, if_pos (show nI 6 < nI n from nI_lt c (by omega))⟩
    · exact ⟨n, by omega, by omega, by omega, if_neg (show ¬ nI 6 < nI n from nI_nlt (by omega) (by decide))⟩
  obtain ⟨hnl, el⟩ := el
  have hl64 : 2 ^ l ≤ 64 := Nat.le_trans (Nat.pow_le_pow_right (by decide) hl6) (by decide)
  have hd64 : 2 ^ (n - l) ≤ 64 := Nat.le_trans (Nat.pow_le_pow_right (by decide) hnl) (by decide)
  unfold f_X7_balance
  obtain ⟨r1, f1, g1⟩ := FS (bt := bt) (L := L) (w := w) (a := 0) (m := l) hl6 (by omega) (fun i hi => by rw [Nat.zero_add]; exact (hw i (by omega)).1) p
  obtain ⟨r2, f2, g2⟩ := FS (bt := bt) (L := L) (w := fun i => w (l + i)) (a := l) (m := n - l) hnl (by omega) (fun i hi => (hw (l + i) (by omega)).1) q
  rw [el, show f_X7_fillSums L bt p 0 (nI l) = some r1 from f1, bs, pk_sub hln, f2, bs, SoF (by omega) (fun i hi => (hw i hi).1), bs, sl1 (by omega), show nI (2 ^ l) - 1 = nI (2 ^ l - 1) from pk_sub (Nat.pos_of_ne_zero (by have := Nat.two_pow_pos l; omega))]
  refine loop2 (2 ^ n) (fun i (s t : Int32 × Int32) => (i = 0 ∧ s = (0, 1073741824) ∧ t = (0, 1000000)) ∨ (0 < i ∧ s = t)) (fun F i s => f_X7_balance_62 L bt F (nI n) x4 (nI l) (nI a - nI b - tot w n) (nI (2 ^ l - 1)) s.1 s.2 (nI i) r1 r2) (fun F i t => f_X12_even_68 tape F (nI n) (nI a) (nI b) x4 t.1 t.2 (nI i) 0) (fun x y => x.1 = y.1 ∧ y.2 = 0) ?_ ?_ (2 ^ n) 0 (0, 1073741824) (0, 1000000) FU FU (by omega) (by unfold FU; omega) (by unfold FU; omega) (Or.inl ⟨rfl, rfl, rfl⟩)
  · intro F F' s t hI
    show T2 (f_X7_balance_62 L bt (F + 1) (nI n) x4 (nI l) _ _ s.1 s.2 (nI (2 ^ n)) r1 r2) (f_X12_even_68 tape (F' + 1) (nI n) (nI a) (nI b) x4 t.1 t.2 (nI (2 ^ n)) 0) _
    have hst : s = t := hI.elim (fun z => absurd z.1 (by have := Nat.two_pow_pos n; omega)) (fun z => z.2)
    rw [f_X7_balance_62, f_X12_even_68, sl1 (by omega), if_pos (nI_le (Nat.le_refl _) (by omega)), if_pos (nI_le (Nat.le_refl _) (by omega)), hst]
    unfold f_X7_balance_132
    by_cases z : x4 = 0
    · rw [if_pos z, if_pos z]; exact T2.ret ⟨rfl, rfl⟩
    · rw [if_neg z, if_neg z]; exact T2.ret ⟨rfl, rfl⟩
  · intro F F' i s t hi hI ih
    show T2 (f_X7_balance_62 L bt (F + 1) (nI n) x4 (nI l) _ _ s.1 s.2 (nI i) r1 r2) (f_X12_even_68 tape (F' + 1) (nI n) (nI a) (nI b) x4 t.1 t.2 (nI i) 0) _
    have hid : i / 2 ^ l < 2 ^ (n - l) := by
      rw [Nat.div_lt_iff_lt_mul (Nat.two_pow_pos l), ← Nat.pow_add, Nat.sub_add_cancel hln]
      exact hi
    have him : i % 2 ^ l < 2 ^ l := Nat.mod_lt _ (Nat.two_pow_pos l)
    rw [f_X7_balance_62, f_X12_even_68, sl1 (by omega), if_neg (nI_ge (by omega) (by omega)), if_neg (nI_ge (by omega) (by omega)), if_neg (show ¬ (12 : Int32) < nI n from nI_nlt (a := 12) hn (by decide)), an1 (by omega) (by omega), sr1 (by omega) (by omega), ixn (by omega) (by decide), ixn (by omega) (by decide), nI_clamp (by omega), nI_clamp (by omega), g1 _ him, g2 _ hid, ← sw_cut, Nat.add_sub_cancel' hln, evM hn hi (fun i hi => (hw i hi).2), nI_1]
    show T2 (if s.2 ≤ ab (nI a - nI b - tot w n + 2 * sw w i n) then _ else f_X7_balance_62 L bt F (nI n) x4 (nI l) (nI a - nI b - tot w n) (nI (2 ^ l - 1)) (nI i) (ab (nI a - nI b - tot w n + 2 * sw w i n)) (nI (i + 1)) r1 r2) _ _
    rcases hI with ⟨rfl, rfl, rfl⟩ | ⟨h0, rfl⟩
    · obtain ⟨c, c1, c2⟩ := tot_nI hc n
      obtain ⟨k, k1, k2⟩ := ab0 ha hb (show c ≤ 3060 by omega)
      have k3 : ab (nI a - nI b - tot w n + 2 * sw w 0 n) = nI k := by
        rw [c2, ← k2, sw_0]
      rw [k3, if_neg (show ¬ (1073741824 : Int32) ≤ nI k from nI_ge (b := 1073741824) (by omega) (by decide)), if_pos (show nI k < (1000000 : Int32) from nI_lt (b := 1000000) (by omega) (by decide))]
      exact ih (_, _) (_, _) (Or.inr ⟨by omega, rfl⟩)
    · by_cases c : s.2 ≤ ab (nI a - nI b - tot w n + 2 * sw w i n)
      · rw [if_pos c, if_neg (Int32.not_lt.mpr c)]
        exact ih s s (Or.inr ⟨by omega, rfl⟩)
      · rw [if_neg c, if_pos (Int32.not_le.mp c)]
        exact ih (_, _) (_, _) (Or.inr ⟨by omega, rfl⟩)
theorem pm_even {XA : Nat → Nat → Int32} {XI : Nat → Int32} {MA : Nat → Nat → Int32} {MI : Nat → Int32} (h : Inv XA XI MA MI) (x1 : Int32) (x2 : Int32) (x3 : Int32) (x4 : Int32) : ∃ (rX : Int32 × Int32 × (Nat → Int32) × (Nat → Int32)) (rM : Int32 × Int32), f_X11_even (XI 1) (XA 0) (XA 17) (XA 18) x1 x2 x3 x4 = some rX ∧ f_X12_even (MI 0) (MA 3) x1 x2 x3 x4 = some rM ∧ rX.1 = rM.1 ∧ Inv (va_up (va_up XA 17 rX.2.2.1) 18 rX.2.2.2) (va_up XI 1 rX.2.1) MA (va_up MI 0 rM.2) := by
  obtain ⟨⟨⟨n, hn, e1, e2⟩, hb⟩, hC, hk, hkk, hL⟩ := h
  have same : ∀ (a b : Nat → Int32), Inv (va_up (va_up XA 17 a) 18 b) (va_up XI 1 (nI n)) MA (va_up MI 0 (nI n)) := fun a b => ⟨⟨⟨n, hn, rfl, rfl⟩, hb⟩, hC, hk, hkk, hL⟩
  have done : ∀ (a b : Nat → Int32), Inv (va_up (va_up XA 17 a) 18 b) (va_up XI 1 0) MA (va_up MI 0 0) := fun a b => ⟨⟨⟨0, by decide, rfl, rfl⟩, hb⟩, hC, hk, hkk, hL⟩
  unfold f_X11_even f_X12_even f_X8_clear
  rw [e1, e2]
  have hby : ∀ i : Nat, ∃ c : Nat, c < 256 ∧ (fun i => if i < 260 then XA 0 i else 0) i = nI c := by
    intro i
    by_cases c : i < 260
    · obtain ⟨c', h1, h2⟩ := and255 (MA 3 i)
      exact ⟨c', h1, by show (if i < 260 then XA 0 i else 0) = _; rw [if_pos c, hb i c, h2]⟩
    · exact ⟨0, by decide, by show (if i < 260 then XA 0 i else 0) = _; rw [if_neg c]; rfl⟩
  rcases holds_eq hn x1 1 12 (by decide) (by decide) with ⟨d1, d2⟩ | ⟨j, j1, j2, j3, rfl, d1, d2, d3, d4⟩
  · have d1 : f_X8_holds (nI n) x1 1 12 = some 0 := d1
    rw [d1, bs, if_pos rfl]
    rcases d2 with d2 | ⟨d2, d3, -⟩
    · have d2 : f_X12_in x1 1 12 = some 0 := d2
      rw [d2, bs, if_pos rfl]
      exact ⟨_, _, rfl, rfl, rfl, same _ _⟩
    · have d2 : f_X12_in x1 1 12 = some 1 := d2
      rw [d2, bs, if_neg i10, if_neg d3, same_in, same_in, same_in]
      rcases wi01 x2 0 200 with e | e
      · rw [e, bs, if_pos rfl]; exact ⟨_, _, rfl, rfl, rfl, same _ _⟩
      · rw [e, bs, if_neg i10]
        rcases wi01 x3 0 200 with e | e
        · rw [e, bs, if_pos rfl]; exact ⟨_, _, rfl, rfl, rfl, same _ _⟩
        · rw [e, bs, if_neg i10]
          rcases wi01 x4 0 1 with e | e
          · rw [e, bs, if_pos rfl]; exact ⟨_, _, rfl, rfl, rfl, same _ _⟩
          · rw [e, bs, if_neg i10]; exact ⟨_, _, rfl, rfl, rfl, same _ _⟩
  · have d1 : f_X8_holds (nI n) (nI j) 1 12 = some 1 := d1
    have d2 : f_X12_in (nI j) 1 12 = some 1 := d2
    rw [d1, d2, bs, bs, if_neg i10, if_neg i10, show (200 : Int32) = nI 200 from rfl]
    rcases wi x2 200 (by decide) with ⟨c1, c2, -⟩ | ⟨a, ha, rfl, c1, c2⟩
    · rw [c1, c2, bs, bs, if_pos rfl, if_pos rfl]; exact ⟨_, _, rfl, rfl, rfl, same _ _⟩
    · rw [c1, c2, bs, bs, if_neg i10, if_neg i10]
      rcases wi x3 200 (by decide) with ⟨c1, c2, -⟩ | ⟨b, hb', rfl, c1, c2⟩
      · rw [c1, c2, bs, bs, if_pos rfl, if_pos rfl]; exact ⟨_, _, rfl, rfl, rfl, same _ _⟩
      · rw [c1, c2, bs, bs, if_neg i10, if_neg i10, same_in]
        rcases wi01 x4 0 1 with e | e
        · rw [e, bs, bs, if_pos rfl, if_pos rfl]; exact ⟨_, _, rfl, rfl, rfl, same _ _⟩
        · rw [e, bs, bs, if_neg i10, if_neg i10, if_pos d3]
          obtain ⟨⟨u1, u2, u3⟩, ⟨v1, v2⟩, p1, p2, p3, p4⟩ := ev2 (tape := MA 3) (bt := XA 0) (L := nI n) (w := fun i => if i < 260 then XA 0 i else 0) j2 ha hb' (fun i hi => by
            show _ = some (if i < 260 then XA 0 i else 0) ∧ _ = some (if i < 260 then XA 0 i else 0)
            rw [if_pos (show i < 260 by omega)]
            exact byte_eq hb (show i < n by omega) hn) hby (XA 17) (XA 18) x4
          simp only at p3 p4
          subst p3 p4
          rw [p1, p2, bs, bs]
          exact ⟨_, _, rfl, rfl, rfl, done _ _⟩
