/-! numbers in texts, and moves -/
def isD (bt : Nat → Int32) (n q : Nat) : Prop := ∃ h : Nat, h < 10 ∧ sg bt n q = nI (48 + h)
def dvl (bt : Nat → Int32) (p : Nat) : Nat → Nat
  | 0 => 0
  | k + 1 => 10 * dvl bt p k + ((bt (p + k)).toNatClampNeg - 48)
theorem digC {bt tp : Nat → Int32} (hb : ∀ k : Nat, k < 260 → bt k = tp k &&& 255) (hB : BY bt) {n : Nat} (hn : n ≤ 260) {q : Nat} (hq31 : q < 2 ^ 31) : (¬ isD bt n q ∧ f_X12_isDigit (nI q) (nI n) tp = some 0 ∧ f_X9_isDigit (sg bt n q) = some 0) ∨ (isD bt n q ∧ q < n ∧ f_X12_isDigit (nI q) (nI n) tp = some 1 ∧ f_X9_isDigit (sg bt n q) = some 1 ∧ ∃ h : Nat, h < 10 ∧ sg bt n q = nI (48 + h) ∧ (bt q).toNatClampNeg - 48 = h) := by
  rcases dig1 hb hB hn hq31 with ⟨a, b, c⟩ | ⟨h, h1, h2, h3, h4, h5, h6⟩
  · refine Or.inl ⟨?_, b, c⟩
    rintro ⟨h, hh, e⟩
    rw [e, (wh_b (show 48 + h < 256 by omega)).2.2.2.1, if_pos (by omega)] at a
    exact nIm1 (by omega) a
  · refine Or.inr ⟨⟨h, h1, h3⟩, h6, h4, h5, h, h1, h3, ?_⟩
    have : bt q = nI (48 + h) := by rw [← h3]; unfold sg; rw [if_pos h6]
    rw [this, nI_clamp (by omega)]
    omega
theorem dvl_lt {bt : Nat → Int32} {p n : Nat} {tp : Nat → Int32} (hb : ∀ k : Nat, k < 260 → bt k = tp k &&& 255) (hB : BY bt) (hn : n ≤ 260) : ∀ k : Nat, p + k ≤ n → (∀ i : Nat, i < k → isD bt n (p + i)) → dvl bt p k < 10 ^ k
  | 0, _, _ => by show 0 < 1; decide
  | k + 1, hk, h => by
    have := dvl_lt hb hB hn k (by omega) (fun i hi => h i (by omega))
    rcases digC hb hB hn (q := p + k) (by omega) with ⟨a, _⟩ | ⟨_, _, _, _, d, d1, d2, d3⟩
    · exact absurd (h k (by omega)) a
    · show 10 * dvl bt p k + ((bt (p + k)).toNatClampNeg - 48) < 10 ^ (k + 1)
      rw [Nat.pow_succ]
      omega
theorem numL {bt tp : Nat → Int32} (hb : ∀ k : Nat, k < 260 → bt k = tp k &&& 255) (hB : BY bt) {n p D : Nat} (hn : n ≤ 260) (hD : D ≤ 5) (f fp : Int32) :
    ∀ (m k F : Nat), k + m = D → m < F → p + k ≤ n → (∀ i : Nat, i < k → isD bt n (p + i)) → ∃ k', k ≤ k' ∧ k' ≤ D ∧ p + k' ≤ n ∧ (∀ i : Nat, i < k' → isD bt n (p + i)) ∧ ((¬ isD bt n (p + k') ∧ f_X9_number_20 (nI n) bt F (nI D) (nI (dvl bt p k)) (nI k) f fp (nI (p + k)) (sg bt n (p + k)) = some (nI (dvl bt p k'), f, fp, nI (p + k'), sg bt n (p + k'))) ∨ (k' = D ∧ isD bt n (p + k') ∧ f_X9_number_20 (nI n) bt F (nI D) (nI (dvl bt p k)) (nI k) f fp (nI (p + k)) (sg bt n (p + k)) = (f_X9_fail f fp 2 (nI (p + k'))).bind (fun z68 => some (nI (dvl bt p k'), z68.1, z68.2, nI (p + k'), sg bt n (p + k'))))) := by
  intro m
  induction m with
  | zero =>
    intro k F hk hF hp h
    obtain ⟨F, rfl⟩ : ∃ G, F = G + 1 := ⟨F - 1, by omega⟩
    refine ⟨k, Nat.le_refl _, by omega, hp, h, ?_⟩
    rw [f_X9_number_20, if_pos (nI_le (by omega) (by omega))]
    unfold f_X9_number_55
    rcases digC hb hB hn (q := p + k) (by omega) with ⟨a, _, c⟩ | ⟨a, _, _, c, _⟩
    · exact Or.inl ⟨a, by rw [c, bs, if_pos rfl]⟩
    · exact Or.inr ⟨by omega, a, by rw [c, bs, if_neg i10]⟩
  | succ m ih =>
    intro k F hk hF hp h
    obtain ⟨F, rfl⟩ : ∃ G, F = G + 1 := ⟨F - 1, by omega⟩
    rw [f_X9_number_20, if_neg (nI_ge (by omega) (by omega))]
    unfold f_X9_number_55
    rcases digC hb hB hn (q := p + k) (by omega) with ⟨a, _, c⟩ | ⟨a, aq, _, c, d, d1, d2, d3⟩
    · exact ⟨k, Nat.le_refl _, by omega, hp, h, Or.inl ⟨a, by rw [c, bs, if_pos rfl, bs, if_pos rfl]⟩⟩
    · have v : 10 * nI (dvl bt p k) + nI (48 + d) - 48 = nI (dvl bt p (k + 1)) := by
        rw [show (10 : Int32) * nI (dvl bt p k) = nI (10 * dvl bt p k) from lm 10 _, la, show (48 : Int32) = nI 48 from rfl, pk_sub (by omega)]
        show _ = nI (10 * dvl bt p k + ((bt (p + k)).toNatClampNeg - 48))
        rw [d3]
        congr 1
        omega
      have hd : ∀ i : Nat, i < k + 1 → isD bt n (p + i) := fun i hi => by
        by_cases e : i = k
        · rw [e]; exact a
        · exact h i (by omega)
      obtain ⟨k', g1, g2, g3, g4, g5⟩ := ih (k + 1) F (by omega) (by omega) (by omega) hd
      rw [c, bs, if_neg i10, skip1 bt hn aq, bs, nI_1, d2, v]
      exact ⟨k', by omega, g2, g3, g4, g5⟩
theorem numX {bt tp : Nat → Int32} (hb : ∀ k : Nat, k < 260 → bt k = tp k &&& 255) (hB : BY bt) {n p D : Nat} (hn : n ≤ 260) (hD : D ≤ 5) (hD1 : 1 ≤ D) (hp : p ≤ n) (fp : Int32) :
    (¬ isD bt n p ∧ f_X9_number (nI n) 0 fp (nI p) (sg bt n p) bt (nI D) = some (0, 1, nI p, nI p, sg bt n p)) ∨ (∃ k, 1 ≤ k ∧ k ≤ D ∧ p + k ≤ n ∧ (∀ i : Nat, i < k → isD bt n (p + i)) ∧ ((¬ isD bt n (p + k) ∧ f_X9_number (nI n) 0 fp (nI p) (sg bt n p) bt (nI D) = some (nI (dvl bt p k), 0, fp, nI (p + k), sg bt n (p + k))) ∨ (k = D ∧ isD bt n (p + k) ∧ f_X9_number (nI n) 0 fp (nI p) (sg bt n p) bt (nI D) = some (nI (dvl bt p k), 2, nI (p + k), nI (p + k), sg bt n (p + k))))) := by
  unfold f_X9_number f_X9_number_16
  rcases digC hb hB hn (q := p) (by omega) with ⟨a, _, c⟩ | ⟨a, aq, _, c, _⟩
  · left
    refine ⟨a, ?_⟩
    rw [c, bs, if_pos rfl, fa0, bs, show FU = 9999 + 1 from rfl, f_X9_number_20, if_neg (show ¬ nI D ≤ 0 from nI_nle (by omega) (by omega))]
    unfold f_X9_number_55
    rw [c, bs, if_pos rfl, bs, if_pos rfl]
  · right
    rw [c, bs, if_neg i10]
    obtain ⟨k, g1, g2, g3, g4, g5⟩ := numL hb hB (p := p) hn hD 0 fp D 0 FU (by omega) (by unfold FU; omega) hp (fun i hi => by omega)
    have k1 : 1 ≤ k := by
      rcases Nat.eq_zero_or_pos k with q | q
      · rw [q] at g5
        rcases g5 with ⟨q1, _⟩ | ⟨q1, _⟩
        · exact absurd a q1
        · omega
      · exact q
    refine ⟨k, k1, g2, g3, g4, ?_⟩
    rcases g5 with ⟨q1, q2⟩ | ⟨q1, q2, q3⟩
    · exact Or.inl ⟨q1, q2⟩
    · exact Or.inr ⟨q1, q2, q3⟩
theorem seM {bt tp : Nat → Int32} (hb : ∀ k : Nat, k < 260 → bt k = tp k &&& 255) (hB : BY bt) {n p : Nat} (hn : n ≤ 260) (ft : Int32) {k : Nat} (hk : k ≤ 3) (hp : p + k ≤ n) (hd : ∀ i : Nat, i < k → isD bt n (p + i)) :
    ∀ (m j F : Nat), j + m = k → m < F → (¬ isD bt n (p + k) → f_X12_readsSeat_27 (nI n) tp F (nI p) (nI (p + j)) ft (nI (dvl bt p j)) = if dvl bt p k < 144 then some (1, nI (p + k), ft, nI (dvl bt p k)) else some (0, nI (p + k), (-1000) * 3 - nI p, nI (dvl bt p k))) ∧ (k = 3 → isD bt n (p + k) → f_X12_readsSeat_27 (nI n) tp F (nI p) (nI (p + j)) ft (nI (dvl bt p j)) = some (0, nI (p + k), (-1000) * 2 - nI (p + k), nI (dvl bt p k))) := by
  have hv : dvl bt p k < 1000 := by
    have := dvl_lt hb hB hn k hp hd
    have : 10 ^ k ≤ 10 ^ 3 := Nat.pow_le_pow_right (by decide) hk
    omega
  intro m
  induction m with
  | zero =>
    intro j F hj hF
    obtain ⟨F, rfl⟩ : ∃ G, F = G + 1 := ⟨F - 1, by omega⟩
    rw [show j = k by omega, f_X12_readsSeat_27]
    rcases digC hb hB hn (q := p + k) (by omega) with ⟨a, c, _⟩ | ⟨a, aq, c, _⟩
    · refine ⟨fun _ => ?_, fun _ z => absurd z a⟩
      rw [c, bs, if_pos rfl]
      by_cases z : dvl bt p k < 144
      · rw [show f_X12_in (nI (dvl bt p k)) 0 143 = some 1 from (wi1 (n := 143) (j := dvl bt p k) (by omega) (by decide)).2, bs, if_neg i10, if_pos z]
      · have z2 : f_X12_in (nI (dvl bt p k)) 0 143 = some 0 := by
          unfold f_X12_in
          rw [if_neg (nI_pos (by omega)), if_pos (show (143 : Int32) < nI (dvl bt p k) from nI_lt (a := 143) (by omega) (by omega))]
        rw [z2, bs, if_pos rfl, if_neg z]
        rfl
    · refine ⟨fun z => absurd a z, fun h3 _ => ?_⟩
      rw [c, bs, if_neg i10, if_pos (show nI (p + k) = nI p + 3 from by rw [h3]; exact (la p 3).symm)]
      rfl
  | succ m ih =>
    intro j F hj hF
    obtain ⟨F, rfl⟩ : ∃ G, F = G + 1 := ⟨F - 1, by omega⟩
    rcases digC hb hB hn (q := p + j) (by omega) with ⟨a, _⟩ | ⟨a, aq, c, _, d, d1, d2, d3⟩
    · exact absurd (hd j (by omega)) a
    · have v : 10 * nI (dvl bt p j) + nI (48 + d) - 48 = nI (dvl bt p (j + 1)) := by
        rw [show (10 : Int32) * nI (dvl bt p j) = nI (10 * dvl bt p j) from lm 10 _, la, show (48 : Int32) = nI 48 from rfl, pk_sub (by omega)]
        show _ = nI (10 * dvl bt p j + ((bt (p + j)).toNatClampNeg - 48))
        rw [d3]
        congr 1
        omega
      rw [f_X12_readsSeat_27, c, bs, if_neg i10, if_neg (fun z => by have := nI_inj (by omega) (by omega) (show nI (p + j) = nI (p + 3) from by rw [z]; exact la p 3); omega), here1 hb hn (by omega), bs, d2, v, nI_1]
      exact ih (j + 1) F (by omega) (by omega)
/-- a seat in both -/
theorem seat2 {bt tp : Nat → Int32} (hb : ∀ k : Nat, k < 260 → bt k = tp k &&& 255) (hB : BY bt) {n p : Nat} (hn : n ≤ 260) (hp : p ≤ n) (fp ft nu0 x2 : Int32) (hx2 : x2 = 0 ∨ x2 = 1) (g : Nat → Int32) :
    (∃ v f q pl s pm nm, f ≠ 0 ∧ f_X6_readSeat (nI n) 0 fp (nI p) (sg bt n p) bt g x2 = some (v, f, q, pl, s) ∧ f_X12_readsSeat (nI p) (nI n) ft nu0 tp = some (0, pm, (-1000) * f - q, nm)) ∨
    (∃ v p', v < 144 ∧ p < p' ∧ p' ≤ n ∧ f_X12_readsSeat (nI p) (nI n) ft nu0 tp = some (1, nI p', ft, nI v) ∧ f_X6_readSeat (nI n) 0 fp (nI p) (sg bt n p) bt g x2 = if (if g v = -1 then (0 : Int32) else 1) = x2 then some (nI v, 0, fp, nI p', sg bt n p') else some (nI v, if x2 = 0 then 8 else 7, nI p, nI p', sg bt n p')) := by
  unfold f_X6_readSeat f_X12_readsSeat
  rw [hf0, bs, if_pos rfl, show (3 : Int32) = nI 3 from rfl]
  rcases numX hb hB hn (D := 3) (by decide) (by decide) hp fp with ⟨a, e⟩ | ⟨k, k1, k2, k3, k4, k5⟩
  · left
    rcases digC hb hB hn (q := p) (by omega) with ⟨_, c, _⟩ | ⟨a', _⟩
    · rw [e, c, bs, bs, if_pos rfl, show f_X9_hasFault 1 = some 1 from rfl, bs, if_neg i10]
      exact ⟨_, 1, nI p, _, _, _, _, by decide, rfl, rfl⟩
    · exact absurd a' a
  · have hd0 : isD bt n p := k4 0 (by omega)
    have c : f_X12_isDigit (nI p) (nI n) tp = some 1 := by
      rcases digC hb hB hn (q := p) (by omega) with ⟨a, _⟩ | ⟨_, _, c, _⟩
      · exact absurd hd0 a
      · exact c
    have sm := seM hb hB hn ft k2 k3 k4 k 0 FU (by omega) (by unfold FU; omega)
    rw [c, bs, if_neg i10]
    have hv : dvl bt p k < 1000 := by
      have := dvl_lt hb hB hn k k3 k4
      have : 10 ^ k ≤ 10 ^ 3 := Nat.pow_le_pow_right (by decide) k2
      omega
    rcases k5 with ⟨nd, e⟩ | ⟨k6, yd, e⟩
    · rw [e, bs, show f_X12_readsSeat_27 (nI n) tp FU (nI p) (nI p) ft 0 = _ from sm.1 nd, hf0, bs, if_pos rfl]
      by_cases z : dvl bt p k < 144
      · right
        refine ⟨dvl bt p k, p + k, z, by omega, k3, by rw [if_pos z], ?_⟩
        rw [if_pos (show nI (dvl bt p k) < 144 from nI_lt (b := 144) z (by decide)), xT g z, bs]
        unfold f_X6_readSeat_86
        by_cases y : (if g (dvl bt p k) = -1 then (0 : Int32) else 1) = x2
        · rw [if_pos y, if_pos y]
        · rw [if_neg y, if_neg y]
          rcases hx2 with rfl | rfl
          · rw [if_pos rfl, if_pos rfl]; rfl
          · rw [if_neg i10, if_neg i10]; rfl
      · left
        rw [if_neg z, if_neg (show ¬ nI (dvl bt p k) < 144 from nI_nlt (b := 144) (by omega) (by omega)), fa0, bs]
        exact ⟨0, nI 3, nI p, _, _, _, _, by decide, rfl, rfl⟩
    · left
      rw [e, bs, show f_X12_readsSeat_27 (nI n) tp FU (nI p) (nI p) ft 0 = _ from sm.2 k6 yd, show f_X9_hasFault 2 = some 1 from rfl, bs, if_neg i10]
      exact ⟨0, 2, nI (p + k), _, _, _, _, by decide, rfl, rfl⟩
