/-! texts, and the list -/
def sg (bt : Nat → Int32) (n p : Nat) : Int32 := if p < n then bt p else -1
def BY (bt : Nat → Int32) : Prop := ∀ k : Nat, k < 260 → ∃ c : Nat, c < 256 ∧ bt k = nI c
theorem sgC {bt : Nat → Int32} {n : Nat} (h : BY bt) (hn : n ≤ 260) (p : Nat) : (sg bt n p = -1 ∧ n ≤ p) ∨ ∃ c : Nat, c < 256 ∧ sg bt n p = nI c ∧ p < n := by
  unfold sg
  by_cases q : p < n
  · obtain ⟨c, h1, h2⟩ := h p (by omega)
    exact Or.inr ⟨c, h1, by rw [if_pos q, h2], q⟩
  · exact Or.inl ⟨if_neg q, by omega⟩
theorem here1 {bt tp : Nat → Int32} (hb : ∀ k : Nat, k < 260 → bt k = tp k &&& 255) {n : Nat} (hn : n ≤ 260) {p : Nat} (hp : p < 2 ^ 31) : f_X12_here (nI p) (nI n) tp = some (sg bt n p) := by
  unfold f_X12_here sg
  by_cases q : p < n
  · rw [if_neg (nI_ge q (by omega)), if_pos q, ixn (by omega) (by decide), nI_clamp (by omega), hb p (by omega)]
  · rw [if_pos (nI_le (by omega) hp), if_neg q]
theorem skip1 (bt : Nat → Int32) {n : Nat} (hn : n ≤ 260) {p : Nat} (hp : p < n) (s : Int32) : f_X9_skip (nI n) (nI p) s bt = some (nI (p + 1), sg bt n (p + 1)) := by
  unfold f_X9_skip f_X9_skip_21 f_X9_skip_46 sg
  rw [if_neg (nI_ge hp (by omega)), nI_1]
  by_cases q : p + 1 < n
  · rw [if_neg (nI_ge q (by omega)), if_pos q, ixn (by omega) (by decide), nI_clamp (by omega)]
  · rw [if_pos (nI_le (by omega) (by omega)), if_neg q]
theorem hfN {f : Int32} (h : f ≠ 0) : f_X9_hasFault f = some 1 := by unfold f_X9_hasFault; rw [if_neg h]
theorem hf0 : f_X9_hasFault 0 = some 0 := rfl
theorem faN {f : Int32} (h : f ≠ 0) (fp a b : Int32) : f_X9_fail f fp a b = some (f, fp) := by unfold f_X9_fail; rw [if_neg h]
theorem fa0 (fp a b : Int32) : f_X9_fail 0 fp a b = some (a, b) := rfl
theorem whN {f : Int32} (h : f ≠ 0) (s : Int32) (k : Nat) : f_X9_whichOf f s k = some (-1) := by unfold f_X9_whichOf; rw [hfN h]; rfl
theorem chN {f : Int32} (h : f ≠ 0) (e fp pl s : Int32) (bt : Nat → Int32) (k : Nat) : f_X9_choose e f fp pl s bt k = some (-1, f, fp, pl, s) := by
  unfold f_X9_choose
  rw [whN h, bs, if_pos rfl, faN h]
  rfl
theorem paN {f : Int32} (h : f ≠ 0) (e pl s : Int32) (bt : Nat → Int32) (c : Int32) : f_X9_passes e f pl s bt c = some (0, pl, s) := by
  unfold f_X9_passes
  rw [hfN h]
  rfl
def wh (k : Nat) (s : Int32) : Int32 := if s = -1 then -1 else sIdx k ((s.toUInt32 % 65536).toInt32)
theorem wh0 (s : Int32) (k : Nat) : f_X9_whichOf 0 s k = some (wh k s) := by
  unfold f_X9_whichOf wh
  rw [hf0, bs, if_pos rfl]
  by_cases h : s = -1
  · rw [if_pos h, if_pos h]
  · rw [if_neg h, if_neg h]
theorem ch0 {bt : Nat → Int32} {n : Nat} (hn : n ≤ 260) (fp : Int32) (p : Nat) (k : Nat) : f_X9_choose (nI n) 0 fp (nI p) (sg bt n p) bt k = if wh k (sg bt n p) = -1 then some (-1, 1, nI p, nI p, sg bt n p) else some (wh k (sg bt n p), 0, fp, nI (p + 1), sg bt n (p + 1)) := by
  unfold f_X9_choose
  rw [wh0, bs]
  by_cases h : wh k (sg bt n p) = -1
  · rw [if_pos h, if_pos h, h]; rfl
  · have hp : p < n := by
      rcases Nat.lt_or_ge p n with q | q
      · exact q
      · exact absurd (show wh k (sg bt n p) = -1 by rw [show sg bt n p = -1 from if_neg (by omega)]; exact if_pos rfl) h
    rw [if_neg h, if_neg h, skip1 bt hn hp]; rfl
theorem pa0 {bt : Nat → Int32} {n : Nat} (hn : n ≤ 260) (p : Nat) {c : Int32} (hc : c ≠ -1) : f_X9_passes (nI n) 0 (nI p) (sg bt n p) bt c = if sg bt n p = c then some (1, nI (p + 1), sg bt n (p + 1)) else some (0, nI p, sg bt n p) := by
  unfold f_X9_passes
  rw [hf0, bs, if_pos rfl]
  by_cases h : sg bt n p = c
  · have hp : p < n := by
      rcases Nat.lt_or_ge p n with q | q
      · exact q
      · exact absurd (by rw [← h]; unfold sg; rw [if_neg (by omega)]) hc
    rw [if_pos h, if_pos h, skip1 bt hn hp]; rfl
  · rw [if_neg h, if_neg h]
def whT (c : Nat) : Bool := decide (wh 5 (nI c) = if 50 ≤ c ∧ c ≤ 57 then nI (c - 50) else -1) && decide (wh 6 (nI c) = if c = 104 then 0 else if c = 103 then 1 else if c = 98 then 2 else -1) && decide (wh 7 (nI c) = if 97 ≤ c ∧ c ≤ 112 then nI (c - 97) else -1) && decide (wh 8 (nI c) = if 48 ≤ c ∧ c ≤ 57 then nI (c - 48) else -1) && decide (wh 9 (nI c) = if c = 62 then 0 else if c = 61 then 1 else if c = 33 then 2 else -1)
theorem wh_t : (List.range 256).all whT = true := by decide +kernel
theorem wh_b {c : Nat} (h : c < 256) : (wh 5 (nI c) = if 50 ≤ c ∧ c ≤ 57 then nI (c - 50) else -1) ∧ (wh 6 (nI c) = if c = 104 then 0 else if c = 103 then 1 else if c = 98 then 2 else -1) ∧ (wh 7 (nI c) = if 97 ≤ c ∧ c ≤ 112 then nI (c - 97) else -1) ∧ (wh 8 (nI c) = if 48 ≤ c ∧ c ≤ 57 then nI (c - 48) else -1) ∧ (wh 9 (nI c) = if c = 62 then 0 else if c = 61 then 1 else if c = 33 then 2 else -1) := by
  have := List.all_eq_true.mp wh_t c (List.mem_range.mpr h)
  simp only [whT, Bool.and_eq_true, decide_eq_true_eq] at this
  obtain ⟨⟨⟨⟨a, b⟩, c'⟩, d⟩, e⟩ := this
  exact ⟨a, b, c', d, e⟩
theorem whm (k : Nat) : wh k (-1) = -1 := if_pos rfl
theorem nlit {c : Nat} (h : c < 256) (k : Nat) (hk : k < 256) : nI c = nI k ↔ c = k := nI_eq (by omega) (by omega)
theorem inN (c lo hi : Nat) (hc : c < 256) (hlo : lo < 256) (hhi : hi < 256) : f_X12_in (nI c) (nI lo) (nI hi) = some (if lo ≤ c ∧ c ≤ hi then 1 else 0) := by
  unfold f_X12_in
  by_cases a : c < lo
  · rw [if_pos (nI_lt a (by omega)), if_neg (by omega)]
  · rw [if_neg (nI_nlt (by omega) (by omega))]
    by_cases b : hi < c
    · rw [if_pos (nI_lt b (by omega)), if_neg (by omega)]
    · rw [if_neg (nI_nlt (by omega) (by omega)), if_pos (by omega)]
theorem of_t : (List.range 3).all (fun s => (List.range 16).all (fun f => (List.range 10).all (fun h => (List.range 2).all (fun c => (List.range 2).all (fun i => decide (f_X1_of (nI s) (nI f) (nI h) (nI c) (nI i) = some (nI (eX s f h c i)))))))) = true := by decide +kernel
theorem of_b {s f h c i : Nat} (h1 : s < 3) (h2 : f < 16) (h3 : h < 10) (h4 : c < 2) (h5 : i < 2) : f_X1_of (nI s) (nI f) (nI h) (nI c) (nI i) = some (nI (eX s f h c i)) :=
  of_decide_eq_true (List.all_eq_true.mp (List.all_eq_true.mp (List.all_eq_true.mp (List.all_eq_true.mp (List.all_eq_true.mp of_t s (List.mem_range.mpr h1)) f (List.mem_range.mpr h2)) h (List.mem_range.mpr h3)) c (List.mem_range.mpr h4)) i (List.mem_range.mpr h5))
/-- with a fault nothing is read -/
theorem lp87 {f : Int32} (h : f ≠ 0) (e : Int32) (bt : Nat → Int32) (w x2 x3 x4 x5 x6 y0 a fp pl s : Int32) (line : Nat → Int32) : f_X4_readPart_87 e bt w x2 x3 x4 x5 x6 y0 a f fp pl s line = some (a, f, fp, pl, s, line) := by
  unfold f_X4_readPart_87 f_X4_readPart_106 f_X4_readPart_134
  rw [paN h, bs, if_pos rfl, hfN h, faN h, bs, bs, hfN h, bs]
  split <;> rfl
theorem lp36 {f : Int32} (h : f ≠ 0) (e : Int32) (bt : Nat → Int32) (w x2 y0 a fp pl s : Int32) (line : Nat → Int32) : f_X4_readPart_36 e bt w x2 y0 a f fp pl s line = some (a, f, fp, pl, s, line) := by
  unfold f_X4_readPart_36
  rw [chN h, bs, chN h, bs, chN h, bs, paN h, bs, if_pos rfl, lp87 h]
def LO (w a : Nat) (line nl : Nat → Int32) (X : Option (Int32 × Int32 × Int32 × Int32 × Int32 × (Nat → Int32))) (M : Option (Int32 × Int32 × Int32 × Int32 × (Nat → Int32))) (bt : Nat → Int32) (n p : Nat) (fp ft : Int32) : Prop :=
  (∃ k p' line' nl', X = some (nI (a + k), 0, fp, nI p', sg bt n p', line') ∧ M = some (1, nI p', ft, nI (a + k), nl') ∧ p < p' ∧ p' ≤ n ∧ w + (a + k) ≤ 200 ∧ (∀ i : Nat, i < k → GR (line' (w + a + i)) (nl' (a + i))) ∧ (∀ q : Nat, q < w + a → line' q = line q) ∧ ∀ q : Nat, q < a → nl' q = nl q) ∨
  (∃ f q pl s pm, f ≠ 0 ∧ X = some (nI a, f, q, pl, s, line) ∧ M = some (0, pm, (-1000) * f - q, nI a, nl))
theorem lpW {w a k : Nat} (hw : w + a + k ≤ 200) {gx gm : Int32} (g : GR gx gm) (e : Int32) (bt tp now : Nat → Int32) (n0 : Int32) (f fp pl s pm ft : Int32) (line nl : Nat → Int32) :
    ∃ line' nl', f_X4_readPart_163 e bt (nI w) FU (nI k) gx 0 (nI a) f fp pl s line = some (nI (a + k), f, fp, pl, s, line') ∧ f_X12_readsPart_275 n0 now tp FU (nI k) gm 0 pm ft (nI a) nl = some (1, pm, ft, nI (a + k), nl') ∧ (∀ i : Nat, i < k → GR (line' (w + a + i)) (nl' (a + i))) ∧ (∀ q : Nat, q < w + a → line' q = line q) ∧ ∀ q : Nat, q < a → nl' q = nl q := by
  have hX : ∃ line', f_X4_readPart_163 e bt (nI w) FU (nI k) gx 0 (nI a) f fp pl s line = some (nI (a + k), f, fp, pl, s, line') ∧ (∀ i : Nat, i < k → line' (w + a + i) = gx) ∧ ∀ q : Nat, q < w + a → line' q = line q := by
    refine loop1 k (fun i (l : Nat → Int32) => (∀ j : Nat, j < i → l (w + a + j) = gx) ∧ ∀ q : Nat, q < w + a → l q = line q) (fun F i l => f_X4_readPart_163 e bt (nI w) F (nI k) gx (nI i) (nI (a + i)) f fp pl s l) (fun o => ∃ line', o = some (nI (a + k), f, fp, pl, s, line') ∧ (∀ i : Nat, i < k → line' (w + a + i) = gx) ∧ ∀ q : Nat, q < w + a → line' q = line q) ?_ ?_ k 0 line FU (by omega) (by unfold FU; omega) ⟨fun j hj => by omega, fun _ _ => rfl⟩
    · intro F l hl
      show ∃ line', f_X4_readPart_163 e bt (nI w) (F + 1) (nI k) gx (nI k) (nI (a + k)) f fp pl s l = _ ∧ _
      rw [f_X4_readPart_163, if_pos (nI_le (Nat.le_refl _) (by omega))]
      exact ⟨l, rfl, hl⟩
    · intro F i l hi hl ih
      show ∃ line', f_X4_readPart_163 e bt (nI w) (F + 1) (nI k) gx (nI i) (nI (a + i)) f fp pl s l = _ ∧ _
      rw [f_X4_readPart_163, if_neg (nI_ge (by omega) (by omega)), la, ixn (by omega) (by decide), nI_clamp (by omega), nI_1, nI_1]
      refine ih _ ⟨fun j hj => ?_, fun q hq => ?_⟩
      · by_cases z : j = i
        · rw [z, show w + a + i = w + (a + i) by omega, upd_s]
        · rw [upd_n (by omega)]; exact hl.1 j (by omega)
      · rw [upd_n (by omega)]; exact hl.2 q hq
  have hM : ∃ nl', f_X12_readsPart_275 n0 now tp FU (nI k) gm 0 pm ft (nI a) nl = some (1, pm, ft, nI (a + k), nl') ∧ (∀ i : Nat, i < k → nl' (a + i) = gm) ∧ ∀ q : Nat, q < a → nl' q = nl q := by
    refine loop1 k (fun i (l : Nat → Int32) => (∀ j : Nat, j < i → l (a + j) = gm) ∧ ∀ q : Nat, q < a → l q = nl q) (fun F i l => f_X12_readsPart_275 n0 now tp F (nI k) gm (nI i) pm ft (nI a) l) (fun o => ∃ nl', o = some (1, pm, ft, nI (a + k), nl') ∧ (∀ i : Nat, i < k → nl' (a + i) = gm) ∧ ∀ q : Nat, q < a → nl' q = nl q) ?_ ?_ k 0 nl FU (by omega) (by unfold FU; omega) ⟨fun j hj => by omega, fun _ _ => rfl⟩
    · intro F l hl
      show ∃ nl', f_X12_readsPart_275 n0 now tp (F + 1) (nI k) gm (nI k) pm ft (nI a) l = _ ∧ _
      rw [f_X12_readsPart_275, if_pos (nI_le (Nat.le_refl _) (by omega)), la]
      exact ⟨l, rfl, hl⟩
    · intro F i l hi hl ih
      show ∃ nl', f_X12_readsPart_275 n0 now tp (F + 1) (nI k) gm (nI i) pm ft (nI a) l = _ ∧ _
      rw [f_X12_readsPart_275, if_neg (nI_ge (by omega) (by omega)), la, ixn (by omega) (by decide), nI_clamp (by omega), nI_1]
      refine ih _ ⟨fun j hj => ?_, fun q hq => ?_⟩
      · by_cases z : j = i
        · rw [z, upd_s]
        · rw [upd_n (by omega)]; exact hl.1 j (by omega)
      · rw [upd_n (by omega)]; exact hl.2 q hq
  obtain ⟨line', x1, x2, x3⟩ := hX
  obtain ⟨nl', m1, m2, m3⟩ := hM
  exact ⟨line', nl', x1, m1, fun i hi => by rw [x2 i hi, m2 i hi]; exact g, x3, m3⟩
theorem lpEnd {bt tp now : Nat → Int32} (hb : ∀ k : Nat, k < 260 → bt k = tp k &&& 255) (hB : BY bt) {n w a k p0 p s f h c : Nat} (hn : n ≤ 260) (hnow : now 632 = nI w) (hw : w + a ≤ 200) (hk : 1 ≤ k) (hk9 : k ≤ 9) (hp0 : p0 < p) (hp : p ≤ n) (h1 : s < 3) (h2 : f < 16) (h3 : h < 10) (h4 : c < 2) (fp ft : Int32) (line nl : Nat → Int32) :
    LO w a line nl (f_X4_readPart_87 (nI n) bt (nI w) (nI p0) (nI k) (nI s) (nI f) (nI h) (nI c) (nI a) 0 fp (nI p) (sg bt n p) line) (f_X12_readsPart_217 (nI n) now tp (nI p0) (nI k) (nI (eM s f h c 0)) (nI p) ft (nI a) nl) bt n p0 fp ft := by
  have key : ∀ i p1 : Nat, i < 2 → p0 < p1 → p1 ≤ n → LO w a line nl (f_X4_readPart_106 (nI n) bt (nI w) (nI p0) (nI k) (nI s) (nI f) (nI h) (nI c) (nI i) (nI a) 0 fp (nI p1) (sg bt n p1) line) (f_X12_readsPart_244 (nI n) now tp (nI p0) (nI k) (nI (eM s f h c i)) (nI p1) ft (nI a) nl) bt n p0 fp ft := by
    intro i p1 hi hp1 hp1n
    unfold f_X4_readPart_106 f_X12_readsPart_244
    rw [la, la, lit_632, clamp_632, hnow, la, la]
    by_cases z : w + a + k ≤ 200
    · have z' : nI (w + a + k) ≤ (200 : Int32) := nI_le (b := 200) z (by decide)
      rw [if_pos z', if_pos z']
      unfold f_X4_readPart_134
      rw [hf0, bs, if_pos rfl, of_b h1 h2 h3 h4 hi, bs]
      obtain ⟨line', nl', e1, e2, e3, e4, e5⟩ := lpW z (gx := nI (eX s f h c i)) (gm := nI (eM s f h c i)) ⟨s, f, h, c, i, h1, h2, h3, h4, hi, rfl, rfl⟩ (nI n) bt tp now (nI n) 0 fp (nI p1) (sg bt n p1) (nI p1) ft line nl
      exact Or.inl ⟨k, p1, line', nl', e1, e2, hp1, hp1n, by omega, e3, e4, e5⟩
    · have z' : ¬ nI (w + a + k) ≤ (200 : Int32) := nI_ge (a := 200) (by omega) (by omega)
      rw [if_neg z', if_neg z', fa0, bs]
      unfold f_X4_readPart_134 f_X12_wrongAt
      rw [show f_X9_hasFault ((4 : Int32), nI p0).1 = some 1 from rfl, bs, bs, if_neg i10]
      exact Or.inr ⟨4, nI p0, nI p1, sg bt n p1, nI p1, by decide, rfl, rfl⟩
  unfold f_X4_readPart_87 f_X12_readsPart_217
  rw [pa0 hn p (by decide), here1 hb hn (by omega), bs]
  by_cases z : sg bt n p = 115
  · have hp' : p < n := by
      rcases sgC hB hn p with ⟨q, _⟩ | ⟨_, _, _, q⟩
      · rw [q] at z; exact absurd z (by decide)
      · exact q
    rw [if_pos z, if_pos z, bs, if_neg i10, nI_1, show nI (eM s f h c 0) + 960 = nI (eM s f h c 1) from by rw [show (960 : Int32) = nI 960 from rfl, la]; unfold eM; congr 1]
    exact key 1 (p + 1) (by decide) (by omega) (by omega)
  · rw [if_neg z, if_neg z, bs, if_pos rfl]
    exact key 0 p (by decide) hp0 hp
theorem side1 {c : Nat} (hc : c < 256) (K : Int32 → Option (Int32 × Int32 × Int32 × Int32 × (Nat → Int32))) : (wh 6 (nI c) = -1 ∧ (if nI c = 104 then K 0 else if nI c = 103 then K 1 else if nI c = 98 then K 2 else K (-1)) = K (-1)) ∨ ∃ s : Nat, s < 3 ∧ wh 6 (nI c) = nI s ∧ (if nI c = 104 then K 0 else if nI c = 103 then K 1 else if nI c = 98 then K 2 else K (-1)) = K (nI s) := by
  have e := (wh_b hc).2.1
  by_cases a : c = 104
  · rw [if_pos a] at e
    exact Or.inr ⟨0, by decide, e, by rw [a]; rfl⟩
  · rw [if_neg a] at e
    have a' : ¬ nI c = 104 := fun q => a ((nlit hc 104 (by decide)).mp q)
    by_cases b : c = 103
    · rw [if_pos b] at e
      exact Or.inr ⟨1, by decide, e, by rw [b]; rfl⟩
    · rw [if_neg b] at e
      have b' : ¬ nI c = 103 := fun q => b ((nlit hc 103 (by decide)).mp q)
      by_cases d : c = 98
      · rw [if_pos d] at e
        exact Or.inr ⟨2, by decide, e, by rw [d]; rfl⟩
      · rw [if_neg d] at e
        have d' : ¬ nI c = 98 := fun q => d ((nlit hc 98 (by decide)).mp q)
        exact Or.inl ⟨e, by rw [if_neg a', if_neg b', if_neg d']⟩
theorem fam1 {bt : Nat → Int32} (hB : BY bt) {n : Nat} (hn : n ≤ 260) (q : Nat) : (wh 7 (sg bt n q) = -1 ∧ f_X12_in (sg bt n q - 97) 0 15 = some 0) ∨ ∃ f : Nat, f < 16 ∧ wh 7 (sg bt n q) = nI f ∧ sg bt n q - 97 = nI f ∧ f_X12_in (sg bt n q - 97) 0 15 = some 1 ∧ q < n := by
  rcases sgC hB hn q with ⟨e, _⟩ | ⟨c, hc, e, hq⟩
  · rw [e]; exact Or.inl ⟨whm 7, by decide⟩
  · rw [e]
    have t := (wh_b hc).2.2.1
    by_cases a : c < 97
    · rw [if_neg (by omega)] at t
      refine Or.inl ⟨t, ?_⟩
      unfold f_X12_in
      rw [if_pos (show nI c - 97 < 0 from pk_sneg (b := 97) (by decide) a)]
    · have e2 : nI c - 97 = nI (c - 97) := pk_sub (b := 97) (by omega)
      rw [e2, show f_X12_in (nI (c - 97)) 0 15 = some (if 0 ≤ c - 97 ∧ c - 97 ≤ 15 then 1 else 0) from inN (c - 97) 0 15 (by omega) (by decide) (by decide)]
      by_cases b : c ≤ 112
      · rw [if_pos (by omega)] at t
        exact Or.inr ⟨c - 97, by omega, t, rfl, by rw [if_pos (by omega)], hq⟩
      · rw [if_neg (by omega)] at t
        exact Or.inl ⟨t, by rw [if_neg (by omega)]⟩
theorem dig1 {bt tp : Nat → Int32} (hb : ∀ k : Nat, k < 260 → bt k = tp k &&& 255) (hB : BY bt) {n : Nat} (hn : n ≤ 260) {q : Nat} (hq31 : q < 2 ^ 31) : (wh 8 (sg bt n q) = -1 ∧ f_X12_isDigit (nI q) (nI n) tp = some 0 ∧ f_X9_isDigit (sg bt n q) = some 0) ∨ ∃ h : Nat, h < 10 ∧ wh 8 (sg bt n q) = nI h ∧ sg bt n q = nI (48 + h) ∧ f_X12_isDigit (nI q) (nI n) tp = some 1 ∧ f_X9_isDigit (sg bt n q) = some 1 ∧ q < n := by
  have two : f_X12_isDigit (nI q) (nI n) tp = f_X9_isDigit (sg bt n q) := by
    unfold f_X12_isDigit f_X9_isDigit
    rw [here1 hb hn hq31, bs, bs]
  rw [two]
  rcases sgC hB hn q with ⟨e, _⟩ | ⟨c, hc, e, hq⟩
  · rw [e]; exact Or.inl ⟨whm 8, by decide, by decide⟩
  · rw [e]
    have t := (wh_b hc).2.2.2.1
    unfold f_X9_isDigit
    by_cases a : c < 48
    · rw [if_neg (by omega)] at t
      have : nI c < 48 := nI_lt (b := 48) a (by decide)
      exact Or.inl ⟨t, by rw [if_pos this], by rw [if_pos this]⟩
    · have a' : ¬ nI c < 48 := nI_nlt (b := 48) (by omega) (by omega)
      by_cases b : c ≤ 57
      · rw [if_pos (by omega)] at t
        have b' : ¬ 57 < nI c := nI_nlt (a := 57) b (by decide)
        exact Or.inr ⟨c - 48, by omega, t, by rw [show 48 + (c - 48) = c by omega], by rw [if_neg a', if_neg b'], by rw [if_neg a', if_neg b'], hq⟩
      · rw [if_neg (by omega)] at t
        have b' : 57 < nI c := nI_lt (a := 57) (by omega) (by omega)
        exact Or.inl ⟨t, by rw [if_neg a', if_pos b'], by rw [if_neg a', if_pos b']⟩
theorem nIm1 {f : Nat} (h : f < 256) : ¬ nI f = -1 := nI_nm1 (by omega)
theorem ldp1 {bt tp now : Nat → Int32} (hb : ∀ k : Nat, k < 260 → bt k = tp k &&& 255) (hB : BY bt) {n w a k p0 p : Nat} (hn : n ≤ 260) (hnow : now 632 = nI w) (hw : w + a ≤ 200) (hk : 1 ≤ k) (hk9 : k ≤ 9) (hp0 : p0 ≤ p) (hp : p ≤ n) (fp ft : Int32) (line nl : Nat → Int32) :
    LO w a line nl (f_X4_readPart_36 (nI n) bt (nI w) (nI p0) (nI k) (nI a) 0 fp (nI p) (sg bt n p) line) (f_X12_readsPart_39 (nI n) now tp (nI p0) (nI k) (nI p) ft (nI a) nl) bt n p0 fp ft := by
  have bad : ∀ (q pl : Nat) (s : Int32), LO w a line nl (some (nI a, 1, nI q, nI pl, s, line)) (some (0, nI q, (-1000) * 1 - nI q, nI a, nl)) bt n p0 fp ft := fun q pl s => Or.inr ⟨1, nI q, nI pl, s, nI q, by decide, rfl, rfl⟩
  have i1 : (1 : Int32) ≠ 0 := by decide
  unfold f_X4_readPart_36 f_X12_readsPart_39
  rw [ch0 hn, here1 hb hn (by omega), bs]
  have first : (wh 6 (sg bt n p) = -1 ∧ (if sg bt n p = 104 then f_X12_readsPart_75 (nI n) now tp (nI p0) (nI k) 0 (nI p) ft (nI a) nl else if sg bt n p = 103 then f_X12_readsPart_75 (nI n) now tp (nI p0) (nI k) 1 (nI p) ft (nI a) nl else if sg bt n p = 98 then f_X12_readsPart_75 (nI n) now tp (nI p0) (nI k) 2 (nI p) ft (nI a) nl else f_X12_readsPart_75 (nI n) now tp (nI p0) (nI k) (-1) (nI p) ft (nI a) nl) = f_X12_readsPart_75 (nI n) now tp (nI p0) (nI k) (-1) (nI p) ft (nI a) nl) ∨ ∃ s : Nat, s < 3 ∧ wh 6 (sg bt n p) = nI s ∧ p < n ∧ (if sg bt n p = 104 then f_X12_readsPart_75 (nI n) now tp (nI p0) (nI k) 0 (nI p) ft (nI a) nl else if sg bt n p = 103 then f_X12_readsPart_75 (nI n) now tp (nI p0) (nI k) 1 (nI p) ft (nI a) nl else if sg bt n p = 98 then f_X12_readsPart_75 (nI n) now tp (nI p0) (nI k) 2 (nI p) ft (nI a) nl else f_X12_readsPart_75 (nI n) now tp (nI p0) (nI k) (-1) (nI p) ft (nI a) nl) = f_X12_readsPart_75 (nI n) now tp (nI p0) (nI k) (nI s) (nI p) ft (nI a) nl := by
    rcases sgC hB hn p with ⟨e, _⟩ | ⟨c, hc, e, hq⟩
    · rw [e]; exact Or.inl ⟨whm 6, rfl⟩
    · rw [e]
      rcases side1 hc (fun y => f_X12_readsPart_75 (nI n) now tp (nI p0) (nI k) y (nI p) ft (nI a) nl) with ⟨q1, q2⟩ | ⟨s, q1, q2, q3⟩
      · exact Or.inl ⟨q1, q2⟩
      · exact Or.inr ⟨s, q1, q2, hq, q3⟩
  rcases first with ⟨q1, q2⟩ | ⟨s, s3, q1, hpn, q2⟩
  · rw [q2, if_pos q1, bs]
    unfold f_X12_readsPart_75 f_X12_wrongAt
    rw [if_pos rfl, bs, chN i1, bs, chN i1, bs, paN i1, bs, if_pos rfl, lp87 i1]
    exact bad _ _ _
  · rw [q2, q1, if_neg (nIm1 (by omega)), bs]
    unfold f_X12_readsPart_75
    rw [if_neg (nIm1 (by omega)), nI_1, here1 hb hn (by omega), bs, ch0 hn]
    rcases fam1 hB hn (p + 1) with ⟨f1, f2⟩ | ⟨f, hf, f1, f2, f3, hpn2⟩
    · rw [f1, f2, if_pos rfl, bs, bs, if_pos rfl, chN i1, bs, paN i1, bs, if_pos rfl, lp87 i1]
      exact bad _ _ _
    · rw [f1, f3, if_neg (nIm1 (by omega)), bs, bs, if_neg i10, nI_1, f2, ch0 hn]
      rcases dig1 hb hB hn (q := p + 1 + 1) (by omega) with ⟨d1, d2, _⟩ | ⟨h, hh, d1, d2, d3, _, hpn3⟩
      · rw [d1, d2, if_pos rfl, bs, bs, if_pos rfl, paN i1, bs, if_pos rfl, lp87 i1]
        exact bad _ _ _
      · rw [d1, d3, if_neg (nIm1 (by omega)), bs, bs, if_neg i10, here1 hb hn (by omega), bs, nI_1, here1 hb hn (by omega), bs, d2, show nI (48 + h) - 48 = nI h from by rw [show (48 : Int32) = nI 48 from rfl, pk_sub (by omega), Nat.add_sub_cancel_left], pa0 hn _ (by decide)]
        have v : nI s + 3 * nI f + 48 * nI h = nI (eM s f h 0 0) := by
          rw [show (3 : Int32) * nI f = nI (3 * f) from lm 3 f, show (48 : Int32) * nI h = nI (48 * h) from lm 48 h, la, la]
          rfl
        have v1 : nI (eM s f h 0 0) + 480 = nI (eM s f h 1 0) := by
          rw [show (480 : Int32) = nI 480 from rfl, la]
          unfold eM
          congr 1
        rw [v]
        by_cases z : sg bt n (p + 1 + 1 + 1) = 99
        · have hp4 : p + 1 + 1 + 1 < n := by
            rcases sgC hB hn (p + 1 + 1 + 1) with ⟨q, _⟩ | ⟨_, _, _, q⟩
            · rw [q] at z; exact absurd z (by decide)
            · exact q
          rw [if_pos z, if_pos z, bs, if_neg i10, nI_1, v1]
          exact lpEnd hb hB hn hnow hw hk hk9 (by omega) (by omega) s3 hf hh (by decide) fp ft line nl
        · rw [if_neg z, if_neg z, bs, if_pos rfl]
          exact lpEnd (c := 0) hb hB hn hnow hw hk hk9 (by omega) (by omega) s3 hf hh (by decide) fp ft line nl
theorem ldp0 {bt tp now : Nat → Int32} (hb : ∀ k : Nat, k < 260 → bt k = tp k &&& 255) (hB : BY bt) {n w a p : Nat} (hn : n ≤ 260) (hnow : now 632 = nI w) (hw : w + a ≤ 200) (hp : p ≤ n) (fp ft : Int32) (line nl : Nat → Int32) :
    LO w a line nl (f_X4_readPart (nI a) (nI n) 0 fp (nI p) (sg bt n p) bt (nI w) line) (f_X12_readsPart (nI p) (nI n) ft (nI a) now tp nl) bt n p fp ft := by
  unfold f_X4_readPart f_X12_readsPart
  rw [wh0, bs, here1 hb hn (by omega), bs, bs, ch0 hn]
  rcases sgC hB hn p with ⟨e, _⟩ | ⟨c, hc, e, hq⟩
  · rw [e, whm, if_pos rfl, show f_X12_in (-1) 50 57 = some 0 from by decide, bs, if_pos rfl]
    have := ldp1 hb hB hn hnow hw (k := 1) (by decide) (by decide) (Nat.le_refl p) hp fp ft line nl
    rw [e] at this
    exact this
  · have t := (wh_b hc).1
    rw [e, show f_X12_in (nI c) 50 57 = _ from inN c 50 57 hc (by decide) (by decide), bs]
    by_cases z : 50 ≤ c ∧ c ≤ 57
    · rw [if_pos z] at t
      rw [t, if_neg (nIm1 (by omega)), if_neg (nIm1 (by omega)), bs, if_pos z, if_neg i10, nI_1, show (2 : Int32) + nI (c - 50) = nI (c - 48) from by rw [show (2 : Int32) = nI 2 from rfl, la, show 2 + (c - 50) = c - 48 by omega], show nI c - 48 = nI (c - 48) from pk_sub (b := 48) (by omega)]
      exact ldp1 hb hB hn hnow hw (by omega) (by omega) (by omega) (by omega) fp ft line nl
    · rw [if_neg z] at t
      rw [t, if_pos rfl, if_neg z, if_pos rfl]
      have := ldp1 hb hB hn hnow hw (k := 1) (by decide) (by decide) (Nat.le_refl p) hp fp ft line nl
      rw [e] at this
      exact this
