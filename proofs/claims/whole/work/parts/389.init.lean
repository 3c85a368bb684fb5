/-! the start -/
theorem ini_eq : ∀ (n : Nat), n ≤ 144 → ∀ k : Nat, iniNow n k = if k < n ∨ (288 ≤ k ∧ k < 288 + n) then -1 else if k = 636 then 1 else 0
  | 0, _, k => by
    show upd (fun _ => 0) (nI 636).toNatClampNeg 1 k = _
    rw [nI_clamp (by decide), if_neg (by omega)]
    by_cases c : k = 636
    · rw [c, upd_s, if_pos rfl]
    · rw [upd_n c, if_neg c]
  | n + 1, h, k => by
    show upd (upd (iniNow n) ((0 : Int32) + nI n).toNatClampNeg (-1)) ((288 : Int32) + nI n).toNatClampNeg (-1) k = _
    rw [Int32.zero_add, nI_clamp (by omega), show (288 : Int32) + nI n = nI (288 + n) from la 288 n, nI_clamp (by omega)]
    by_cases c : k = 288 + n
    · rw [c, upd_s, if_pos (by omega)]
    · rw [upd_n c]
      by_cases d : k = n
      · rw [d, upd_s, if_pos (by omega)]
      · rw [upd_n d, ini_eq n (by omega) k]
        by_cases e : k < n ∨ (288 ≤ k ∧ k < 288 + n)
        · rw [if_pos e, if_pos (by omega)]
        · rw [if_neg e, if_neg (show ¬ (k < n + 1 ∨ (288 ≤ k ∧ k < 288 + (n + 1))) by omega)]
theorem pm_init : Inv XA0 XI0 MA0 MI0 := by
  have q : ∀ k : Nat, MA0 0 k = if k < 144 ∨ (288 ≤ k ∧ k < 288 + 144) then -1 else if k = 636 then 1 else 0 := ini_eq 144 (Nat.le_refl _)
  refine ⟨⟨⟨0, by decide, rfl, rfl⟩, fun k _ => ?_⟩, ⟨fun k hk => ?_, fun k hk => ?_, fun k hk => ?_, ⟨0, by decide, rfl, ?_, fun k hk => absurd hk (Nat.not_lt_zero k)⟩, ?_, ?_, ?_, ?_⟩, rfl, Or.inl rfl, ⟨0, by decide, rfl, rfl, fun q hq => absurd hq (Nat.not_lt_zero q)⟩⟩
  · show (0 : Int32) = 0 &&& 255
    decide
  · refine Or.inl ⟨?_, ?_⟩
    · show (if k < 144 then (-1 : Int32) else 0) = -1
      rw [if_pos hk]
    · rw [q, if_pos (Or.inl hk)]
  · rw [q, if_neg (by omega), if_neg (by omega)]; rfl
  · rw [q, if_pos (Or.inr (by omega))]
    show (if k < 144 then (-1 : Int32) else 0) = -1
    rw [if_pos hk]
  · rw [q]; rfl
  · rw [q]; rfl
  · rw [q]; rfl
  · rw [q]; rfl
  · rw [q]; rfl
