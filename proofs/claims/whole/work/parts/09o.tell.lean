/-- what the row says in the end -/
def htp : List Bool → Bool
  | [] => true
  | b :: _ => b
theorem htp_i {s : List Bool} (h : s.length ≤ 60) : lg_cmp (lI ((enc s : Nat) : Int) &&& lI 1) (lI 1) = iI (if htp s = true then 0 else -1) := by
  have hb := enc_62 h
  have e : lI 1 = lI ((1 : Nat) : Int) := rfl
  rw [e, lN_and (by omega) (by decide), Nat.and_one_is_mod]
  cases s with
  | nil => decide
  | cons b t =>
    have m : enc (b :: t) % 2 = b.toNat := by
      have := Bool.toNat_le b
      show (2 * enc t + b.toNat) % 2 = b.toNat
      omega
    rw [m]
    show lg_cmp _ _ = iI (if b = true then 0 else -1)
    cases b <;> decide
theorem hok_l {I : Nat → Int → Int} : ∀ (n : Nat) (i : Int) (s : List Bool), hok I n i s.length → (hrn I n i s).length ≤ 58
  | 0, _, _, h => h
  | n + 1, i, s, h => by
    obtain ⟨hk, h⟩ := h
    show (hrn I n (i + 1) (hst I (I 13 i) s)).length ≤ 58
    refine hok_l n (i + 1) _ ?_
    rcases h with ⟨hp, hs, h⟩ | ⟨hp, hs, h⟩ | ⟨hp, h⟩
    · match s, hs, h with
      | b :: t, _, h => rw [hp]; exact h
    · match s, hs, h with
      | b :: a :: t, _, h => rcases hp with hp | hp <;> (rw [hp]; exact h)
    · have hr := isC_rg hp
      unfold hst
      rw [if_neg (by omega), if_neg (by omega), if_neg (by omega)]
      exact h
