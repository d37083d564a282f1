/-! RUNNING: blocks by fuel, its limit, calls by depth -/
section
variable (P : Nat → Nat → List Instr) (mx : Nat → Nat) (rc : Nat → List Value → e_M → Bool)
def e_run (X : e_X) (S : Nat → List Value → e_M → e_R) (c : Nat) : Nat → Nat → List Value → List Value → e_M → e_R
  | 0, _, _, _, _ => none
  | n + 1, lab, ls, st, m => e_x X S (e_run X S c n) (P c lab) ls st m
noncomputable def e_lim {α : Type} (f : Nat → Option α) : Option α := @dite _ (∃ n r, f n = some r) (Classical.propDecidable _) (fun h => f h.choose) (fun _ => none)
noncomputable def e_go (X : e_X) (S : Nat → List Value → e_M → e_R) (c lab : Nat) (ls st : List Value) (m : e_M) : e_R := e_lim fun n => e_run P X S c n lab ls st m
noncomputable def e_S (X : e_X) : Nat → Nat → List Value → e_M → e_R
  | 0, _, _, _ => none
  | d + 1, c, as, m => if rc c as m then e_go P X (e_S X d) c 0 (e_ent (mx c) as) [] m else none
/-- the same with fuel, to be computed -/
def e_F (X : e_X) (N : Nat) : Nat → Nat → List Value → e_M → e_R
  | 0, _, _, _ => none
  | d + 1, c, as, m => if rc c as m then e_run P X (e_F X N d) c N 0 (e_ent (mx c) as) [] m else none
end
/-- what a jump gives counts at one place at most -/
theorem e_sw_J {J : Nat → e_R} {d : Int} {x : Int32} : ∀ {ps : List (Int × Int)} {r}, e_sw J d ps x = some r → ∃ t, J t = some r ∧ ∀ J' : Nat → e_R, J' t = some r → e_sw J' d ps x = some r
  | [], r, h => ⟨d.toNat, h, fun _ h' => h'⟩
  | (a, t) :: ps, r, h => by
    unfold e_sw at h
    by_cases hc : x.toInt = a
    · rw [if_pos hc] at h
      exact ⟨t.toNat, h, fun J' h' => by unfold e_sw; rw [if_pos hc]; exact h'⟩
    · rw [if_neg hc] at h
      obtain ⟨t', h1, h2⟩ := e_sw_J h
      exact ⟨t', h1, fun J' h' => by unfold e_sw; rw [if_neg hc]; exact h2 J' h'⟩
theorem e_x_J {X : e_X} {S : Nat → List Value → e_M → e_R} {J : Nat → List Value → List Value → e_M → e_R} : ∀ (is : List Instr) (ls st : List Value) (m : e_M) (r : List Value × e_M), e_x X S J is ls st m = some r →
    (∃ t a b q, J t a b q = some r ∧ ∀ J' : Nat → List Value → List Value → e_M → e_R, J' t a b q = some r → e_x X S J' is ls st m = some r) ∨ ∀ J', e_x X S J' is ls st m = some r := by
  intro is
  induction is with
  | nil => intro ls st m r h; simp [e_x] at h
  | cons i is ih =>
    intro ls st m r h
    unfold e_x at h
    split at h
    · exact Or.inl ⟨_, _, _, _, h, fun J' h' => by unfold e_x; exact h'⟩
    · exact Or.inl ⟨_, _, _, _, h, fun J' h' => by unfold e_x; exact h'⟩
    · split at h
      · split at h
        · rename_i hc
          exact Or.inl ⟨_, _, _, _, h, fun J' h' => by unfold e_x; dsimp only; rw [if_pos hc]; exact h'⟩
        · rename_i hc
          rcases ih _ _ _ _ h with ⟨t, a, b, q, h1, h2⟩ | h2
          · exact Or.inl ⟨t, a, b, q, h1, fun J' h' => by unfold e_x; dsimp only; rw [if_neg hc]; exact h2 J' h'⟩
          · exact Or.inr fun J' => by unfold e_x; dsimp only; rw [if_neg hc]; exact h2 J'
      · cases h
    · split at h
      · split at h
        · rename_i hc
          exact Or.inl ⟨_, _, _, _, h, fun J' h' => by unfold e_x; dsimp only; rw [if_pos hc]; exact h'⟩
        · rename_i hc
          rcases ih _ _ _ _ h with ⟨t, a, b, q, h1, h2⟩ | h2
          · exact Or.inl ⟨t, a, b, q, h1, fun J' h' => by unfold e_x; dsimp only; rw [if_neg hc]; exact h2 J' h'⟩
          · exact Or.inr fun J' => by unfold e_x; dsimp only; rw [if_neg hc]; exact h2 J'
      · cases h
    · split at h
      · obtain ⟨t, h1, h2⟩ := e_sw_J h
        exact Or.inl ⟨t, _, _, _, h1, fun J' h' => by unfold e_x; exact h2 _ h'⟩
      · cases h
    · split at h
      · exact Or.inr fun J' => by unfold e_x; exact h
      · cases h
    · split at h
      · exact Or.inr fun J' => by unfold e_x; exact h
      · cases h
    · split at h
      · exact Or.inr fun J' => by unfold e_x; exact h
      · cases h
    · split at h
      · exact Or.inr fun J' => by unfold e_x; exact h
      · cases h
    · split at h
      · exact Or.inr fun J' => by unfold e_x; exact h
      · cases h
    · split at h
      · exact Or.inr fun J' => by unfold e_x; exact h
      · cases h
    · split at h
      · rename_i hc
        split at h
        · rename_i r' m' hs
          rcases ih _ _ _ _ h with ⟨t, a, b, q, h1, h2⟩ | h2
          · exact Or.inl ⟨t, a, b, q, h1, fun J' h' => by unfold e_x; dsimp only; rw [if_pos hc, hs]; exact h2 J' h'⟩
          · exact Or.inr fun J' => by unfold e_x; dsimp only; rw [if_pos hc, hs]; exact h2 J'
        · cases h
      · cases h
    · rename_i n1 n1b n2 n3 n4 n5 n5a n5b n5c n6 n7 n8
      split at h
      · rename_i ls' st' m' hs
        have key : ∀ J', e_x X S J' (i :: is) ls st m = e_x X S J' is ls' st' m' := by
          intro J'
          conv => lhs; unfold e_x
          split
          · exact absurd rfl (n1 _)
          · exact absurd rfl (n1b _)
          · exact absurd rfl (n2 _ _)
          · exact absurd rfl (n3 _ _)
          · exact absurd rfl (n4 _ _)
          · exact absurd rfl n5
          · exact absurd rfl n5a
          · exact absurd rfl n5b
          · exact absurd rfl n5c
          · exact absurd rfl n6
          · exact absurd rfl n7
          · exact absurd rfl (n8 _ _)
          · rw [hs]
        rcases ih _ _ _ _ h with ⟨t, a, b, q, h1, h2⟩ | h2
        · exact Or.inl ⟨t, a, b, q, h1, fun J' h' => by rw [key]; exact h2 J' h'⟩
        · exact Or.inr fun J' => by rw [key]; exact h2 J'
      · cases h
section
variable {P : Nat → Nat → List Instr} {mx : Nat → Nat} {X : e_X}
theorem e_x_mono {S : Nat → List Value → e_M → e_R} {J J' : Nat → List Value → List Value → e_M → e_R} (hJ : ∀ t a b q r, J t a b q = some r → J' t a b q = some r) {is ls st m r} (h : e_x X S J is ls st m = some r) : e_x X S J' is ls st m = some r := by
  rcases e_x_J is ls st m r h with ⟨t, a, b, q, h1, h2⟩ | h2
  · exact h2 J' (hJ _ _ _ _ _ h1)
  · exact h2 J'
theorem e_run_mono {S : Nat → List Value → e_M → e_R} {c : Nat} : ∀ (n k lab : Nat) (ls st : List Value) (m : e_M) r, n ≤ k → e_run P X S c n lab ls st m = some r → e_run P X S c k lab ls st m = some r
  | 0, _, _, _, _, _, _, _, h => by cases h
  | n + 1, 0, _, _, _, _, _, hk, _ => by omega
  | n + 1, k + 1, lab, ls, st, m, r, hk, h => by
    unfold e_run at h ⊢
    exact e_x_mono (fun t a b q r' h' => e_run_mono n k t a b q r' (by omega) h') h
theorem e_lim_some {α : Type} {f : Nat → Option α} (hm : ∀ n k r, n ≤ k → f n = some r → f k = some r) {r : α} : e_lim f = some r ↔ ∃ n, f n = some r := by
  constructor
  · intro h
    unfold e_lim at h
    by_cases hc : ∃ n r, f n = some r
    · rw [dif_pos hc] at h
      exact ⟨_, h⟩
    · rw [dif_neg hc] at h
      cases h
  · intro ⟨n, h⟩
    have hc : ∃ n r, f n = some r := ⟨n, r, h⟩
    unfold e_lim
    rw [dif_pos hc]
    obtain ⟨r', hr'⟩ := hc.choose_spec
    rw [hr']
    have h1 := hm n (max n hc.choose) r (by omega) h
    have h2 := hm hc.choose (max n hc.choose) r' (by omega) hr'
    rw [h1] at h2
    exact h2.symm
theorem e_go_some {S : Nat → List Value → e_M → e_R} {c lab : Nat} {ls st : List Value} {m : e_M} {r} : e_go P X S c lab ls st m = some r ↔ ∃ n, e_run P X S c n lab ls st m = some r :=
  e_lim_some (fun n k r hk h => e_run_mono n k lab ls st m r hk h)
/-- a block, then what its jumps give -/
theorem e_go_eq (S : Nat → List Value → e_M → e_R) (c lab : Nat) (ls st : List Value) (m : e_M) : e_go P X S c lab ls st m = e_x X S (e_go P X S c) (P c lab) ls st m := by
  apply Option.ext
  intro r
  constructor
  · intro h
    obtain ⟨n, hn⟩ := e_go_some.mp h
    cases n with
    | zero => cases hn
    | succ n =>
      unfold e_run at hn
      exact e_x_mono (fun t a b q r' h' => e_go_some.mpr ⟨n, h'⟩) hn
  · intro h
    rcases e_x_J _ _ _ _ _ h with ⟨t, a, b, q, h1, h2⟩ | h2
    · obtain ⟨n, hn⟩ := e_go_some.mp h1
      exact e_go_some.mpr ⟨n + 1, by unfold e_run; exact h2 _ hn⟩
    · exact e_go_some.mpr ⟨1, by unfold e_run; exact h2 _⟩
end
