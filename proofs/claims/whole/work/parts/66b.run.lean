/-! THE CONSTRUCTORS, computed: runs and calls -/
def r_x (S : Nat → List Value → rM → rR) (J : Nat → List Value → List Value → rM → rR) : List Instr → List Value → List Value → rM → rR
  | [], _, _, _ => none
  | i :: is, ls, st, c => match i with
    | .goto t => J t.toNat ls st c
    | .jsr t => J t.toNat ls st c
    | .if_icmp cc t => match st with
      | .int y :: .int x :: r => if e_c cc x y then J t.toNat ls r c else r_x S J is ls r c
      | _ => none
    | .return_ => match st with
      | [] => some ([], c)
      | _ => none
    | .invokeinterface k n => if decide (n ≤ st.length) && e_lo (st.drop n) then (match S k (st.take n).reverse c with
      | some (r, c') => r_x S J is ls (r ++ st.drop n) c'
      | none => none) else none
    | i => match r_st i ls st c with
      | some (ls', st', c') => r_x S J is ls' st' c'
      | none => none
def r_run (S : Nat → List Value → rM → rR) (k : Nat) : Nat → Nat → List Value → List Value → rM → rR
  | 0, _, _, _, _ => none
  | n + 1, lab, ls, st, c => r_x S (r_run S k n) (g_P k lab) ls st c
def r_S (N : Nat) : Nat → Nat → List Value → rM → rR
  | 0, _, _, _ => none
  | d + 1, k, as, c => if e_rq k as (al c) then r_run (r_S N d) k N 0 (e_ent (g_mx k) as) [] c else none
theorem r_x_s {X : e_X} {S : Nat → List Value → rM → rR} {J : Nat → List Value → List Value → rM → rR} {S' : Nat → List Value → e_M → e_R} {J' : Nat → List Value → List Value → e_M → e_R} (hS : ∀ k as c r c', S k as c = some (r, c') → S' k as (al c) = some (r, al c')) (hJ : ∀ t a b c r c', J t a b c = some (r, c') → J' t a b (al c) = some (r, al c')) : ∀ (is : List Instr) (ls st : List Value) (c : rM) (r : List Value) (c' : rM), r_x S J is ls st c = some (r, c') → e_x X S' J' is ls st (al c) = some (r, al c') := by
  intro is
  induction is with
  | nil => intro ls st c r c' h; cases h
  | cons i is ih =>
    intro ls st c r c' h
    unfold r_x at h
    split at h
    · exact hJ _ _ _ _ _ _ h
    · exact hJ _ _ _ _ _ _ h
    · split at h
      · split at h
        · rename_i q
          unfold e_x
          dsimp only
          rw [if_pos q]
          exact hJ _ _ _ _ _ _ h
        · rename_i q
          unfold e_x
          dsimp only
          rw [if_neg q]
          exact ih _ _ _ _ _ h
      · cases h
    · split at h
      · cases h
        rfl
      · cases h
    · split at h
      · rename_i q
        split at h
        · rename_i q2
          unfold e_x
          dsimp only
          rw [if_pos q, hS _ _ _ _ _ q2]
          exact ih _ _ _ _ _ h
        · cases h
      · cases h
    · split at h
      · rename_i n1 n2 n3 n4 n5 _ ls' st' c1 q
        have e := r_st_s (X := X) q
        unfold e_x
        split
        · exact absurd rfl (n1 _)
        · exact absurd rfl (n2 _)
        · cases q
        · exact absurd rfl (n3 _ _)
        · cases q
        · cases q
        · cases q
        · cases q
        · cases q
        · cases q
        · exact absurd rfl n4
        · exact absurd rfl (n5 _ _)
        · rw [e]
          exact ih _ _ _ _ _ h
      · cases h
theorem r_run_s {X : e_X} {S : Nat → List Value → rM → rR} {S' : Nat → List Value → e_M → e_R} (hS : ∀ k as c r c', S k as c = some (r, c') → S' k as (al c) = some (r, al c')) {k : Nat} : ∀ (n lab : Nat) (ls st : List Value) (c : rM) (r : List Value) (c' : rM), r_run S k n lab ls st c = some (r, c') → e_go g_P X S' k lab ls st (al c) = some (r, al c')
  | 0, _, _, _, _, _, _, h => by cases h
  | n + 1, lab, ls, st, c, r, c', h => by
    rw [e_go_eq]
    exact r_x_s hS (fun t a b c r c' h => r_run_s hS n t a b c r c' h) _ _ _ _ _ _ h
theorem r_S_s {X : e_X} {N : Nat} : ∀ (d k : Nat) (as : List Value) (c : rM) (r : List Value) (c' : rM), r_S N d k as c = some (r, c') → s_S X d k as (al c) = some (r, al c')
  | 0, _, _, _, _, _, h => by cases h
  | d + 1, k, as, c, r, c', h => by
    unfold r_S at h
    split at h
    · rename_i q
      show e_S g_P g_mx e_rq X (d + 1) k as (al c) = _
      rw [e_S, if_pos q]
      exact r_run_s (fun k as c r c' h => r_S_s d k as c r c' h) _ _ _ _ _ _ _ h
    · cases h
theorem x_newr {X : e_X} {d k q : Nat} {is : List Instr} {ls st : List Value} {c : rM} (h : fre c = true) : s_x X d k (.new q :: is) ls st (al c) = s_x X d k is ls (.ref c.1.length :: st) (al (c.1 ++ [(q, e_nf q)], c.2)) := by
  have e : r_st (.new q) ls st c = some (ls, .ref c.1.length :: st, c.1 ++ [(q, e_nf q)], c.2) := by
    show (if fre c = true then _ else _) = _
    rw [if_pos h]
  show (match e_st X (.new q) ls st (al c) with | some (a, b, m) => s_x X d k is a b m | none => none) = _
  rw [r_st_s e]
