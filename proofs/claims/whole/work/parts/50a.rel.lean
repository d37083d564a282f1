/-! THE RELATION of class and model -/
def RC (T : Nat → Int → Int) (S : Int → Int) : Prop := S 0 = T 1 11 ∧ S 2 = T 1 13 ∧ S 3 = T 1 14 ∧ S 4 = T 1 15 ∧ S 5 = T 1 16 ∧ ∀ k, 0 ≤ k → k < T 1 9 → S (38 + 6 * k + 4) = bt (T 1 10) k
def TB (T : Nat → Int → Int) (S : Int → Int) : Prop := inv T ∧ rok T ∧ rpk T ∧ RE T S ∧ RR T S ∧ RP T S ∧ RC T S
def shf (I : Nat → Int → Int) : Nat → Int → Int := fun o => I (o + 19)
def TK (I : Nat → Int → Int) : Prop := (I 0 2 = 0 ∨ I 0 2 = 1) ∧ I 69 3 = I 0 2 ∧ (I 0 2 = 1 → TB (shf I) (I 71))
def TP (I : Nat → Int → Int) : Prop := (0 ≤ I 39 2 ∧ I 39 2 ≤ 200) ∧ I 69 6 = I 39 2 ∧ ∀ i, 0 ≤ i → i < I 39 2 → I 46 i = I 74 i ∧ 0 ≤ I 46 i ∧ I 46 i ≤ 255
def RW (I : Nat → Int → Int) : Prop := (0 ≤ I 51 2 ∧ I 51 2 ≤ 4) ∧ I 69 29 = I 51 2 ∧ (∀ i, rg (I 52 i) ∧ rg (I 83 i)) ∧ ∀ i, 0 ≤ i → i < 3 * I 51 2 → I 52 i = I 83 i
def SH (I J : Nat → Int → Int) : Prop := ∀ q : Nat, q < 4 → (-1 ≤ I (57 + 2 * q) 1 ∧ I (57 + 2 * q) 1 ≤ 4) ∧ (0 ≤ I (57 + 2 * q) 2 ∧ I (57 + 2 * q) 2 ≤ 40) ∧ I 84 q = I (57 + 2 * q) 1 ∧ I 85 q = I (57 + 2 * q) 2 ∧ ∀ j, 0 ≤ j → j < 40 → J (58 + 2 * q) j = I 86 (40 * q + j) ∧ rg (I 86 (40 * q + j))
def SF (I : Nat → Int → Int) : Prop := ∀ q : Nat, q < 4 → (I (65 + q) 0 = 0 ∧ I 87 q = 0 ∧ I 88 q = I (65 + q) 1 ∧ 0 ≤ I (65 + q) 1 ∧ I (65 + q) 1 ≤ 5) ∨ (I (65 + q) 0 = 1 ∧ (0 ≤ I (65 + q) 2 ∧ I (65 + q) 2 ≤ 4) ∧ I 87 q = 10 + I (65 + q) 2 ∧ I 88 q = I (65 + q) 3 ∧ 0 ≤ I (65 + q) 3 ∧ I (65 + q) 3 ≤ 40) ∨ (I (65 + q) 0 = 2 ∧ I 87 q = -1)
def TR (I : Nat → Int → Int) : Prop := (0 ≤ I 55 1 ∧ I 55 1 ≤ 30) ∧ I 69 36 = I 55 1 ∧ ∀ j, 0 ≤ j → j < I 55 1 → I 56 j = I 89 j
def ltr : List Int := [112, 108, 97, 116, 101, 32, 32, 32, 100, 105, 115, 104, 32, 32, 32, 32, 116, 117, 114, 101, 101, 110, 32, 32, 98, 111, 97, 116, 32, 32, 32, 32, 115, 97, 117, 99, 101, 114, 32, 32, 99, 114, 97, 99, 107, 101, 100, 32, 115, 105, 116, 32, 32, 32, 32, 32, 115, 116, 97, 110, 100, 32, 32, 32, 108, 101, 97, 118, 101, 32, 32, 32, 105, 102, 32, 32, 32, 32, 32, 32, 110, 111, 116, 32, 32, 32, 32, 32, 97, 110, 100, 32, 32, 32, 32, 32, 111, 114, 32, 32, 32, 32, 32, 32, 121, 101, 97, 114, 32, 32, 32, 32, 119, 105, 100, 116, 104, 32, 32, 32, 103, 114, 117, 100, 103, 101, 32, 32, 109, 111, 111, 100, 32, 32, 32, 32, 110, 117, 109, 98, 101, 114, 32, 32]
def LT (I : Nat → Int → Int) : Prop := ∀ k : Nat, k < 144 → I 75 k = ltr.getD k 0
def Rel (I J : Nat → Int → Int) : Prop := TB I (I 70) ∧ TK I ∧ TP I ∧ RW I ∧ SH I J ∧ SF I ∧ TR I ∧ LT I
/-- the cells that Rel doesn't speak of -/
def scr (o : Nat) (k : Int) : Prop := o = 14 ∨ o = 33 ∨ (o = 39 ∧ k ≠ 2) ∨ (40 ≤ o ∧ o ≤ 45) ∨ (47 ≤ o ∧ o ≤ 50) ∨ (o = 51 ∧ k ≠ 2) ∨ (o = 55 ∧ k ≠ 1) ∨ (o = 69 ∧ k ≠ 3 ∧ k ≠ 6 ∧ k ≠ 29 ∧ k ≠ 36) ∨ o = 72 ∨ o = 73 ∨ (76 ≤ o ∧ o ≤ 82)
def kp (I I' : Nat → Int → Int) : Prop := ∀ o k, ¬ scr o k → I' o k = I o k
theorem kp_rfl (I : Nat → Int → Int) : kp I I := fun _ _ _ => rfl
theorem kp_tr {I I' I'' : Nat → Int → Int} (h : kp I I') (h' : kp I' I'') : kp I I'' := fun o k v => (h' o k v).trans (h o k v)
section
variable {I I' J J' T T' : Nat → Int → Int} {S S' : Int → Int}
theorem TB_eq (h1 : ∀ o, 1 ≤ o → o ≤ 13 → T' o = T o) (h2 : ∀ o, 15 ≤ o → o ≤ 19 → T' o = T o) (hS : S' = S) (h : TB T S) : TB T' S' := by
  subst hS
  have e1 := h1 1 (by decide) (by decide)
  have e2 := h1 2 (by decide) (by decide)
  have e3 := h1 3 (by decide) (by decide)
  have e4 := h1 4 (by decide) (by decide)
  have e5 := h1 5 (by decide) (by decide)
  have e6 := h1 6 (by decide) (by decide)
  have e7 := h1 7 (by decide) (by decide)
  have e8 := h1 8 (by decide) (by decide)
  have e9 := h1 9 (by decide) (by decide)
  have e10 := h1 10 (by decide) (by decide)
  have e11 := h1 11 (by decide) (by decide)
  have e12 := h1 12 (by decide) (by decide)
  have e13 := h1 13 (by decide) (by decide)
  have e15 := h2 15 (by decide) (by decide)
  have e16 := h2 16 (by decide) (by decide)
  have e17 := h2 17 (by decide) (by decide)
  have e18 := h2 18 (by decide) (by decide)
  have e19 := h2 19 (by decide) (by decide)
  obtain ⟨a1, a2, a3, a4, a5, a6, a7⟩ := h
  refine ⟨?_, rok_eq (by rw [e9]) e10 e11 e12 e13 a2, ?_, ?_, RR_eq (by rw [e9]) e10 e11 e12 e13 rfl (fun _ _ => rfl) a5, ?_, ?_⟩
  · unfold inv
    rw [e1, e2, e3, e4, e5, e6, e7, e8]
    exact a1
  · unfold rpk
    rw [e15, e16, e17, e18, e19]
    exact a3
  · unfold RE
    rw [e1, e2, e3, e4, e5, e6, e7, e8]
    exact a4
  · unfold RP
    rw [e15, e16, e17, e18, e19]
    exact a6
  · unfold RC
    rw [e1]
    exact a7
theorem TK_eq (h : ∀ o k, ((o = 0 ∧ k = 2) ∨ (20 ≤ o ∧ o ≤ 32) ∨ (34 ≤ o ∧ o ≤ 38) ∨ (o = 69 ∧ k = 3) ∨ o = 71) → I' o k = I o k) (hk : TK I) : TK I' := by
  obtain ⟨k1, k2, k3⟩ := hk
  unfold TK
  rw [h 0 2 (by omega), h 69 3 (by omega)]
  refine ⟨k1, k2, fun q => TB_eq (fun o h0 h1 => ?_) (fun o h0 h1 => ?_) ?_ (k3 q)⟩
  · funext k
    exact h (o + 19) k (by omega)
  · funext k
    exact h (o + 19) k (by omega)
  · funext k
    exact h 71 k (by omega)
theorem TP_eq (h : ∀ o k, ((o = 39 ∧ k = 2) ∨ (o = 69 ∧ k = 6) ∨ o = 46 ∨ o = 74) → I' o k = I o k) (hk : TP I) : TP I' := by
  obtain ⟨k1, k2, k3⟩ := hk
  unfold TP
  rw [h 39 2 (by omega), h 69 6 (by omega)]
  refine ⟨k1, k2, fun i i0 i1 => ?_⟩
  rw [h 46 i (by omega), h 74 i (by omega)]
  exact k3 i i0 i1
theorem RW_eq (h : ∀ o k, ((o = 51 ∧ k = 2) ∨ (o = 69 ∧ k = 29) ∨ o = 52 ∨ o = 83) → I' o k = I o k) (hk : RW I) : RW I' := by
  obtain ⟨k1, k2, k3, k4⟩ := hk
  unfold RW
  rw [h 51 2 (by omega), h 69 29 (by omega)]
  refine ⟨k1, k2, fun i => ?_, fun i i0 i1 => ?_⟩
  · rw [h 52 i (by omega), h 83 i (by omega)]
    exact k3 i
  · rw [h 52 i (by omega), h 83 i (by omega)]
    exact k4 i i0 i1
theorem SH_eq (h : ∀ o k, ((57 ≤ o ∧ o ≤ 64) ∨ o = 84 ∨ o = 85 ∨ o = 86) → I' o k = I o k) (hJ : ∀ o k, 58 ≤ o → o ≤ 64 → J' o k = J o k) (hk : SH I J) : SH I' J' := by
  intro q hq
  obtain ⟨k1, k2, k3, k4, k5⟩ := hk q hq
  rw [h (57 + 2 * q) 1 (by omega), h (57 + 2 * q) 2 (by omega), h 84 q (by omega), h 85 q (by omega)]
  refine ⟨k1, k2, k3, k4, fun j j0 j1 => ?_⟩
  rw [h 86 _ (by omega), hJ _ _ (by omega) (by omega)]
  exact k5 j j0 j1
theorem SF_eq (h : ∀ o k, ((65 ≤ o ∧ o ≤ 68) ∨ o = 87 ∨ o = 88) → I' o k = I o k) (hk : SF I) : SF I' := by
  intro q hq
  rw [h (65 + q) 0 (by omega), h (65 + q) 1 (by omega), h (65 + q) 2 (by omega), h (65 + q) 3 (by omega), h 87 q (by omega), h 88 q (by omega)]
  exact hk q hq
theorem TR_eq (h : ∀ o k, ((o = 55 ∧ k = 1) ∨ (o = 69 ∧ k = 36) ∨ o = 56 ∨ o = 89) → I' o k = I o k) (hk : TR I) : TR I' := by
  obtain ⟨k1, k2, k3⟩ := hk
  unfold TR
  rw [h 55 1 (by omega), h 69 36 (by omega)]
  refine ⟨k1, k2, fun i i0 i1 => ?_⟩
  rw [h 56 i (by omega), h 89 i (by omega)]
  exact k3 i i0 i1
theorem LT_eq (h : ∀ k, I' 75 k = I 75 k) (hk : LT I) : LT I' := fun k hq => by
  rw [h]
  exact hk k hq
/-- what changes the table alone -/
theorem Rel_tb (h : Rel I J) (hT : TB I' (I' 70)) (hk : ∀ o k, ¬ scr o k → ¬ (1 ≤ o ∧ o ≤ 19) → o ≠ 70 → I' o k = I o k) : Rel I' J := by
  obtain ⟨a1, a2, a3, a4, a5, a6, a7, a8⟩ := h
  have g : ∀ o k, ¬ scr o k → (o = 0 ∨ 20 ≤ o) → o ≠ 70 → I' o k = I o k := fun o k q q1 q2 => hk o k q (by omega) q2
  refine ⟨hT, TK_eq (fun o k q => ?_) a2, TP_eq (fun o k q => ?_) a3, RW_eq (fun o k q => ?_) a4, SH_eq (fun o k q => ?_) (fun _ _ _ _ => rfl) a5, SF_eq (fun o k q => ?_) a6, TR_eq (fun o k q => ?_) a7, LT_eq (fun k => ?_) a8⟩
  · rcases q with ⟨rfl, rfl⟩ | q | q | ⟨rfl, rfl⟩ | rfl
    · exact g _ _ (fun z => by unfold scr at z; omega) (by omega) (by omega)
    · exact g _ _ (fun z => by unfold scr at z; omega) (by omega) (by omega)
    · exact g _ _ (fun z => by unfold scr at z; omega) (by omega) (by omega)
    · exact g _ _ (fun z => by unfold scr at z; omega) (by omega) (by omega)
    · exact g _ _ (fun z => by unfold scr at z; omega) (by omega) (by omega)
  · rcases q with ⟨rfl, rfl⟩ | ⟨rfl, rfl⟩ | rfl | rfl
    · exact g _ _ (fun z => by unfold scr at z; omega) (by omega) (by omega)
    · exact g _ _ (fun z => by unfold scr at z; omega) (by omega) (by omega)
    · exact g _ _ (fun z => by unfold scr at z; omega) (by omega) (by omega)
    · exact g _ _ (fun z => by unfold scr at z; omega) (by omega) (by omega)
  · rcases q with ⟨rfl, rfl⟩ | ⟨rfl, rfl⟩ | rfl | rfl
    · exact g _ _ (fun z => by unfold scr at z; omega) (by omega) (by omega)
    · exact g _ _ (fun z => by unfold scr at z; omega) (by omega) (by omega)
    · exact g _ _ (fun z => by unfold scr at z; omega) (by omega) (by omega)
    · exact g _ _ (fun z => by unfold scr at z; omega) (by omega) (by omega)
  · rcases q with q | rfl | rfl | rfl
    · exact g _ _ (fun z => by unfold scr at z; omega) (by omega) (by omega)
    · exact g _ _ (fun z => by unfold scr at z; omega) (by omega) (by omega)
    · exact g _ _ (fun z => by unfold scr at z; omega) (by omega) (by omega)
    · exact g _ _ (fun z => by unfold scr at z; omega) (by omega) (by omega)
  · rcases q with q | rfl | rfl
    · exact g _ _ (fun z => by unfold scr at z; omega) (by omega) (by omega)
    · exact g _ _ (fun z => by unfold scr at z; omega) (by omega) (by omega)
    · exact g _ _ (fun z => by unfold scr at z; omega) (by omega) (by omega)
  · rcases q with ⟨rfl, rfl⟩ | ⟨rfl, rfl⟩ | rfl | rfl
    · exact g _ _ (fun z => by unfold scr at z; omega) (by omega) (by omega)
    · exact g _ _ (fun z => by unfold scr at z; omega) (by omega) (by omega)
    · exact g _ _ (fun z => by unfold scr at z; omega) (by omega) (by omega)
    · exact g _ _ (fun z => by unfold scr at z; omega) (by omega) (by omega)
  · exact g _ _ (fun z => by unfold scr at z; omega) (by omega) (by omega)
theorem Rel_kp (hk : kp I I') (h : Rel I J) : Rel I' J := by
  refine Rel_tb h (TB_eq (fun o h0 h1 => ?_) (fun o h0 h1 => ?_) ?_ h.1) (fun o k v _ _ => hk o k v)
  · funext k
    exact hk o k (fun z => by unfold scr at z; omega)
  · funext k
    exact hk o k (fun z => by unfold scr at z; omega)
  · funext k
    exact hk 70 k (fun z => by unfold scr at z; omega)
theorem kp_up {o : Nat} {k v : Int} (h : scr o k) : kp I (up I o k v) := fun a b q => by
  unfold up
  rw [if_neg (fun z => q (by rw [z.1, z.2]; exact h))]
theorem scr_14 {o : Nat} {k : Int} (h : ¬ scr o k) : o ≠ 14 ∧ o ≠ 72 ∧ o ≠ 73 ∧ o ≠ 48 ∧ o ≠ 49 ∧ o ≠ 50 ∧ o ≠ 78 ∧ o ≠ 79 ∧ o ≠ 80 ∧ o ≠ 81 ∧ o ≠ 82 := by
  refine ⟨fun z => h ?_, fun z => h ?_, fun z => h ?_, fun z => h ?_, fun z => h ?_, fun z => h ?_, fun z => h ?_, fun z => h ?_, fun z => h ?_, fun z => h ?_, fun z => h ?_⟩ <;> (subst z; unfold scr; omega)
theorem kp_bk {F : Int → Int} : kp I (bk I (cof I) F) := fun o k q => by
  have h14 := (scr_14 q).1
  by_cases h1 : o = 1
  · subst h1
    have := congrFun (congrFun (bk_self I) 1) k
    exact this
  · exact bk_o h1 h14
theorem kp_72 {L : Int → Int} : kp I (b72 I L) := fun o k q => by
  unfold b72
  rw [if_neg (scr_14 q).2.1]
/-- the model's row is a row over itself -/
theorem mk_self (h : RC I (I 70)) : mk I (I 1 9) (cof I) (I 1 13) (I 73) = I := by
  obtain ⟨c0, c2, c3, c4, c5, c6⟩ := h
  funext o k
  unfold mk cof
  by_cases ho : o = 70
  · subst ho
    rw [if_pos rfl]
    by_cases q0 : k = 0
    · rw [if_pos q0, q0]; exact c0.symm
    · by_cases q2 : k = 2
      · rw [if_neg q0, if_pos q2, q2]; exact c2.symm
      · by_cases q3 : k = 3
        · rw [if_neg q0, if_neg q2, if_pos q3, q3]; exact c3.symm
        · by_cases q4 : k = 4
          · rw [if_neg q0, if_neg q2, if_neg q3, if_pos q4, q4]; exact c4.symm
          · rw [if_neg q0, if_neg q2, if_neg q3, if_neg q4]
            by_cases q5 : 38 ≤ k ∧ k < 38 + 6 * I 1 9 ∧ (k - 38) % 6 = 4
            · rw [if_pos q5]
              have := c6 ((k - 38) / 6) (by omega) (by omega)
              rw [show 38 + 6 * ((k - 38) / 6) + 4 = k by omega] at this
              exact this.symm
            · rw [if_neg q5]
  · rw [if_neg ho]
    by_cases h3 : o = 73
    · rw [if_pos h3, h3]
    · rw [if_neg h3]
/-- the same over a memory in which the class has gone on -/
theorem mk_self2 {M : Nat → Int → Int} (h : RC I (I 70)) (hM : M 70 = I 70) : mk M (I 1 9) (cof I) (I 1 13) (M 73) = M := by
  have e := mk_self h
  funext o k
  by_cases ho : o = 70
  · subst ho
    have := congrFun (congrFun e 70) k
    rw [hM]
    rw [← this]
    unfold mk
    simp only [if_true, hM]
  · unfold mk
    rw [if_neg ho]
    by_cases h3 : o = 73
    · rw [if_pos h3, h3]
    · rw [if_neg h3]
end
/-- class and model answer alike, and are so related again -/
def pr (X : e_X) (d : Nat) (I J : Nat → Int → Int) (c cm : Nat) (as : List Value) : Prop := ∃ v I1 J1 I2 J2, s_S X (d + 30) c (.ref 0 :: as) (mm I J) = some ([.int (iI v)], mm I1 J1) ∧ s_S X (d + 30) cm (.ref 69 :: as) (mm I1 J1) = some ([.int (iI v)], mm I2 J2) ∧ Rel I2 J2
