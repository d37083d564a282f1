/-! RELATED again, after a change of some cells -/
def kpE (E : Nat → Int → Prop) (I I' : Nat → Int → Int) : Prop := ∀ o k, ¬ scr o k → ¬ E o k → I' o k = I o k
section
variable {E : Nat → Int → Prop} {I I' I'' M M' N J J' : Nat → Int → Int}
theorem kpE_kp (h : kp I I') : kpE E I I' := fun o k q _ => h o k q
theorem kpE_tr (h : kpE E I I') (h' : kpE E I' I'') : kpE E I I'' := fun o k q z => (h' o k q z).trans (h o k q z)
theorem kpE_mk {n : Int} {c : co} {sc : Int} {P0 P' : Int → Int} (hM : mk N n c sc P0 = N) (h : kpE E N M') (h70 : M' 70 = N 70) : kpE E N (mk M' n c sc P') := fun o k q z => by
  have h73 := (scr_14 q).2.2.1
  by_cases ho : o = 70
  · subst ho
    have := congrFun (congrFun hM 70) k
    rw [← this]
    unfold mk
    rw [h70]
    rfl
  · unfold mk
    rw [if_neg ho, if_neg h73]
    exact h o k q z
theorem kpE_bk {F : Int → Int} (h : kpE E I M) (h1 : M 1 = I 1) : kpE E I (bk M (cof I) F) := fun o k q z => by
  have h14 := (scr_14 q).1
  by_cases ho : o = 1
  · subst ho
    have e := congrFun (congrFun (bk_self I) 1) k
    have e2 : bk M (cof I) F 1 k = bk I (cof I) (I 14) 1 k := by
      unfold bk
      rw [h1]
      rfl
    rw [e2]
    exact e
  · rw [bk_o ho h14]
    exact h o k q z
def cTB (o : Nat) : Prop := (1 ≤ o ∧ o ≤ 13) ∨ (15 ≤ o ∧ o ≤ 19) ∨ o = 70
def cTK (o : Nat) (k : Int) : Prop := (o = 0 ∧ k = 2) ∨ (20 ≤ o ∧ o ≤ 32) ∨ (34 ≤ o ∧ o ≤ 38) ∨ (o = 69 ∧ k = 3) ∨ o = 71
def cTP (o : Nat) (k : Int) : Prop := (o = 39 ∧ k = 2) ∨ (o = 69 ∧ k = 6) ∨ o = 46 ∨ o = 74
def cRW (o : Nat) (k : Int) : Prop := (o = 51 ∧ k = 2) ∨ (o = 69 ∧ k = 29) ∨ o = 52 ∨ o = 83
def cSH (o : Nat) : Prop := (57 ≤ o ∧ o ≤ 64) ∨ o = 84 ∨ o = 85 ∨ o = 86
def cSF (o : Nat) : Prop := (65 ≤ o ∧ o ≤ 68) ∨ o = 87 ∨ o = 88
def cTR (o : Nat) (k : Int) : Prop := (o = 55 ∧ k = 1) ∨ (o = 69 ∧ k = 36) ∨ o = 56 ∨ o = 89
theorem Rel_ex (h : Rel I J) (hk : kpE E I I') (g1 : TB I' (I' 70) ∨ ∀ o k, cTB o → ¬ E o k) (g2 : TK I' ∨ ∀ o k, cTK o k → ¬ E o k) (g3 : TP I' ∨ ∀ o k, cTP o k → ¬ E o k) (g4 : RW I' ∨ ∀ o k, cRW o k → ¬ E o k) (g5 : SH I' J' ∨ ((∀ o k, cSH o → ¬ E o k) ∧ ∀ o k, 58 ≤ o → o ≤ 64 → J' o k = J o k)) (g6 : SF I' ∨ ∀ o k, cSF o → ¬ E o k) (g7 : TR I' ∨ ∀ o k, cTR o k → ¬ E o k) (g8 : ∀ k, ¬ E 75 k) : Rel I' J' := by
  obtain ⟨a1, a2, a3, a4, a5, a6, a7, a8⟩ := h
  refine ⟨?_, ?_, ?_, ?_, ?_, ?_, ?_, LT_eq (fun k => hk 75 k (fun z => by unfold scr at z; omega) (g8 k)) a8⟩
  · rcases g1 with g | g
    · exact g
    · have e : ∀ o k, cTB o → I' o k = I o k := fun o k q => hk o k (fun z => by unfold scr at z; unfold cTB at q; omega) (g o k q)
      exact TB_eq (fun o h0 h1 => funext fun k => e o k (Or.inl ⟨h0, h1⟩)) (fun o h0 h1 => funext fun k => e o k (Or.inr (Or.inl ⟨h0, h1⟩))) (funext fun k => e 70 k (Or.inr (Or.inr rfl))) a1
  · rcases g2 with g | g
    · exact g
    · refine TK_eq (fun o k q => hk o k (fun z => ?_) (g o k q)) a2
      rcases q with ⟨rfl, rfl⟩ | q | q | ⟨rfl, rfl⟩ | rfl <;> (unfold scr at z; omega)
  · rcases g3 with g | g
    · exact g
    · refine TP_eq (fun o k q => hk o k (fun z => ?_) (g o k q)) a3
      rcases q with ⟨rfl, rfl⟩ | ⟨rfl, rfl⟩ | rfl | rfl <;> (unfold scr at z; omega)
  · rcases g4 with g | g
    · exact g
    · refine RW_eq (fun o k q => hk o k (fun z => ?_) (g o k q)) a4
      rcases q with ⟨rfl, rfl⟩ | ⟨rfl, rfl⟩ | rfl | rfl <;> (unfold scr at z; omega)
  · rcases g5 with g | ⟨g, hJ⟩
    · exact g
    · refine SH_eq (fun o k q => hk o k (fun z => ?_) (g o k q)) hJ a5
      rcases q with q | rfl | rfl | rfl <;> (unfold scr at z; omega)
  · rcases g6 with g | g
    · exact g
    · refine SF_eq (fun o k q => hk o k (fun z => ?_) (g o k q)) a6
      rcases q with q | rfl | rfl <;> (unfold scr at z; omega)
  · rcases g7 with g | g
    · exact g
    · refine TR_eq (fun o k q => hk o k (fun z => ?_) (g o k q)) a7
      rcases q with ⟨rfl, rfl⟩ | ⟨rfl, rfl⟩ | rfl | rfl <;> (unfold scr at z; omega)
/-- the cells of the rows -/
def eRW (o : Nat) (k : Int) : Prop := o = 51 ∨ o = 52 ∨ o = 83 ∨ (o = 69 ∧ k = 29)
theorem Rel_rows (h : Rel I J) (hk : kpE eRW I I') (g : RW I') : Rel I' J := by
  refine Rel_ex h hk (Or.inr fun o k q z => ?_) (Or.inr fun o k q z => ?_) (Or.inr fun o k q z => ?_) (Or.inl g) (Or.inr ⟨fun o k q z => ?_, fun _ _ _ _ => rfl⟩) (Or.inr fun o k q z => ?_) (Or.inr fun o k q z => ?_) (fun k z => ?_)
  · unfold cTB at q; unfold eRW at z; omega
  · unfold cTK at q; unfold eRW at z; omega
  · unfold cTP at q; unfold eRW at z; omega
  · unfold cSH at q; unfold eRW at z; omega
  · unfold cSF at q; unfold eRW at z; omega
  · unfold cTR at q; unfold eRW at z; omega
  · unfold eRW at z; omega
/-- the cells of the sheets -/
def eSH (o : Nat) : Prop := (57 ≤ o ∧ o ≤ 64) ∨ o = 84 ∨ o = 85 ∨ o = 86
theorem Rel_sheet (h : Rel I J) (hk : kpE (fun o _ => eSH o) I I') (g : SH I' J') : Rel I' J' := by
  refine Rel_ex h hk (Or.inr fun o k q z => ?_) (Or.inr fun o k q z => ?_) (Or.inr fun o k q z => ?_) (Or.inr fun o k q z => ?_) (Or.inl g) (Or.inr fun o k q z => ?_) (Or.inr fun o k q z => ?_) (fun k z => ?_)
  · unfold cTB at q; unfold eSH at z; omega
  · unfold cTK at q; unfold eSH at z; omega
  · unfold cTP at q; unfold eSH at z; omega
  · unfold cRW at q; unfold eSH at z; omega
  · unfold cSF at q; unfold eSH at z; omega
  · unfold cTR at q; unfold eSH at z; omega
  · unfold eSH at z; omega
/-- the cells of the shelf -/
def eSF (o : Nat) : Prop := (65 ≤ o ∧ o ≤ 68) ∨ o = 87 ∨ o = 88
theorem Rel_shelf (h : Rel I J) (hk : kpE (fun o _ => eSF o) I I') (g : SF I') : Rel I' J := by
  refine Rel_ex h hk (Or.inr fun o k q z => ?_) (Or.inr fun o k q z => ?_) (Or.inr fun o k q z => ?_) (Or.inr fun o k q z => ?_) (Or.inr ⟨fun o k q z => ?_, fun _ _ _ _ => rfl⟩) (Or.inl g) (Or.inr fun o k q z => ?_) (fun k z => ?_)
  · unfold cTB at q; unfold eSF at z; omega
  · unfold cTK at q; unfold eSF at z; omega
  · unfold cTP at q; unfold eSF at z; omega
  · unfold cRW at q; unfold eSF at z; omega
  · unfold cSH at q; unfold eSF at z; omega
  · unfold cTR at q; unfold eSF at z; omega
  · unfold eSF at z; omega
/-- the cells of the trace -/
def eTR (o : Nat) (k : Int) : Prop := o = 55 ∨ o = 56 ∨ o = 89 ∨ (o = 69 ∧ k = 36)
theorem Rel_trace (h : Rel I J) (hk : kpE eTR I I') (g : TR I') : Rel I' J := by
  refine Rel_ex h hk (Or.inr fun o k q z => ?_) (Or.inr fun o k q z => ?_) (Or.inr fun o k q z => ?_) (Or.inr fun o k q z => ?_) (Or.inr ⟨fun o k q z => ?_, fun _ _ _ _ => rfl⟩) (Or.inr fun o k q z => ?_) (Or.inl g) (fun k z => ?_)
  · unfold cTB at q; unfold eTR at z; omega
  · unfold cTK at q; unfold eTR at z; omega
  · unfold cTP at q; unfold eTR at z; omega
  · unfold cRW at q; unfold eTR at z; omega
  · unfold cSH at q; unfold eTR at z; omega
  · unfold cSF at q; unfold eTR at z; omega
  · unfold eTR at z; omega
end
