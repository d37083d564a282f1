/-! THE MODEL'S READER over a memory: rows -/
def md (M : Nat → Int → Int) (a b t v op st : Int) (Sp : Int → Int) : Nat → Int → Int := fun o k => if o = 69 ∧ k = 8 then a else if o = 69 ∧ k = 9 then b else if o = 69 ∧ k = 10 then t else if o = 69 ∧ k = 11 then v else if o = 69 ∧ k = 12 then op else if o = 69 ∧ k = 13 then st else if o = 76 then Sp k else M o k
section
variable {M : Nat → Int → Int} {a b t v op st k x : Int} {Sp : Int → Int}
theorem md_69_8 : md M a b t v op st Sp 69 8 = a := rfl
theorem md_69_9 : md M a b t v op st Sp 69 9 = b := rfl
theorem md_69_10 : md M a b t v op st Sp 69 10 = t := rfl
theorem md_69_11 : md M a b t v op st Sp 69 11 = v := rfl
theorem md_69_12 : md M a b t v op st Sp 69 12 = op := rfl
theorem md_69_13 : md M a b t v op st Sp 69 13 = st := rfl
theorem md_76 : md M a b t v op st Sp 76 k = Sp k := rfl
theorem md_69_6 : md M a b t v op st Sp 69 6 = M 69 6 := rfl
theorem md_70 : md M a b t v op st Sp 70 k = M 70 k := rfl
theorem md_74 : md M a b t v op st Sp 74 k = M 74 k := rfl
theorem md_75 : md M a b t v op st Sp 75 k = M 75 k := rfl
theorem md_77 : md M a b t v op st Sp 77 k = M 77 k := rfl
theorem md_u_69_8 : up (md M a b t v op st Sp) 69 8 x = md M x b t v op st Sp := by
  funext o k
  by_cases h : o = 69 ∧ k = 8
  · obtain ⟨rfl, rfl⟩ := h
    rfl
  · simp only [up, md, h, if_false]
theorem md_u_69_9 : up (md M a b t v op st Sp) 69 9 x = md M a x t v op st Sp := by
  funext o k
  by_cases h : o = 69 ∧ k = 9
  · obtain ⟨rfl, rfl⟩ := h
    rfl
  · simp only [up, md, h, if_false]
theorem md_u_69_10 : up (md M a b t v op st Sp) 69 10 x = md M a b x v op st Sp := by
  funext o k
  by_cases h : o = 69 ∧ k = 10
  · obtain ⟨rfl, rfl⟩ := h
    rfl
  · simp only [up, md, h, if_false]
theorem md_u_69_11 : up (md M a b t v op st Sp) 69 11 x = md M a b t x op st Sp := by
  funext o k
  by_cases h : o = 69 ∧ k = 11
  · obtain ⟨rfl, rfl⟩ := h
    rfl
  · simp only [up, md, h, if_false]
theorem md_u_69_12 : up (md M a b t v op st Sp) 69 12 x = md M a b t v x st Sp := by
  funext o k
  by_cases h : o = 69 ∧ k = 12
  · obtain ⟨rfl, rfl⟩ := h
    rfl
  · simp only [up, md, h, if_false]
theorem md_u_69_13 : up (md M a b t v op st Sp) 69 13 x = md M a b t v op x Sp := by
  funext o k
  by_cases h : o = 69 ∧ k = 13
  · obtain ⟨rfl, rfl⟩ := h
    rfl
  · simp only [up, md, h, if_false]
theorem md_u_76 : up (md M a b t v op st Sp) 76 k x = md M a b t v op st (upf Sp k x) := by
  funext o q
  by_cases h : o = 76
  · subst h
    show (if 76 = 76 ∧ q = k then x else Sp q) = (if q = k then x else Sp q)
    simp only [true_and]
  · simp only [up, md, h, false_and, if_false]
theorem md_i_69_6 : up (md M a b t v op st Sp) 69 6 x = md (up M 69 6 x) a b t v op st Sp := by
  funext o k
  by_cases h : o = 69 ∧ k = 6
  · obtain ⟨rfl, rfl⟩ := h
    rfl
  · simp only [up, md, h, if_false]
theorem md_i_70 : up (md M a b t v op st Sp) 70 k x = md (up M 70 k x) a b t v op st Sp := by
  funext o q
  by_cases h : o = 70
  · subst h
    rfl
  · simp only [up, md, h, false_and, if_false]
theorem md_i_77 : up (md M a b t v op st Sp) 77 k x = md (up M 77 k x) a b t v op st Sp := by
  funext o q
  by_cases h : o = 77
  · subst h
    rfl
  · simp only [up, md, h, false_and, if_false]
theorem md_self : md M (M 69 8) (M 69 9) (M 69 10) (M 69 11) (M 69 12) (M 69 13) (M 76) = M := by
  funext o k
  unfold md
  (repeat' split) <;> simp_all
end
