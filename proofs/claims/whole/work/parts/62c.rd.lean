/-! THE CLASS'S READER over a memory: rows -/
def rd (I : Nat → Int → Int) (a s v du lf sg op w sz : Int) (Cd Wt : Int → Int) : Nat → Int → Int := fun o k => if o = 39 ∧ k = 3 then a else if o = 39 ∧ k = 4 then s else if o = 39 ∧ k = 5 then v else if o = 39 ∧ k = 6 then du else if o = 39 ∧ k = 9 then lf else if o = 39 ∧ k = 10 then sg else if o = 39 ∧ k = 11 then op else if o = 39 ∧ k = 13 then w else if o = 40 ∧ k = 6 then sz else if o = 44 then Cd k else if o = 47 then Wt k else I o k
section
variable {I : Nat → Int → Int} {a s v du lf sg op w sz k x : Int} {Cd Wt : Int → Int}
theorem rd_39_3 : rd I a s v du lf sg op w sz Cd Wt 39 3 = a := rfl
theorem rd_39_4 : rd I a s v du lf sg op w sz Cd Wt 39 4 = s := rfl
theorem rd_39_5 : rd I a s v du lf sg op w sz Cd Wt 39 5 = v := rfl
theorem rd_39_6 : rd I a s v du lf sg op w sz Cd Wt 39 6 = du := rfl
theorem rd_39_9 : rd I a s v du lf sg op w sz Cd Wt 39 9 = lf := rfl
theorem rd_39_10 : rd I a s v du lf sg op w sz Cd Wt 39 10 = sg := rfl
theorem rd_39_11 : rd I a s v du lf sg op w sz Cd Wt 39 11 = op := rfl
theorem rd_39_13 : rd I a s v du lf sg op w sz Cd Wt 39 13 = w := rfl
theorem rd_40_6 : rd I a s v du lf sg op w sz Cd Wt 40 6 = sz := rfl
theorem rd_44 : rd I a s v du lf sg op w sz Cd Wt 44 k = Cd k := rfl
theorem rd_47 : rd I a s v du lf sg op w sz Cd Wt 47 k = Wt k := rfl
theorem rd_39_2 : rd I a s v du lf sg op w sz Cd Wt 39 2 = I 39 2 := rfl
theorem rd_39_7 : rd I a s v du lf sg op w sz Cd Wt 39 7 = I 39 7 := rfl
theorem rd_39_8 : rd I a s v du lf sg op w sz Cd Wt 39 8 = I 39 8 := rfl
theorem rd_40_5 : rd I a s v du lf sg op w sz Cd Wt 40 5 = I 40 5 := rfl
theorem rd_46 : rd I a s v du lf sg op w sz Cd Wt 46 k = I 46 k := rfl
theorem rd_41 : rd I a s v du lf sg op w sz Cd Wt 41 k = I 41 k := rfl
theorem rd_42 : rd I a s v du lf sg op w sz Cd Wt 42 k = I 42 k := rfl
theorem rd_43 : rd I a s v du lf sg op w sz Cd Wt 43 k = I 43 k := rfl
theorem rd_u_39_3 : up (rd I a s v du lf sg op w sz Cd Wt) 39 3 x = rd I x s v du lf sg op w sz Cd Wt := by
  funext o k
  by_cases h : o = 39 ∧ k = 3
  · obtain ⟨rfl, rfl⟩ := h
    rfl
  · simp only [up, rd, h, if_false]
theorem rd_u_39_4 : up (rd I a s v du lf sg op w sz Cd Wt) 39 4 x = rd I a x v du lf sg op w sz Cd Wt := by
  funext o k
  by_cases h : o = 39 ∧ k = 4
  · obtain ⟨rfl, rfl⟩ := h
    rfl
  · simp only [up, rd, h, if_false]
theorem rd_u_39_5 : up (rd I a s v du lf sg op w sz Cd Wt) 39 5 x = rd I a s x du lf sg op w sz Cd Wt := by
  funext o k
  by_cases h : o = 39 ∧ k = 5
  · obtain ⟨rfl, rfl⟩ := h
    rfl
  · simp only [up, rd, h, if_false]
theorem rd_u_39_6 : up (rd I a s v du lf sg op w sz Cd Wt) 39 6 x = rd I a s v x lf sg op w sz Cd Wt := by
  funext o k
  by_cases h : o = 39 ∧ k = 6
  · obtain ⟨rfl, rfl⟩ := h
    rfl
  · simp only [up, rd, h, if_false]
theorem rd_u_39_9 : up (rd I a s v du lf sg op w sz Cd Wt) 39 9 x = rd I a s v du x sg op w sz Cd Wt := by
  funext o k
  by_cases h : o = 39 ∧ k = 9
  · obtain ⟨rfl, rfl⟩ := h
    rfl
  · simp only [up, rd, h, if_false]
theorem rd_u_39_10 : up (rd I a s v du lf sg op w sz Cd Wt) 39 10 x = rd I a s v du lf x op w sz Cd Wt := by
  funext o k
  by_cases h : o = 39 ∧ k = 10
  · obtain ⟨rfl, rfl⟩ := h
    rfl
  · simp only [up, rd, h, if_false]
theorem rd_u_39_11 : up (rd I a s v du lf sg op w sz Cd Wt) 39 11 x = rd I a s v du lf sg x w sz Cd Wt := by
  funext o k
  by_cases h : o = 39 ∧ k = 11
  · obtain ⟨rfl, rfl⟩ := h
    rfl
  · simp only [up, rd, h, if_false]
theorem rd_u_39_13 : up (rd I a s v du lf sg op w sz Cd Wt) 39 13 x = rd I a s v du lf sg op x sz Cd Wt := by
  funext o k
  by_cases h : o = 39 ∧ k = 13
  · obtain ⟨rfl, rfl⟩ := h
    rfl
  · simp only [up, rd, h, if_false]
theorem rd_u_40_6 : up (rd I a s v du lf sg op w sz Cd Wt) 40 6 x = rd I a s v du lf sg op w x Cd Wt := by
  funext o k
  by_cases h : o = 40 ∧ k = 6
  · obtain ⟨rfl, rfl⟩ := h
    rfl
  · simp only [up, rd, h, if_false]
theorem rd_u_44 : up (rd I a s v du lf sg op w sz Cd Wt) 44 k x = rd I a s v du lf sg op w sz (upf Cd k x) Wt := by
  funext o q
  by_cases h : o = 44
  · subst h
    show (if 44 = 44 ∧ q = k then x else Cd q) = (if q = k then x else Cd q)
    simp only [true_and]
  · simp only [up, rd, h, false_and, if_false]
theorem rd_u_47 : up (rd I a s v du lf sg op w sz Cd Wt) 47 k x = rd I a s v du lf sg op w sz Cd (upf Wt k x) := by
  funext o q
  by_cases h : o = 47
  · subst h
    show (if 47 = 47 ∧ q = k then x else Wt q) = (if q = k then x else Wt q)
    simp only [true_and]
  · simp only [up, rd, h, false_and, if_false]
theorem rd_i_39_2 : up (rd I a s v du lf sg op w sz Cd Wt) 39 2 x = rd (up I 39 2 x) a s v du lf sg op w sz Cd Wt := by
  funext o k
  by_cases h : o = 39 ∧ k = 2
  · obtain ⟨rfl, rfl⟩ := h
    rfl
  · simp only [up, rd, h, if_false]
theorem rd_i_39_7 : up (rd I a s v du lf sg op w sz Cd Wt) 39 7 x = rd (up I 39 7 x) a s v du lf sg op w sz Cd Wt := by
  funext o k
  by_cases h : o = 39 ∧ k = 7
  · obtain ⟨rfl, rfl⟩ := h
    rfl
  · simp only [up, rd, h, if_false]
theorem rd_i_39_8 : up (rd I a s v du lf sg op w sz Cd Wt) 39 8 x = rd (up I 39 8 x) a s v du lf sg op w sz Cd Wt := by
  funext o k
  by_cases h : o = 39 ∧ k = 8
  · obtain ⟨rfl, rfl⟩ := h
    rfl
  · simp only [up, rd, h, if_false]
theorem rd_i_40_5 : up (rd I a s v du lf sg op w sz Cd Wt) 40 5 x = rd (up I 40 5 x) a s v du lf sg op w sz Cd Wt := by
  funext o k
  by_cases h : o = 40 ∧ k = 5
  · obtain ⟨rfl, rfl⟩ := h
    rfl
  · simp only [up, rd, h, if_false]
theorem rd_i_41 : up (rd I a s v du lf sg op w sz Cd Wt) 41 k x = rd (up I 41 k x) a s v du lf sg op w sz Cd Wt := by
  funext o q
  by_cases h : o = 41
  · subst h
    rfl
  · simp only [up, rd, h, false_and, if_false]
theorem rd_i_42 : up (rd I a s v du lf sg op w sz Cd Wt) 42 k x = rd (up I 42 k x) a s v du lf sg op w sz Cd Wt := by
  funext o q
  by_cases h : o = 42
  · subst h
    rfl
  · simp only [up, rd, h, false_and, if_false]
theorem rd_i_43 : up (rd I a s v du lf sg op w sz Cd Wt) 43 k x = rd (up I 43 k x) a s v du lf sg op w sz Cd Wt := by
  funext o q
  by_cases h : o = 43
  · subst h
    rfl
  · simp only [up, rd, h, false_and, if_false]
theorem rd_self : rd I (I 39 3) (I 39 4) (I 39 5) (I 39 6) (I 39 9) (I 39 10) (I 39 11) (I 39 13) (I 40 6) (I 44) (I 47) = I := by
  funext o k
  unfold rd
  (repeat' split) <;> simp_all
end
