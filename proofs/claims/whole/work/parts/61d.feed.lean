/-! FEED: the two loops -/
def fb (x : Int64) (j : Int) : Int := (((x >>> ((iI (8 * j)).toInt64 &&& 63)) &&& lI 255).toInt32).toInt
def tpe (x : Int64) : Nat → Int → Int → (Int → Int) → (Int → Int)
  | 0, _, _, A => A
  | n + 1, j, p, A => tpe x n (j + 1) (p + 1) (upf A p (fb x j))
def tco (I : Nat → Int → Int) (p : Int) (A : Int → Int) : Nat → Int → Int := fun o k => if o = 39 ∧ k = 2 then p else if o = 46 then A k else I o k
def tmo (I : Nat → Int → Int) (p : Int) (A : Int → Int) : Nat → Int → Int := fun o k => if o = 69 ∧ k = 6 then p else if o = 74 then A k else I o k
theorem tco_id {I : Nat → Int → Int} : tco I (I 39 2) (I 46) = I := by
  funext o k
  unfold tco
  (repeat' split) <;> simp_all
theorem tmo_id {I : Nat → Int → Int} : tmo I (I 69 6) (I 74) = I := by
  funext o k
  unfold tmo
  (repeat' split) <;> simp_all
theorem tco_u {I : Nat → Int → Int} {p v : Int} {A : Int → Int} : up (tco I p A) 39 2 v = tco I v A := by
  funext o k
  unfold up tco
  (repeat' split) <;> simp_all
theorem tco_a {I : Nat → Int → Int} {p k v : Int} {A : Int → Int} : up (tco I p A) 46 k v = tco I p (upf A k v) := by
  funext a b
  unfold up tco upf
  (repeat' split) <;> simp_all
theorem tmo_u {I : Nat → Int → Int} {p v : Int} {A : Int → Int} : up (tmo I p A) 69 6 v = tmo I v A := by
  funext o k
  unfold up tmo
  (repeat' split) <;> simp_all
theorem tmo_a {I : Nat → Int → Int} {p k v : Int} {A : Int → Int} : up (tmo I p A) 74 k v = tmo I p (upf A k v) := by
  funext a b
  unfold up tmo upf
  (repeat' split) <;> simp_all
theorem fb_i {x : Int64} {j : Int} : ((x >>> ((iI (8 * j)).toInt64 &&& 63)) &&& lI 255).toInt32 = iI (fb x j) := (Int32.ofInt_toInt _).symm
theorem fb_b {x : Int64} {j : Int} : 0 ≤ fb x j ∧ fb x j ≤ 255 := fd_z _
