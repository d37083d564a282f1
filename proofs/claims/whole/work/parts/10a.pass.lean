/-! A YEAR GOES BY: the core of a table (YEAR, MOOD, where SHE is, who is SEATED) and the facts over a base -/
abbrev co := Int × Int × Int × Int
def bk (I : Nat → Int → Int) (c : co) (F : Int → Int) : Nat → Int → Int := fun o k =>
  if o = 1 then (if k = 11 then c.1 else if k = 14 then c.2.1 else if k = 15 then c.2.2.1 else if k = 10 then c.2.2.2 else I 1 k) else if o = 14 then F k else I o k
def cof (I : Nat → Int → Int) : co := (I 1 11, I 1 14, I 1 15, I 1 10)
def upf (F : Int → Int) (k v : Int) : Int → Int := fun b => if b = k then v else F b
def z0 : Int → Int := fun _ => 0
theorem bk_o {I : Nat → Int → Int} {c : co} {F : Int → Int} {o : Nat} {k : Int} (h1 : o ≠ 1) (h2 : o ≠ 14) : bk I c F o k = I o k := by
  unfold bk
  rw [if_neg h1, if_neg h2]
theorem bk_1 {I : Nat → Int → Int} {c : co} {F : Int → Int} {k : Int} (h1 : k ≠ 11) (h2 : k ≠ 14) (h3 : k ≠ 15) (h4 : k ≠ 10) : bk I c F 1 k = I 1 k := by
  unfold bk
  rw [if_pos rfl, if_neg h1, if_neg h2, if_neg h3, if_neg h4]
theorem bk_self (I : Nat → Int → Int) : bk I (cof I) (I 14) = I := by
  funext o k
  unfold bk cof
  (repeat' split) <;> simp_all
theorem bk_bk {I : Nat → Int → Int} {c c' : co} {F F' : Int → Int} : bk (bk I c F) c' F' = bk I c' F' := by
  funext o k
  unfold bk
  (repeat' split) <;> simp_all
section
variable {I : Nat → Int → Int} {y m h s v k : Int} {F : Int → Int}
theorem bk_y0 : bk I (y, m, h, s) F 1 11 = y := rfl
theorem bk_m0 : bk I (y, m, h, s) F 1 14 = m := rfl
theorem bk_h0 : bk I (y, m, h, s) F 1 15 = h := rfl
theorem bk_s0 : bk I (y, m, h, s) F 1 10 = s := rfl
theorem bk_n0 {c : co} : bk I c F 1 9 = I 1 9 := rfl
theorem bk_e0 {c : co} : bk I c F 1 12 = I 1 12 := rfl
theorem bk_z0 {c : co} : bk I c F 1 16 = I 1 16 := rfl
theorem bk_c0 {c : co} : bk I c F 1 13 = I 1 13 := rfl
theorem bk_y : up (bk I (y, m, h, s) F) 1 11 v = bk I (v, m, h, s) F := by
  funext o k
  unfold up bk
  (repeat' split) <;> simp_all
theorem bk_m : up (bk I (y, m, h, s) F) 1 14 v = bk I (y, v, h, s) F := by
  funext o k
  unfold up bk
  (repeat' split) <;> simp_all
theorem bk_h : up (bk I (y, m, h, s) F) 1 15 v = bk I (y, m, v, s) F := by
  funext o k
  unfold up bk
  (repeat' split) <;> simp_all
theorem bk_s : up (bk I (y, m, h, s) F) 1 10 v = bk I (y, m, h, v) F := by
  funext o k
  unfold up bk
  (repeat' split) <;> simp_all
theorem bk_f {c : co} : up (bk I c F) 14 k v = bk I c (upf F k v) := by
  funext o k
  unfold up bk upf
  (repeat' split) <;> simp_all
/-- another base -/
theorem bk_u {c : co} {o : Nat} (h1 : o ≠ 1) (h2 : o ≠ 14) : up (bk I c F) o k v = bk (up I o k v) c F := by
  funext a b
  by_cases e1 : a = 1
  · subst e1
    rw [up_o (Ne.symm h1)]
    unfold bk
    rw [if_pos rfl, if_pos rfl, up_o (Ne.symm h1)]
  · by_cases e2 : a = 14
    · subst e2
      rw [up_o (Ne.symm h2)]
      rfl
    · rw [bk_o e1 e2]
      unfold up
      by_cases e0 : a = o ∧ b = k
      · rw [if_pos e0, if_pos e0]
      · rw [if_neg e0, if_neg e0, bk_o e1 e2]
theorem bk_uz {c : co} : up (bk I c F) 1 16 v = bk (up I 1 16 v) c F := by
  funext o k
  unfold up bk
  (repeat' split) <;> simp_all
theorem bk_uc {c : co} : up (bk I c F) 1 13 v = bk (up I 1 13 v) c F := by
  funext o k
  unfold up bk
  (repeat' split) <;> simp_all
end
def cok (I : Nat → Int → Int) (c : co) : Prop := (0 ≤ c.1 ∧ c.1 ≤ I 1 12) ∧ (0 ≤ c.2.1 ∧ c.2.1 ≤ 9) ∧ (0 ≤ c.2.2.1 ∧ c.2.2.1 ≤ 40) ∧ (0 ≤ c.2.2.2 ∧ c.2.2.2 < 2 ^ (I 1 9).toNat)
theorem inv_bk {I : Nat → Int → Int} {c : co} {F : Int → Int} (h : inv I) (hc : cok I c) : inv (bk I c F) := by
  obtain ⟨h1, h2, h3, h4, h5, h6, h7, h8, h9⟩ := h
  exact ⟨h1, hc.2.2.2, hc.1, h4, hc.2.1, hc.2.2.1, h7, h8, h9⟩
theorem inv_cof {I : Nat → Int → Int} (h : inv I) : cok I (cof I) := by
  obtain ⟨h1, h2, h3, h4, h5, h6, h7, h8, h9⟩ := h
  exact ⟨h3, h5, h6, h2⟩
theorem rok_eq {I I' : Nat → Int → Int} (h9 : I' 9 5 = I 9 5) (h10 : I' 10 = I 10) (h11 : I' 11 = I 11) (h12 : I' 12 = I 12) (h13 : I' 13 = I 13) (h : rok I) : rok I' := by
  have e : ∀ i, rfr I' i = rfr I i := fun i => by
    unfold rfr
    rw [h12]
  refine ⟨by rw [h9]; exact h.1, fun i h0 h1 => ?_⟩
  rw [h9] at h1
  rw [e, h10, h11, h12, hok_eq (fun b => by rw [h13])]
  exact h.2 i h0 h1
theorem rok_bk {I : Nat → Int → Int} {c : co} {F : Int → Int} (h : rok I) : rok (bk I c F) := rok_eq (I := I) rfl rfl rfl rfl rfl h
/-! what is told depends on the facts alone -/
theorem fv_eq {I I' : Nat → Int → Int} (h : ∀ i, 0 ≤ i ∧ i < 5 → I' 14 i = I 14 i) (v : Int) : fv I' v = fv I v := by
  unfold fv
  by_cases q : 10000 ≤ v ∧ v < 10005
  · rw [if_pos q, if_pos q, h _ (by omega)]
  · rw [if_neg q, if_neg q]
theorem hrn_eq {I I' : Nat → Int → Int} (h13 : I' 13 = I 13) (h : ∀ i, 0 ≤ i ∧ i < 5 → I' 14 i = I 14 i) : ∀ (n : Nat) (i : Int) (s : List Bool), hrn I' n i s = hrn I n i s
  | 0, _, _ => rfl
  | n + 1, i, s => by
    have e : hst I' = hst I := by
      funext p s
      unfold hst cmb
      rw [fv_eq h, fv_eq h]
    show hrn I' n (i + 1) (hst I' (I' 13 i) s) = hrn I n (i + 1) (hst I (I 13 i) s)
    rw [e, h13, hrn_eq h13 h]
theorem tel_eq {I I' : Nat → Int → Int} (h10 : I' 10 = I 10) (h11 : I' 11 = I 11) (h12 : I' 12 = I 12) (h13 : I' 13 = I 13) (h : ∀ i, 0 ≤ i ∧ i < 5 → I' 14 i = I 14 i) (kd : Int) : ∀ (n : Nat) (i : Int), tel I' kd n i = tel I kd n i
  | 0, _ => rfl
  | n + 1, i => by
    have e : rfr I' i = rfr I i := by
      unfold rfr
      rw [h12]
    unfold tel rhl
    rw [tel_eq h10 h11 h12 h13 h kd n, hrn_eq h13 h, e, h10, h11, h12]
def wil (I : Nat → Int → Int) (c : co) (k : Int) : Int := will (bk I c z0) k
theorem wil_eq {I : Nat → Int → Int} {c : co} {F : Int → Int} {k : Int} : will (bk I c F) k = wil I c k := by
  unfold wil will
  refine tel_eq ?_ ?_ ?_ ?_ ?_ _ _ _
  · funext b
    rw [fct_o (by decide), fct_o (by decide)]; rfl
  · funext b
    rw [fct_o (by decide), fct_o (by decide)]; rfl
  · funext b
    rw [fct_o (by decide), fct_o (by decide)]; rfl
  · funext b
    rw [fct_o (by decide), fct_o (by decide)]; rfl
  · intro i hi
    have : i = 0 ∨ i = 1 ∨ i = 2 ∨ i = 3 ∨ i = 4 := by omega
    rcases this with rfl | rfl | rfl | rfl | rfl <;> rfl
theorem tel_b {I : Nat → Int → Int} (h : rok I) (kd : Int) : ∀ (n : Nat) (i : Int), 0 ≤ i → i + n = I 9 5 → 0 ≤ tel I kd n i ∧ tel I kd n i ≤ 2
  | 0, _, _, _ => ⟨Int.le_refl 0, (by decide : (0 : Int) ≤ 2)⟩
  | n + 1, i, h0, hn => by
    have h1 := h.2 i h0 (by omega)
    have h2 := tel_b h kd n (i + 1) (by omega) (by omega)
    unfold tel
    split
    · exact h1.2.1
    · exact h2
theorem wil_b {I : Nat → Int → Int} (h : rok I) (c : co) (k : Int) : 0 ≤ wil I c k ∧ wil I c k ≤ 2 := by
  unfold wil will
  have h1 := rok_fct (k := k) (rok_bk (c := c) (F := z0) h)
  refine tel_b h1 _ _ _ (by decide) ?_
  rw [fct_o (by decide)]
  have := h.1
  show (0 : Int) + (((bk I c z0 9 5).toNat : Nat) : Int) = bk I c z0 9 5
  rw [show bk I c z0 9 5 = I 9 5 from rfl]
  omega
/-! the parts of a year -/
abbrev wst (I : Nat → Int → Int) (c : co) (k : Int) : Prop := ¬ bt c.2.2.2 k = 1 ∧ gr I k ≤ c.2.1 + I 7 (I 5 k)
def lww (I : Nat → Int → Int) (c : co) : Nat → Int → Int
  | 0, _ => -3
  | n + 1, k => if wst I c k then k else lww I c n (k + 1)
theorem lww_eq {I : Nat → Int → Int} {c : co} {F : Int → Int} : ∀ (n : Nat) (k : Int), lwl (bk I c F) n k = lww I c n k
  | 0, _ => rfl
  | n + 1, k => by
    unfold lwl lww
    rw [lww_eq n]
    rfl
theorem lww_b {I : Nat → Int → Int} {c : co} : ∀ (n : Nat) (k : Int), lww I c n k = -3 ∨ (k ≤ lww I c n k ∧ lww I c n k < k + n ∧ wst I c (lww I c n k))
  | 0, _ => Or.inl rfl
  | n + 1, k => by
    unfold lww
    split
    · rename_i q
      exact Or.inr ⟨by omega, by omega, q⟩
    · have := lww_b (I := I) (c := c) n (k + 1)
      rcases this with h | ⟨h1, h2, h3⟩
      · exact Or.inl h
      · exact Or.inr ⟨by omega, by omega, h3⟩
def plk (I : Nat → Int → Int) (y st : Int) : Nat → Nat
  | 0 => 0
  | n + 1 => if bt st n = 1 then plk I y st n ||| pl1 (I 3 n).toNat (spn (I 2 n) (I 4 n) y).toNat else plk I y st n
theorem plk_eq {I : Nat → Int → Int} {y m h s st : Int} {F : Int → Int} : ∀ n : Nat, plc (bk I (y, m, h, s) F) st n = plk I y st n
  | 0 => rfl
  | n + 1 => by
    unfold plc plk
    rw [plk_eq n]
    rfl
def sic (I : Nat → Int → Int) (c : co) (k : Int) : Int × co :=
  if bt c.2.2.2 k = 1 then (0, c) else if wst I c k then (1, c.1, max 0 (c.2.1 - gr I k / 3), c.2.2.1, stb c.2.2.2 k 1) else (0, c.1, max 0 (c.2.1 - 1), c.2.2.1, c.2.2.2)
def gec (c : co) (k : Int) : co := if bt c.2.2.2 k = 1 then (c.1, min 9 (c.2.1 + 1), c.2.2.1, stb c.2.2.2 k 0) else c
def met (I : Nat → Int → Int) (c : co) (t : Int) : Int × co :=
  if 0 ≤ t ∧ t < I 1 9 then (if wil I c t = 0 then sic I c t else if wil I c t = 2 then (0, gec c t) else (0, c)) else (0, c)
def wlk (I : Nat → Int → Int) (c : co) : Int := stp (plk I c.1 c.2.2.2 (I 1 9).toNat) c.2.2.1 c.2.1 (c.2.1 + 1).toNat 0
def tld (I : Nat → Int → Int) (c : co) (act : Int) : Int := if act = -1 then lww I c (I 1 9).toNat 0 else act - 1
/-- behind the news -/
def nwc (I : Nat → Int → Int) (c : co) : co := (c.1, mdb (nws I c.1) c.2.1, c.2.2)
def pas (I : Nat → Int → Int) (c : co) (act : Int) : Int × co :=
  ((met I (nwc I c) (tld I (nwc I c) act)).1 + 2 * wlk I (met I (nwc I c) (tld I (nwc I c) act)).2, (met I (nwc I c) (tld I (nwc I c) act)).2.1 + 1, (met I (nwc I c) (tld I (nwc I c) act)).2.2.1, (met I (nwc I c) (tld I (nwc I c) act)).2.2.2.1 + wlk I (met I (nwc I c) (tld I (nwc I c) act)).2, (met I (nwc I c) (tld I (nwc I c) act)).2.2.2.2)
theorem mdb_b {nw md : Int} (hn : 0 ≤ nw ∧ nw ≤ 15) (hm : 0 ≤ md ∧ md ≤ 9) : 0 ≤ mdb nw md ∧ mdb nw md ≤ 9 := by
  unfold mdb
  dsimp only
  (repeat' split) <;> omega
theorem nws_b {I : Nat → Int → Int} (h : inv I) (y : Int) : 0 ≤ nws I y ∧ nws I y ≤ 15 := by
  unfold nws
  split
  · exact h.2.2.2.2.2.2.2.2 y (by omega) (by omega)
  · decide
theorem nwc_ok {I : Nat → Int → Int} (h : inv I) {c : co} (hc : cok I c) : cok I (nwc I c) := ⟨hc.1, mdb_b (nws_b h _) hc.2.1, hc.2.2.1, hc.2.2.2⟩
theorem stp_b {B : Nat} {fr md : Int} : ∀ (n : Nat) (s : Int), fr + s ≤ 40 → s ≤ stp B fr md n s ∧ fr + stp B fr md n s ≤ 40 ∧ stp B fr md n s ≤ s + n
  | 0, s, h => ⟨by unfold stp; omega, by unfold stp; omega, by unfold stp; omega⟩
  | n + 1, s, h => by
    unfold stp
    split
    · have := stp_b (B := B) (fr := fr) (md := md) n (s + 1) (by omega)
      omega
    · omega
theorem stb_lt : (List.range 7).all (fun n => (List.range (2 ^ n)).all fun a => (List.range n).all fun b => decide (stb a b 1 < 2 ^ n)) = true := by decide +kernel
theorem stb_b {n s k : Int} (hn : 0 ≤ n ∧ n ≤ 6) (hs : 0 ≤ s ∧ s < 2 ^ n.toNat) (hk : 0 ≤ k ∧ k < n) : 0 ≤ stb s k 1 ∧ stb s k 1 < 2 ^ n.toNat ∧ 0 ≤ stb s k 0 ∧ stb s k 0 < 2 ^ n.toNat := by
  have h64 := pw_6 hn
  have h1 := (stb_i (s := s) (k := k) (by omega) (by omega)).2.2.1
  obtain ⟨N, rfl⟩ := Int.eq_ofNat_of_zero_le hn.1
  obtain ⟨a, rfl⟩ := Int.eq_ofNat_of_zero_le hs.1
  obtain ⟨b, rfl⟩ := Int.eq_ofNat_of_zero_le hk.1
  have e : ((2 : Int) ^ (Int.toNat ((N : Nat) : Int))) = ((2 ^ N : Nat) : Int) := by
    rw [Int.toNat_natCast, Int.natCast_pow]; rfl
  rw [e] at hs ⊢
  have h2 := of_decide_eq_true (List.all_eq_true.mp (List.all_eq_true.mp (List.all_eq_true.mp stb_lt N (List.mem_range.mpr (by omega))) a (List.mem_range.mpr (by omega))) b (List.mem_range.mpr (by omega)))
  have e2 : ((2 : Int) ^ N) = ((2 ^ N : Nat) : Int) := by rw [Int.natCast_pow]; rfl
  rw [e2] at h2
  omega
theorem met_ok {I : Nat → Int → Int} (h : inv I) {c : co} (hc : cok I c) (t : Int) : cok I (met I c t).2 ∧ (met I c t).2.1 = c.1 ∧ 0 ≤ (met I c t).1 ∧ (met I c t).1 ≤ 1 := by
  obtain ⟨c1, c2, c3, c4⟩ := id hc
  unfold met
  split
  · rename_i ht
    have hb := stb_b (n := I 1 9) (s := c.2.2.2) (k := t) h.1 c4 ht
    have hg := gr_b h ht
    split
    · unfold sic
      split
      · exact ⟨hc, rfl, (by decide : (0 : Int) ≤ 0), (by decide : (0 : Int) ≤ 1)⟩
      · split
        · exact ⟨⟨c1, ⟨by dsimp only; omega, by dsimp only; omega⟩, c3, ⟨hb.1, hb.2.1⟩⟩, rfl, (by decide : (0 : Int) ≤ 1), (by decide : (1 : Int) ≤ 1)⟩
        · exact ⟨⟨c1, ⟨by dsimp only; omega, by dsimp only; omega⟩, c3, c4⟩, rfl, (by decide : (0 : Int) ≤ 0), (by decide : (0 : Int) ≤ 1)⟩
    · split
      · unfold gec
        split
        · exact ⟨⟨c1, ⟨by dsimp only; omega, by dsimp only; omega⟩, c3, ⟨hb.2.2.1, hb.2.2.2⟩⟩, rfl, (by decide : (0 : Int) ≤ 0), (by decide : (0 : Int) ≤ 1)⟩
        · exact ⟨hc, rfl, (by decide : (0 : Int) ≤ 0), (by decide : (0 : Int) ≤ 1)⟩
      · exact ⟨hc, rfl, (by decide : (0 : Int) ≤ 0), (by decide : (0 : Int) ≤ 1)⟩
  · exact ⟨hc, rfl, (by decide : (0 : Int) ≤ 0), (by decide : (0 : Int) ≤ 1)⟩
theorem wlk_b {I : Nat → Int → Int} {c : co} (hc : cok I c) : 0 ≤ wlk I c ∧ c.2.2.1 + wlk I c ≤ 40 ∧ wlk I c ≤ 10 := by
  have h1 := stp_b (B := plk I c.1 c.2.2.2 (I 1 9).toNat) (fr := c.2.2.1) (md := c.2.1) (c.2.1 + 1).toNat 0 (by have := hc.2.2.1; omega)
  have h2 := hc.2.1
  unfold wlk
  omega
theorem pas_ok {I : Nat → Int → Int} (h : inv I) {c : co} (hc : cok I c) (hy : c.1 < I 1 12) (act : Int) : cok I (pas I c act).2 ∧ (pas I c act).2.1 = c.1 + 1 ∧ 0 ≤ (pas I c act).1 ∧ (pas I c act).1 ≤ 21 := by
  have h1 := met_ok h (nwc_ok h hc) (tld I (nwc I c) act)
  have h2 := wlk_b h1.1
  obtain ⟨⟨c1, c2, c3, c4⟩, e, w1, w2⟩ := h1
  have e' : (met I (nwc I c) (tld I (nwc I c) act)).2.1 = c.1 := e
  unfold pas
  refine ⟨⟨⟨?_, ?_⟩, c2, ⟨?_, ?_⟩, c4⟩, ?_, ?_, ?_⟩
  · dsimp only; omega
  · dsimp only; omega
  · dsimp only; omega
  · dsimp only; omega
  · dsimp only; omega
  · dsimp only; omega
  · dsimp only; omega
section
variable {X : e_X} {d : Nat} {I J : Nat → Int → Int}
theorem sitI_bk {y m h s k : Int} {F : Int → Int} : sitI (bk I (y, m, h, s) F) k = bk I (sic I (y, m, h, s) k).2 F ∧ sitN (bk I (y, m, h, s) F) k = (sic I (y, m, h, s) k).1 := by
  by_cases c1 : bt s k = 1
  · have a : sic I (y, m, h, s) k = (0, (y, m, h, s)) := if_pos c1
    have b : sitI (bk I (y, m, h, s) F) k = bk I (y, m, h, s) F := if_pos c1
    have c : sitN (bk I (y, m, h, s) F) k = 0 := if_pos c1
    rw [a, b, c]
    exact ⟨rfl, rfl⟩
  · by_cases c2 : wst I (y, m, h, s) k
    · have a : sic I (y, m, h, s) k = (1, y, max 0 (m - gr I k / 3), h, stb s k 1) := (if_neg c1).trans (if_pos c2)
      have b : sitI (bk I (y, m, h, s) F) k = up (up (bk I (y, m, h, s) F) 1 14 (max 0 (m - gr I k / 3))) 1 10 (stb s k 1) := (if_neg c1).trans (if_pos c2)
      have c : sitN (bk I (y, m, h, s) F) k = 1 := (if_neg c1).trans (if_pos c2)
      rw [a, b, c, bk_m, bk_s]
      exact ⟨rfl, rfl⟩
    · have a : sic I (y, m, h, s) k = (0, y, max 0 (m - 1), h, s) := (if_neg c1).trans (if_neg c2)
      have b : sitI (bk I (y, m, h, s) F) k = up (bk I (y, m, h, s) F) 1 14 (max 0 (m - 1)) := (if_neg c1).trans (if_neg c2)
      have c : sitN (bk I (y, m, h, s) F) k = 0 := (if_neg c1).trans (if_neg c2)
      rw [a, b, c, bk_m]
      exact ⟨rfl, rfl⟩
theorem getI_bk {y m h s k : Int} {F : Int → Int} : getI (bk I (y, m, h, s) F) k = bk I (gec (y, m, h, s) k) F := by
  by_cases c1 : bt s k = 1
  · have a : gec (y, m, h, s) k = (y, min 9 (m + 1), h, stb s k 0) := if_pos c1
    have b : getI (bk I (y, m, h, s) F) k = up (up (bk I (y, m, h, s) F) 1 10 (stb s k 0)) 1 14 (min 9 (m + 1)) := if_pos c1
    rw [a, b, bk_s, bk_m]
  · have a : gec (y, m, h, s) k = (y, m, h, s) := if_neg c1
    have b : getI (bk I (y, m, h, s) F) k = bk I (y, m, h, s) F := if_neg c1
    rw [a, b]
theorem fct_bk {c : co} {F : Int → Int} {k : Int} : ∃ F', fct (bk I c F) k = bk I c F' := by
  refine ⟨upf (upf (upf (upf (upf F 0 (bk I c F 1 11)) 1 (bk I c F 4 k)) 2 (gr (bk I c F) k)) 3 (bk I c F 1 14)) 4 k, ?_⟩
  unfold fct
  rw [bk_f, bk_f, bk_f, bk_f, bk_f]
theorem t_p80 (h : inv I) {c : co} (hc : cok I c) {F : Int → Int} {w : Int} {v1 v2 v3 : Int32} : s_j X (d + 2) 79 80 [.ref 1, .int v1, .int v2, .int v3, .int (iI w), .retAddr 0] [] (mm (bk I c F) J) = some ([.int (iI (w + 2 * wlk I c))], mm (bk I (c.1 + 1, c.2.1, c.2.2.1 + wlk I c, c.2.2.2) F) J) := by
  obtain ⟨y, m, sh, st⟩ := c
  have hi := inv_bk (F := F) h hc
  obtain ⟨c1, c2, c3, c4⟩ := hc
  simp only at c1 c2 c3 c4
  have h64 := pw_6 h.1
  have h16 := h.2.2.2.1
  have e1 := t_pl (X := X) (d := d) (J := J) hi (by show y ≤ 16; omega) (st := st) (by omega)
  rw [plk_eq, bk_n0] at e1
  have hB : plk I y st (I 1 9).toNat < 2 ^ 52 := by
    rw [← plk_eq (m := m) (h := sh) (s := st) (F := F)]
    exact plc_b hi.2.2.2.2.2.2.1 st _ (by rw [bk_n0]; have := h.1; omega)
  have e2 := b_stp (X := X) (d := d + 1) (I := bk I (y, m, sh, st) F) (J := J) (B := plk I y st (I 1 9).toNat) (fr := sh) (md := m) (by omega) c3 c2
  simp (disch := omega) only [v_79_1, x_aload0, f_1_11, x_call2_0, x_call2_1, x_call2_2, x_call2_3, x_call2_4, e_k_s, e_k_i, List.nil_append, List.cons_append, f_1_14, p_1_14, x_iload1, x_sipush, x_if_icmp_ne, x_call1_0, x_call1_1, x_call1_2, x_call1_3, x_call1_4, x_goto, u_79_31, x_isub, x_jsr, u_79_34, x_istore2i, x_istore2r, x_istore2u, x_iload2, x_ifCond_eq, x_ifCond_eqb, u_79_51, u_79_52, x_istore3i, x_istore3r, x_istore3u, x_istore4i, x_istore4r, x_istore4u, x_iload3, x_ifCond_ne, x_ifCond_neb, u_79_70, u_79_80, f_1_10, f_1_15, x_call3_0, x_call3_1, x_call3_2, x_call3_3, x_call3_4, x_istore5i, x_istore5r, x_istore5u, x_dup_i, x_dup_r, x_iload5, x_iadd, p_1_15, p_1_11, x_iload4, x_imul, x_ireturn, bk_s0, bk_m0, bk_h0, bk_y0, e1, e2, bk_h, bk_y, Int.add_comm 1, b01_0, ite_not, if_true, if_false, Int.reduceLT, Int.reduceEq]
  rfl
theorem t_p34 (h : inv I) (hR : rok I) {c : co} (hc : cok I c) {F : Int → Int} {t : Int} (ht : rg t) {v1 : Int32} : ∃ F', s_j X (d + 4) 79 34 [.ref 1, .int v1, .retAddr 0, .retAddr 0, .retAddr 0, .retAddr 0] [.int (iI t)] (mm (bk I c F) J) = some ([.int (iI ((met I c t).1 + 2 * wlk I (met I c t).2))], mm (bk I ((met I c t).2.1 + 1, (met I c t).2.2.1, (met I c t).2.2.2.1 + wlk I (met I c t).2, (met I c t).2.2.2.2) F') J) := by
  obtain ⟨y, m, sh, st⟩ := c
  have hi := inv_bk (F := F) h hc
  have h16 := h.2.2.2.1
  have hy := hc.1
  simp only at hy
  have e1 := t_has (X := X) (d := d + 3) (I := bk I (y, m, sh, st) F) (J := J) ht rfl h.1
  rw [bk_n0] at e1
  have hm := met_ok h hc t
  by_cases hs : 0 ≤ t ∧ t < I 1 9
  · rw [if_pos hs] at e1
    obtain ⟨F1, f1⟩ := fct_bk (I := I) (c := (y, m, sh, st)) (F := F) (k := t)
    have e2 := t_will (X := X) (d := d) (J := J) hi (rok_bk hR) (by show y ≤ 16; omega) (k := t) hs
    rw [wil_eq, f1] at e2
    have hw := wil_b hR (y, m, sh, st) t
    have hi1 := inv_bk (F := F1) h hc
    unfold met at hm ⊢
    rw [if_pos hs] at hm
    rw [if_pos hs]
    by_cases q0 : wil I (y, m, sh, st) t = 0
    · rw [if_pos q0] at hm
      rw [if_pos q0]
      have e3 := t_sit (X := X) (d := d + 1) (J := J) hi1 (k := t) hs
      rw [sitI_bk.1, sitI_bk.2] at e3
      have e4 := t_p80 (X := X) (d := d + 2) (J := J) h hm.1 (F := F1) (w := (sic I (y, m, sh, st) t).1) (v1 := v1) (v2 := iI t) (v3 := iI 0)
      refine ⟨F1, ?_⟩
      rw [q0] at e2
      simp (disch := omega) only [v_79_1, x_aload0, f_1_11, x_call2_0, x_call2_1, x_call2_2, x_call2_3, x_call2_4, e_k_s, e_k_i, List.nil_append, List.cons_append, f_1_14, p_1_14, x_iload1, x_sipush, x_if_icmp_ne, x_call1_0, x_call1_1, x_call1_2, x_call1_3, x_call1_4, x_goto, u_79_31, x_isub, x_jsr, u_79_34, x_istore2i, x_istore2r, x_istore2u, x_iload2, x_ifCond_eq, x_ifCond_eqb, u_79_51, u_79_52, x_istore3i, x_istore3r, x_istore3u, x_istore4i, x_istore4r, x_istore4u, x_iload3, x_ifCond_ne, x_ifCond_neb, u_79_70, f_1_10, f_1_15, x_call3_0, x_call3_1, x_call3_2, x_call3_3, x_call3_4, x_istore5i, x_istore5r, x_istore5u, x_dup_i, x_dup_r, x_iload5, x_iadd, p_1_15, p_1_11, x_iload4, x_imul, x_ireturn, e1, e2, e3, e4, b01_0, ite_not, if_true, if_false, Int.reduceLT, Int.reduceEq]
    · rw [if_neg q0] at hm
      rw [if_neg q0]
      by_cases q2 : wil I (y, m, sh, st) t = 2
      · rw [if_pos q2] at hm
        rw [if_pos q2]
        have e3 := t_get (X := X) (d := d + 2) (J := J) hi1 (k := t) hs
        rw [getI_bk] at e3
        have e4 := t_p80 (X := X) (d := d + 2) (J := J) h hm.1 (F := F1) (w := 0) (v1 := v1) (v2 := iI t) (v3 := iI 2)
        refine ⟨F1, ?_⟩
        rw [q2] at e2
        simp (disch := omega) only [v_79_1, x_aload0, f_1_11, x_call2_0, x_call2_1, x_call2_2, x_call2_3, x_call2_4, e_k_s, e_k_i, List.nil_append, List.cons_append, f_1_14, p_1_14, x_iload1, x_sipush, x_if_icmp_ne, x_call1_0, x_call1_1, x_call1_2, x_call1_3, x_call1_4, x_goto, u_79_31, x_isub, x_jsr, u_79_34, x_istore2i, x_istore2r, x_istore2u, x_iload2, x_ifCond_eq, x_ifCond_eqb, u_79_51, u_79_52, x_istore3i, x_istore3r, x_istore3u, x_istore4i, x_istore4r, x_istore4u, x_iload3, x_ifCond_ne, x_ifCond_neb, u_79_70, f_1_10, f_1_15, x_call3_0, x_call3_1, x_call3_2, x_call3_3, x_call3_4, x_istore5i, x_istore5r, x_istore5u, x_dup_i, x_dup_r, x_iload5, x_iadd, p_1_15, p_1_11, x_iload4, x_imul, x_ireturn, e1, e2, e3, e4, b01_0, ite_not, if_true, if_false, Int.reduceLT, Int.reduceEq]
      · rw [if_neg q2] at hm
        rw [if_neg q2]
        have q1 : wil I (y, m, sh, st) t = 1 := by omega
        have e4 := t_p80 (X := X) (d := d + 2) (J := J) h hm.1 (F := F1) (w := 0) (v1 := v1) (v2 := iI t) (v3 := iI 1)
        refine ⟨F1, ?_⟩
        rw [q1] at e2
        simp (disch := omega) only [v_79_1, x_aload0, f_1_11, x_call2_0, x_call2_1, x_call2_2, x_call2_3, x_call2_4, e_k_s, e_k_i, List.nil_append, List.cons_append, f_1_14, p_1_14, x_iload1, x_sipush, x_if_icmp_ne, x_call1_0, x_call1_1, x_call1_2, x_call1_3, x_call1_4, x_goto, u_79_31, x_isub, x_jsr, u_79_34, x_istore2i, x_istore2r, x_istore2u, x_iload2, x_ifCond_eq, x_ifCond_eqb, u_79_51, u_79_52, x_istore3i, x_istore3r, x_istore3u, x_istore4i, x_istore4r, x_istore4u, x_iload3, x_ifCond_ne, x_ifCond_neb, u_79_70, f_1_10, f_1_15, x_call3_0, x_call3_1, x_call3_2, x_call3_3, x_call3_4, x_istore5i, x_istore5r, x_istore5u, x_dup_i, x_dup_r, x_iload5, x_iadd, p_1_15, p_1_11, x_iload4, x_imul, x_ireturn, e1, e2, e4, b01_0, ite_not, if_true, if_false, Int.reduceLT, Int.reduceEq]
  · rw [if_neg hs] at e1
    unfold met at hm ⊢
    rw [if_neg hs] at hm
    rw [if_neg hs]
    have e4 := t_p80 (X := X) (d := d + 2) (J := J) h hm.1 (F := F) (w := 0) (v1 := v1) (v2 := iI t) (v3 := iI 1)
    refine ⟨F, ?_⟩
    simp (disch := omega) only [v_79_1, x_aload0, f_1_11, x_call2_0, x_call2_1, x_call2_2, x_call2_3, x_call2_4, e_k_s, e_k_i, List.nil_append, List.cons_append, f_1_14, p_1_14, x_iload1, x_sipush, x_if_icmp_ne, x_call1_0, x_call1_1, x_call1_2, x_call1_3, x_call1_4, x_goto, u_79_31, x_isub, x_jsr, u_79_34, x_istore2i, x_istore2r, x_istore2u, x_iload2, x_ifCond_eq, x_ifCond_eqb, u_79_51, u_79_52, x_istore3i, x_istore3r, x_istore3u, x_istore4i, x_istore4r, x_istore4u, x_iload3, x_ifCond_ne, x_ifCond_neb, u_79_70, f_1_10, f_1_15, x_call3_0, x_call3_1, x_call3_2, x_call3_3, x_call3_4, x_istore5i, x_istore5r, x_istore5u, x_dup_i, x_dup_r, x_iload5, x_iadd, p_1_15, p_1_11, x_iload4, x_imul, x_ireturn, e1, e4, b01_0, ite_not, if_true, if_false, Int.reduceLT, Int.reduceEq]
theorem lww_rg {c : co} (h : 0 ≤ I 1 9 ∧ I 1 9 ≤ 6) : rg (lww I c (I 1 9).toNat 0) := by
  rcases lww_b (I := I) (c := c) (I 1 9).toNat 0 with q | ⟨q1, q2, _⟩
  · rw [q]; decide
  · constructor <;> omega
/-- A YEAR goes by in the class -/
theorem t_pas (h : inv I) (hR : rok I) {c : co} (hc : cok I c) (F : Int → Int) {a : Int} (ha : -1 ≤ a ∧ a ≤ 100000) : ∃ F', s_S X (d + 5) 79 [.ref 1, .int (iI a)] (mm (bk I c F) J) = some ([.int (iI (pas I c a).1)], mm (bk I (pas I c a).2 F') J) := by
  obtain ⟨y, m, sh, st⟩ := c
  have hi := inv_bk (F := F) h hc
  have h16 := h.2.2.2.1
  have hy := hc.1
  simp only at hy
  have e1 := t_news (X := X) (d := d + 2) (J := J) hi (y := y) ⟨by omega, by omega⟩
  rw [show nws (bk I (y, m, sh, st) F) y = nws I y from rfl] at e1
  have e2 := b_mood (X := X) (d := d + 3) (I := bk I (y, m, sh, st) F) (J := J) (nws_b h y) hc.2.1
  have hn := nwc_ok h hc
  have hnw : nwc I (y, m, sh, st) = (y, mdb (nws I y) m, sh, st) := rfl
  unfold pas
  by_cases q : a = -1
  · subst q
    have e3 := t_lw (X := X) (d := d + 1) (J := J) (inv_bk (F := F) h hn)
    rw [lww_eq, bk_n0, hnw] at e3
    have ht : tld I (nwc I (y, m, sh, st)) (-1) = lww I (nwc I (y, m, sh, st)) (I 1 9).toNat 0 := if_pos rfl
    rw [ht]
    obtain ⟨F', e4⟩ := t_p34 (X := X) (d := d) (J := J) h hR hn (F := F) (t := lww I (nwc I (y, m, sh, st)) (I 1 9).toNat 0) (lww_rg h.1) (v1 := iI (-1))
    refine ⟨F', ?_⟩
    rw [← e4, hnw]
    simp (disch := omega) only [v_79_1, u_79_0, x_aload0, f_1_11, x_call2_0, x_call2_1, x_call2_2, x_call2_3, x_call2_4, e_k_s, e_k_i, List.nil_append, List.cons_append, f_1_14, p_1_14, x_iload1, x_sipush, x_if_icmp_ne, x_call1_0, x_call1_1, x_call1_2, x_call1_3, x_call1_4, x_goto, u_79_31, x_isub, x_jsr, x_istore2i, x_istore2r, x_istore2u, x_iload2, x_ifCond_eq, x_ifCond_eqb, u_79_51, u_79_52, x_istore3i, x_istore3r, x_istore3u, x_istore4i, x_istore4r, x_istore4u, x_iload3, x_ifCond_ne, x_ifCond_neb, u_79_70, f_1_10, f_1_15, x_call3_0, x_call3_1, x_call3_2, x_call3_3, x_call3_4, x_istore5i, x_istore5r, x_istore5u, x_dup_i, x_dup_r, x_iload5, x_iadd, p_1_15, p_1_11, x_iload4, x_imul, x_ireturn, bk_y0, bk_m0, e1, e2, bk_m, e3, b01_0, ite_not, if_true, if_false, Int.reduceLT, Int.reduceEq]
  · have ht : tld I (nwc I (y, m, sh, st)) a = a - 1 := if_neg q
    rw [ht]
    obtain ⟨F', e4⟩ := t_p34 (X := X) (d := d) (J := J) h hR hn (F := F) (t := a - 1) ⟨by omega, by omega⟩ (v1 := iI a)
    refine ⟨F', ?_⟩
    rw [← e4, hnw]
    simp (disch := omega) only [v_79_1, u_79_0, x_aload0, f_1_11, x_call2_0, x_call2_1, x_call2_2, x_call2_3, x_call2_4, e_k_s, e_k_i, List.nil_append, List.cons_append, f_1_14, p_1_14, x_iload1, x_sipush, x_if_icmp_ne, x_call1_0, x_call1_1, x_call1_2, x_call1_3, x_call1_4, x_goto, u_79_31, x_isub, x_jsr, x_istore2i, x_istore2r, x_istore2u, x_iload2, x_ifCond_eq, x_ifCond_eqb, u_79_51, u_79_52, x_istore3i, x_istore3r, x_istore3u, x_istore4i, x_istore4r, x_istore4u, x_iload3, x_ifCond_ne, x_ifCond_neb, u_79_70, f_1_10, f_1_15, x_call3_0, x_call3_1, x_call3_2, x_call3_3, x_call3_4, x_istore5i, x_istore5r, x_istore5u, x_dup_i, x_dup_r, x_iload5, x_iadd, p_1_15, p_1_11, x_iload4, x_imul, x_ireturn, bk_y0, bk_m0, e1, e2, bk_m, b01_0, ite_not, if_true, if_false, Int.reduceLT, Int.reduceEq]
    rw [if_neg q]
theorem t_pss (h : inv I) (hR : rok I) {c : co} (hc : cok I c) (F : Int → Int) {a : Int} (ha : -1 ≤ a ∧ a ≤ 100000) : ∃ F', s_S X (d + 6) 78 [.ref 1, .int (iI a)] (mm (bk I c F) J) = some ([.int (iI (pas I c a).1)], mm (bk (up I 1 13 (I 1 13 + (pas I c a).1)) (pas I c a).2 F') J) := by
  obtain ⟨F', e⟩ := t_pas (X := X) (d := d) (J := J) h hR hc F ha
  refine ⟨F', ?_⟩
  simp (disch := omega) only [v_78_1, u_78_0, x_aload0, x_iload1, x_call2_0, x_call2_1, x_call2_2, x_call2_3, x_call2_4, e_k_s, e_k_i, List.nil_append, List.cons_append, x_istore2i, x_istore2r, x_istore2u, x_dup_i, x_dup_r, f_1_13, x_iload2, x_iadd, p_1_13, x_ireturn, e, bk_c0, bk_uc, b01_0, ite_not, if_true, if_false, Int.reduceLT, Int.reduceEq]
end
