/-! What a year is worth depends on the table's rows alone -/
def sq (I' I : Nat → Int → Int) : Prop := I' 1 9 = I 1 9 ∧ I' 1 12 = I 1 12 ∧ ∀ o, 2 ≤ o → o ≤ 13 → I' o = I o
section
variable {I' I : Nat → Int → Int}
theorem inv_sq (h : sq I' I) (hc : cok I (cof I')) (hi : inv I) : inv I' := by
  obtain ⟨s9, s12, sr⟩ := h
  obtain ⟨h1, h2, h3, h4, h5, h6, h7, h8, h9⟩ := hi
  obtain ⟨c1, c2, c3, c4⟩ := hc
  unfold inv
  rw [s9, s12, sr 2 (by decide) (by decide), sr 3 (by decide) (by decide), sr 4 (by decide) (by decide), sr 5 (by decide) (by decide), sr 6 (by decide) (by decide), sr 7 (by decide) (by decide), sr 8 (by decide) (by decide)]
  exact ⟨h1, c4, c1, h4, c2, c3, h7, h8, h9⟩
theorem rok_sq (h : sq I' I) (hR : rok I) : rok I' := rok_eq (by rw [h.2.2 9 (by decide) (by decide)]) (h.2.2 10 (by decide) (by decide)) (h.2.2 11 (by decide) (by decide)) (h.2.2 12 (by decide) (by decide)) (h.2.2 13 (by decide) (by decide)) hR
theorem cok_sq (h : sq I' I) {c : co} (hc : cok I c) : cok I' c := by
  unfold cok
  rw [h.1, h.2.1]
  exact hc
theorem gr_sq (h : sq I' I) : gr I' = gr I := by
  funext k
  unfold gr
  rw [h.2.2 2 (by decide) (by decide), h.2.2 5 (by decide) (by decide), h.2.2 6 (by decide) (by decide)]
theorem wst_sq (h : sq I' I) {c : co} {k : Int} : (wst I' c k) = (wst I c k) := by
  unfold wst
  rw [gr_sq h, h.2.2 5 (by decide) (by decide), h.2.2 7 (by decide) (by decide)]
theorem lww_sq (h : sq I' I) {c : co} : ∀ (n : Nat) (k : Int), lww I' c n k = lww I c n k
  | 0, _ => rfl
  | n + 1, k => by
    unfold lww
    simp only [wst_sq h]
    rw [lww_sq h n]
theorem plk_sq (h : sq I' I) {y st : Int} : ∀ n : Nat, plk I' y st n = plk I y st n
  | 0 => rfl
  | n + 1 => by
    unfold plk
    rw [plk_sq h n, h.2.2 2 (by decide) (by decide), h.2.2 3 (by decide) (by decide), h.2.2 4 (by decide) (by decide)]
theorem wil_sq (h : sq I' I) {c : co} {k : Int} : wil I' c k = wil I c k := by
  have e : ∀ o, 2 ≤ o → o ≤ 13 → ∀ k, fct (bk I' c z0) k o = fct (bk I c z0) k o := fun o h0 h1 k => by
    funext b
    rw [fct_o (by omega), fct_o (by omega), bk_o (by omega) (by omega), bk_o (by omega) (by omega), h.2.2 o h0 h1]
  unfold wil will
  rw [show bk I' c z0 2 k = I' 2 k from rfl, show bk I c z0 2 k = I 2 k from rfl, show bk I' c z0 9 5 = I' 9 5 from rfl, show bk I c z0 9 5 = I 9 5 from rfl, h.2.2 2 (by decide) (by decide), h.2.2 9 (by decide) (by decide)]
  refine tel_eq (e 10 (by decide) (by decide) k) (e 11 (by decide) (by decide) k) (e 12 (by decide) (by decide) k) (e 13 (by decide) (by decide) k) (fun i hi => ?_) _ _ _
  have g := congrFun (gr_sq h) k
  have w := congrFun (h.2.2 4 (by decide) (by decide)) k
  have : i = 0 ∨ i = 1 ∨ i = 2 ∨ i = 3 ∨ i = 4 := by omega
  rcases this with rfl | rfl | rfl | rfl | rfl
  · rfl
  · exact w
  · exact g
  · rfl
  · rfl
theorem sic_sq (h : sq I' I) {c : co} {k : Int} : sic I' c k = sic I c k := by
  unfold sic
  simp only [wst_sq h, gr_sq h]
theorem met_sq (h : sq I' I) {c : co} {t : Int} : met I' c t = met I c t := by
  unfold met
  rw [wil_sq h, sic_sq h, h.1]
theorem pas_sq (h : sq I' I) : pas I' = pas I := by
  funext c a
  have e1 : nwc I' c = nwc I c := by
    unfold nwc nws
    rw [h.2.2 8 (by decide) (by decide)]
  have e2 : ∀ c, tld I' c a = tld I c a := fun c => by
    unfold tld
    rw [lww_sq h, h.1]
  have e3 : ∀ c, wlk I' c = wlk I c := fun c => by
    unfold wlk
    rw [plk_sq h, h.1]
  unfold pas
  simp only [e1, e2, e3, met_sq h]
theorem nxt_sq (h : sq I' I) : nxt I' = nxt I := by
  funext c
  unfold nxt
  rw [pas_sq h]
theorem rst_sq (h : sq I' I) {c : co} {m : Int} : rst I' c m = rst I c m := by
  have e : ∀ (n : Nat) (c : co) (w : Int), rnN I' n c w = rnN I n c w := by
    intro n
    induction n with
    | zero => intro c w; rfl
    | succ n ih =>
      intro c w
      unfold rnN
      rw [nxt_sq h, pas_sq h, ih]
  unfold rst yec
  rw [e, h.2.1]
end
theorem sq_rfl (I : Nat → Int → Int) : sq I I := ⟨rfl, rfl, fun _ _ _ => rfl⟩
theorem sq_up {I : Nat → Int → Int} {o : Nat} {k v : Int} (h : 14 ≤ o ∨ (o = 1 ∧ k ≠ 9 ∧ k ≠ 12)) : sq (up I o k v) I := by
  refine ⟨?_, ?_, fun a h0 h1 => ?_⟩
  · unfold up
    rw [if_neg (by omega)]
  · unfold up
    rw [if_neg (by omega)]
  · funext b
    exact up_o (by omega)
theorem sq_tr {I J K : Nat → Int → Int} (h : sq I J) (h' : sq J K) : sq I K := ⟨h.1.trans h'.1, h.2.1.trans h'.2.1, fun o h0 h1 => (h.2.2 o h0 h1).trans (h'.2.2 o h0 h1)⟩
theorem sq_bk {I : Nat → Int → Int} {c : co} {F : Int → Int} : sq (bk I c F) I := ⟨rfl, rfl, fun o h0 h1 => by
  funext k
  exact bk_o (by omega) (by omega)⟩
section
variable {X : e_X} {d : Nat} {B I J : Nat → Int → Int}
/-- a year over another base -/
theorem s_pas (hq : sq B I) (h : inv I) (hR : rok I) {c : co} (hc : cok I c) (F : Int → Int) {a : Int} (ha : -1 ≤ a ∧ a ≤ 100000) : ∃ F', s_S X (d + 5) 79 [.ref 1, .int (iI a)] (mm (bk B c F) J) = some ([.int (iI (pas I c a).1)], mm (bk B (pas I c a).2 F') J) := by
  have e := t_pas (X := X) (d := d) (J := J) (I := bk B c F) (inv_sq (I := I) (sq_tr sq_bk hq) hc h) (rok_sq (sq_tr sq_bk hq) hR) (c := c) (cok_sq (sq_tr sq_bk hq) hc) F ha
  rw [pas_sq (sq_tr sq_bk hq), bk_bk] at e
  obtain ⟨F', e⟩ := e
  rw [bk_bk] at e
  exact ⟨F', e⟩
theorem s_mo (hq : sq B I) (h : inv I) {c : co} (hc : cok I c) {F : Int → Int} : s_S X (d + 1) 85 [.ref 1] (mm (bk B c F) J) = some ([.int (iI (cmo c))], mm (bk B c F) J) := by
  have e := t_mo (X := X) (d := d) (J := J) (I := bk B c F) (inv_sq (I := I) (sq_tr sq_bk hq) hc h) (c := c) (cok_sq (sq_tr sq_bk hq) hc) (F := F)
  rw [bk_bk] at e
  exact e
theorem s_bo (hq : sq B I) (h : inv I) {c c' : co} (hc : cok I c) {F : Int → Int} : s_S X (d + 1) 87 [.ref 1, .int (iI (cmo c))] (mm (bk B c' F) J) = some ([], mm (bk B c F) J) := by
  have e := t_bo (X := X) (d := d) (J := J) (I := bk B c F) (inv_sq (I := I) (sq_tr sq_bk hq) hc h) (c := c) (c' := c') (cok_sq (sq_tr sq_bk hq) hc) (F := F)
  rw [bk_bk, bk_bk] at e
  exact e
theorem s_yt (hq : sq B I) (h : inv I) {c : co} (hc : cok I c) {F : Int → Int} {m : Int} (hm : rg m) : s_S X (d + 1) 86 [.ref 1, .int (iI m)] (mm (bk B c F) J) = some ([.int (iI (yec I c m))], mm (bk B c F) J) := by
  have e := t_yt (X := X) (d := d) (J := J) (I := bk B c F) (inv_sq (I := I) (sq_tr sq_bk hq) hc h) (c := c) (cok_sq (sq_tr sq_bk hq) hc) (F := F) hm
  rw [bk_bk] at e
  unfold yec at e ⊢
  rw [show bk B c F 1 12 = B 1 12 from rfl, hq.2.1] at e
  exact e
end
