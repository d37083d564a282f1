/-! BRANCHES, FETCHING: the same by class and model -/
theorem bt_tb {s k : Int} (hs : 0 ≤ s) : bt s k = 1 ↔ s.toNat.testBit k.toNat = true := by
  obtain ⟨m, rfl⟩ := Int.eq_ofNat_of_zero_le hs
  unfold bt
  have e : ((m : Int) / 2 ^ k.toNat % 2) = ((m / 2 ^ k.toNat % 2 : Nat) : Int) := by
    rw [Int.natCast_emod, Int.natCast_ediv, Int.natCast_pow]
    rfl
  rw [e, Nat.testBit_eq_decide_div_mod_eq, decide_eq_true_eq, Int.toNat_natCast]
  omega
theorem bt_orr {a b k : Int} (ha : 0 ≤ a) (hb : 0 ≤ b) : bt (orr a b) k = 1 ↔ bt a k = 1 ∨ bt b k = 1 := by
  rw [bt_tb (s := orr a b) (by unfold orr; omega), bt_tb ha, bt_tb hb]
  unfold orr
  rw [Int.toNat_natCast, Nat.testBit_or, Bool.or_eq_true]
theorem st_ext {a b : Int} (ha : 0 ≤ a ∧ a < 64) (hb : 0 ≤ b ∧ b < 64) (h : ∀ k, 0 ≤ k → k < 6 → bt a k = bt b k) : a = b := by
  have h0 := h 0 (by decide) (by decide)
  have h1 := h 1 (by decide) (by decide)
  have h2 := h 2 (by decide) (by decide)
  have h3 := h 3 (by decide) (by decide)
  have h4 := h 4 (by decide) (by decide)
  have h5 := h 5 (by decide) (by decide)
  simp only [bt, show (0 : Int).toNat = 0 from rfl, show (1 : Int).toNat = 1 from rfl, show (2 : Int).toNat = 2 from rfl, show (3 : Int).toNat = 3 from rfl, show (4 : Int).toNat = 4 from rfl, show (5 : Int).toNat = 5 from rfl] at h0 h1 h2 h3 h4 h5
  omega
abbrev sub (a b : Int) : Prop := ∀ k, 0 ≤ k → k < 6 → bt a k = 1 → bt b k = 1
def cld (I : Nat → Int → Int) (s t : Int) : Prop := ∀ j k, 0 ≤ j → j < I 1 9 → 0 ≤ k → k < I 1 9 → bt t j = 1 → clo I s j k → bt t k = 1
theorem sub_crd {a b : Int} (h : sub a b) : crd a ≤ crd b := by
  have q : ∀ k, 0 ≤ k → k < 6 → bt a k ≤ bt b k := fun k k0 k1 => by
    have := h k k0 k1
    have := bt_01 a k
    have := bt_01 b k
    omega
  have h0 := q 0 (by decide) (by decide)
  have h1 := q 1 (by decide) (by decide)
  have h2 := q 2 (by decide) (by decide)
  have h3 := q 3 (by decide) (by decide)
  have h4 := q 4 (by decide) (by decide)
  have h5 := q 5 (by decide) (by decide)
  unfold crd
  omega
theorem sub_eq {a b : Int} (ha : 0 ≤ a ∧ a < 64) (hb : 0 ≤ b ∧ b < 64) (h : sub a b) (hc : crd b ≤ crd a) : a = b := by
  have q : ∀ k, 0 ≤ k → k < 6 → bt a k ≤ bt b k := fun k k0 k1 => by
    have := h k k0 k1
    have := bt_01 a k
    have := bt_01 b k
    omega
  have h0 := q 0 (by decide) (by decide)
  have h1 := q 1 (by decide) (by decide)
  have h2 := q 2 (by decide) (by decide)
  have h3 := q 3 (by decide) (by decide)
  have h4 := q 4 (by decide) (by decide)
  have h5 := q 5 (by decide) (by decide)
  unfold crd at hc
  refine st_ext ha hb fun k k0 k1 => ?_
  have : k = 0 ∨ k = 1 ∨ k = 2 ∨ k = 3 ∨ k = 4 ∨ k = 5 := by omega
  rcases this with rfl | rfl | rfl | rfl | rfl | rfl <;> omega
theorem sub_as {a b : Int} (ha : 0 ≤ a ∧ a < 64) (hb : 0 ≤ b ∧ b < 64) (h : sub a b) (h' : sub b a) : a = b := sub_eq ha hb h (sub_crd h')
theorem crdn_dec : (List.range 7).all (fun n => decide (crd (2 ^ n - 1) = n) && (List.range 6).all fun k => decide (bt (2 ^ n - 1) k = if k < n then 1 else 0)) = true := by decide +kernel
theorem crdn {n : Int} (hn : 0 ≤ n ∧ n ≤ 6) : crd (2 ^ n.toNat - 1) = n ∧ ∀ k, 0 ≤ k → k < 6 → bt (2 ^ n.toNat - 1) k = if k < n then 1 else 0 := by
  obtain ⟨N, rfl⟩ := Int.eq_ofNat_of_zero_le hn.1
  have h := List.all_eq_true.mp crdn_dec N (List.mem_range.mpr (by omega))
  rw [Bool.and_eq_true] at h
  refine ⟨of_decide_eq_true h.1, fun k k0 k1 => ?_⟩
  obtain ⟨K, rfl⟩ := Int.eq_ofNat_of_zero_le k0
  have := of_decide_eq_true (List.all_eq_true.mp h.2 K (List.mem_range.mpr (by omega)))
  rw [Int.toNat_natCast, this]
  by_cases q : K < N
  · rw [if_pos q, if_pos (by omega)]
  · rw [if_neg q, if_neg (by omega)]
/-- a step that adds who is close -/
def cst (I : Nat → Int → Int) (s : Int) (R : Int → Int) : Prop := ∀ a, 0 ≤ a ∧ a < 64 → (0 ≤ R a ∧ R a < 64) ∧ sub a (R a) ∧ (∀ t, cld I s t → sub a t → sub (R a) t) ∧ (R a = a → cld I s a)
theorem cst_itr {I : Nat → Int → Int} {s : Int} {R : Int → Int} (h : cst I s R) : ∀ (m : Nat) (a : Int), 0 ≤ a ∧ a < 64 → (0 ≤ itr R m a ∧ itr R m a < 64) ∧ sub a (itr R m a) ∧ (∀ t, cld I s t → sub a t → sub (itr R m a) t) ∧ (cld I s (itr R m a) ∨ crd a + m ≤ crd (itr R m a))
  | 0, a, ha => ⟨ha, fun _ _ _ q => q, fun _ _ q => q, Or.inr (by show crd a + ((0 : Nat) : Int) ≤ crd a; omega)⟩
  | m + 1, a, ha => by
    obtain ⟨r1, r2, r3, r4⟩ := h a ha
    obtain ⟨i1, i2, i3, i4⟩ := cst_itr h m (R a) r1
    refine ⟨i1, fun k k0 k1 q => i2 k k0 k1 (r2 k k0 k1 q), fun t ht q => i3 t ht (r3 t ht q), ?_⟩
    show cld I s (itr R m (R a)) ∨ crd a + ((m + 1 : Nat) : Int) ≤ crd (itr R m (R a))
    by_cases q : R a = a
    · left
      have hc := r4 q
      have e : itr R m (R a) = a := by
        rw [q] at i1 i2 i3 ⊢
        exact sub_as i1 ha (i3 a hc (fun _ _ _ z => z)) i2
      rw [e]
      exact hc
    · rcases i4 with i4 | i4
      · exact Or.inl i4
      · right
        have : ¬ crd (R a) ≤ crd a := fun z => q (sub_eq ha r1 r2 z).symm
        omega
theorem cld_full {I : Nat → Int → Int} (h : 0 ≤ I 1 9 ∧ I 1 9 ≤ 6) {s : Int} : cld I s (2 ^ (I 1 9).toNat - 1) := by
  intro j k j0 j1 k0 k1 _ _
  rw [(crdn h).2 k k0 (by omega), if_pos k1]
theorem stb0_t {k : Int} (hk : 0 ≤ k ∧ k < 6) : ∀ c, 0 ≤ c → c < 6 → bt (stb 0 k 1) c = if c = k then 1 else 0 := fun c c0 c1 => by
  rw [((stb_i (s := 0) (by decide) hk).2.2.2 c ⟨c0, c1⟩).1]
  have : bt 0 c = 0 := by unfold bt; simp
  rw [this]
theorem cst_closed {I : Nat → Int → Int} (h : 0 ≤ I 1 9 ∧ I 1 9 ≤ 6) {s : Int} {R : Int → Int} (hR : cst I s R) {k : Int} (hk : 0 ≤ k ∧ k < I 1 9) {m : Nat} (hm : I 1 9 ≤ m) : cld I s (itr R m (stb 0 k 1)) := by
  have hb := st0_b (k := k) (by omega)
  have hs := stb0_t (k := k) (by omega)
  obtain ⟨i1, i2, i3, i4⟩ := cst_itr hR m (stb 0 k 1) (by omega)
  rcases i4 with i4 | i4
  · exact i4
  · exfalso
    have h1 := sub_crd (i3 _ (cld_full h) (fun c c0 c1 q => by
      rw [hs c c0 c1] at q
      rw [(crdn h).2 c c0 c1]
      by_cases z : c = k
      · rw [if_pos (by omega)]
      · rw [if_neg z] at q
        exact absurd q (by decide)))
    rw [(crdn h).1] at h1
    have h2 : 0 < crd (stb 0 k 1) := by
      have c0 := crd_b (s := stb 0 k 1)
      have c1 : ¬ crd (stb 0 k 1) = 0 := fun z => by
        have := (crd_0 (s := stb 0 k 1) (by omega)).mp z
        omega
      omega
    omega
theorem cst_same {I : Nat → Int → Int} (h : 0 ≤ I 1 9 ∧ I 1 9 ≤ 6) {s : Int} {R R' : Int → Int} (hR : cst I s R) (hR' : cst I s R') {k : Int} (hk : 0 ≤ k ∧ k < I 1 9) {m m' : Nat} (hm : I 1 9 ≤ m) (hm' : I 1 9 ≤ m') : itr R m (stb 0 k 1) = itr R' m' (stb 0 k 1) := by
  have hb := st0_b (k := k) (by omega)
  obtain ⟨i1, i2, i3, i4⟩ := cst_itr hR m (stb 0 k 1) (by omega)
  obtain ⟨j1, j2, j3, j4⟩ := cst_itr hR' m' (stb 0 k 1) (by omega)
  exact sub_as i1 j1 (i3 _ (cst_closed h hR' hk hm') j2) (j3 _ (cst_closed h hR hk hm) i2)
/-! the class's step -/
theorem cl1_t {I : Nat → Int → Int} {s set k : Int} (hk : 0 ≤ k ∧ k < 6) {i : Int} (hi : 0 ≤ i ∧ i < 6) : ∀ (n : Nat) (j a : Int), 0 ≤ a ∧ a < 64 → (bt (cl1 I s set k n j a) i = 1 ↔ bt a i = 1 ∨ (i = k ∧ ∃ j', (j ≤ j' ∧ j' < j + n) ∧ bt set j' = 1 ∧ clo I s j' k))
  | 0, j, a, ha => ⟨fun q => Or.inl q, fun q => by
      rcases q with q | ⟨_, j', q, _⟩
      · exact q
      · omega⟩
  | n + 1, j, a, ha => by
    have hs := stb_i ha hk
    unfold cl1
    by_cases q : bt set j = 1 ∧ clo I s j k
    · rw [if_pos q, cl1_t hk hi n (j + 1) _ (by omega), (hs.2.2.2 i hi).1]
      constructor
      · rintro (z | ⟨z, j', z1, z2⟩)
        · by_cases e : i = k
          · exact Or.inr ⟨e, j, by omega, q⟩
          · rw [if_neg e] at z
            exact Or.inl z
        · exact Or.inr ⟨z, j', by omega, z2⟩
      · rintro (z | ⟨z, _⟩)
        · left
          split
          · rfl
          · exact z
        · left
          rw [if_pos z]
    · rw [if_neg q, cl1_t hk hi n (j + 1) a ha]
      constructor
      · rintro (z | ⟨z, j', z1, z2⟩)
        · exact Or.inl z
        · exact Or.inr ⟨z, j', by omega, z2⟩
      · rintro (z | ⟨z, j', z1, z2⟩)
        · exact Or.inl z
        · by_cases e : j' = j
          · subst e
            exact absurd z2 q
          · exact Or.inr ⟨z, j', by omega, z2⟩
theorem cl2_t {I : Nat → Int → Int} {s set : Int} {i : Int} (hi : 0 ≤ i ∧ i < 6) : ∀ (n : Nat) (k a : Int), 0 ≤ k → k + n ≤ 6 → 0 ≤ a ∧ a < 64 → (bt (cl2 I s set n k a) i = 1 ↔ bt a i = 1 ∨ ((k ≤ i ∧ i < k + n) ∧ ∃ j', (0 ≤ j' ∧ j' < 0 + ((I 1 9).toNat : Int)) ∧ bt set j' = 1 ∧ clo I s j' i))
  | 0, k, a, _, _, _ => ⟨fun q => Or.inl q, fun q => by
      rcases q with q | ⟨q, _⟩
      · exact q
      · omega⟩
  | n + 1, k, a, k0, k6, ha => by
    unfold cl2
    rw [cl2_t hi n (k + 1) _ (by omega) (by omega) (cl1_b (by omega) _ _ _ ha), cl1_t (by omega) hi _ _ _ ha]
    constructor
    · rintro ((z | ⟨z, z2⟩) | ⟨z, z2⟩)
      · exact Or.inl z
      · subst z
        exact Or.inr ⟨by omega, z2⟩
      · exact Or.inr ⟨by omega, z2⟩
    · rintro (z | ⟨z, z2⟩)
      · exact Or.inl (Or.inl z)
      · by_cases e : i = k
        · subst e
          exact Or.inl (Or.inr ⟨rfl, z2⟩)
        · exact Or.inr ⟨by omega, z2⟩
theorem clR_t {I : Nat → Int → Int} (h : 0 ≤ I 1 9 ∧ I 1 9 ≤ 6) {s set i : Int} (hs : 0 ≤ set ∧ set < 64) (hi : 0 ≤ i ∧ i < 6) : bt (clR I s set) i = 1 ↔ bt set i = 1 ∨ (i < I 1 9 ∧ ∃ j', (0 ≤ j' ∧ j' < I 1 9) ∧ bt set j' = 1 ∧ clo I s j' i) := by
  have hb := cl2_b (I := I) (s := s) (set := set) (I 1 9).toNat 0 0 (by decide) (by omega) (by decide)
  unfold clR
  rw [bt_orr hs.1 hb.1, cl2_t hi _ _ _ (by decide) (by omega) (by decide)]
  have z : ¬ bt 0 i = 1 := by unfold bt; simp
  constructor
  · rintro (q | q | ⟨q, j', q1, q2⟩)
    · exact Or.inl q
    · exact absurd q z
    · exact Or.inr ⟨by omega, j', by omega, q2⟩
  · rintro (q | ⟨q, j', q1, q2⟩)
    · exact Or.inl q
    · exact Or.inr (Or.inr ⟨by omega, j', by omega, q2⟩)
theorem clR_cst {I : Nat → Int → Int} (h : 0 ≤ I 1 9 ∧ I 1 9 ≤ 6) {s : Int} : cst I s (clR I s) := by
  intro a ha
  refine ⟨clR_b h ha, fun k k0 k1 q => (clR_t h ha ⟨k0, k1⟩).mpr (Or.inl q), fun t ht hst k k0 k1 q => ?_, fun e j k j0 j1 k0 k1 q c => ?_⟩
  · rcases (clR_t h ha ⟨k0, k1⟩).mp q with z | ⟨z, j, z1, z2, z3⟩
    · exact hst k k0 k1 z
    · exact ht j k z1.1 z1.2 k0 z (hst j z1.1 (by omega) z2) z3
  · have := (clR_t (I := I) (s := s) h ha (i := k) ⟨k0, by omega⟩).mpr (Or.inr ⟨k1, j, ⟨j0, j1⟩, q, c⟩)
    rw [e] at this
    exact this
/-! the model's step -/
theorem mb1_p {I : Nat → Int → Int} {s a : Int} (ha6 : 0 ≤ a ∧ a < 6) : ∀ (n : Nat) (b set : Int), 0 ≤ b → b + n ≤ 6 → b + n ≤ I 1 9 → 0 ≤ set ∧ set < 64 → sub set (mb1 I s a n b set) ∧ (∀ t, cld I s t → (0 ≤ a ∧ a < I 1 9) → sub set t → sub (mb1 I s a n b set) t) ∧ ∀ b', b ≤ b' → b' < b + n → bt set a = 1 → clo I s a b' → bt (mb1 I s a n b set) b' = 1
  | 0, b, set, _, _, _, _ => ⟨fun _ _ _ q => q, fun _ _ _ q => q, fun b' h0 h1 => by omega⟩
  | n + 1, b, set, b0, b6, bn, hs => by
    have hst := stb_i hs (k := b) (by omega)
    unfold mb1
    by_cases q : bt set a = 1 ∧ clo I s a b
    · rw [if_pos q]
      obtain ⟨r1, r2, r3⟩ := mb1_p (I := I) (s := s) (a := a) ha6 n (b + 1) (stb set b 1) (by omega) (by omega) (by omega) (by omega)
      have hsub : sub set (stb set b 1) := fun k k0 k1 z => by
        rw [(hst.2.2.2 k ⟨k0, k1⟩).1]
        split
        · rfl
        · exact z
      refine ⟨fun k k0 k1 z => r1 k k0 k1 (hsub k k0 k1 z), fun t ht ha hst' => r2 t ht ha (fun k k0 k1 z => ?_), fun b' h0 h1 z c => ?_⟩
      · rw [(hst.2.2.2 k ⟨k0, k1⟩).1] at z
        by_cases e : k = b
        · subst e
          exact ht a k ha.1 ha.2 k0 (by omega) (hst' a ha.1 (by omega) q.1) q.2
        · rw [if_neg e] at z
          exact hst' k k0 k1 z
      · by_cases e : b' = b
        · subst e
          exact r1 b' b0 (by omega) (by rw [(hst.2.2.2 b' (by omega)).1, if_pos rfl])
        · exact r3 b' (by omega) (by omega) (hsub a ha6.1 ha6.2 z) c
    · rw [if_neg q]
      obtain ⟨r1, r2, r3⟩ := mb1_p (I := I) (s := s) (a := a) ha6 n (b + 1) set (by omega) (by omega) (by omega) hs
      refine ⟨r1, r2, fun b' h0 h1 z c => ?_⟩
      by_cases e : b' = b
      · subst e
        exact absurd ⟨z, c⟩ q
      · exact r3 b' (by omega) (by omega) z c
theorem mb2_p {I : Nat → Int → Int} (h : 0 ≤ I 1 9 ∧ I 1 9 ≤ 6) {s : Int} : ∀ (n : Nat) (a set : Int), 0 ≤ a → a + n ≤ I 1 9 → 0 ≤ set ∧ set < 64 → sub set (mb2 I s n a set) ∧ (∀ t, cld I s t → sub set t → sub (mb2 I s n a set) t) ∧ ∀ a' b', a ≤ a' → a' < a + n → 0 ≤ b' → b' < I 1 9 → bt set a' = 1 → clo I s a' b' → bt (mb2 I s n a set) b' = 1
  | 0, a, set, _, _, _ => ⟨fun _ _ _ q => q, fun _ _ q => q, fun a' b' h0 h1 => by omega⟩
  | n + 1, a, set, a0, an, hs => by
    obtain ⟨m1, m2, m3⟩ := mb1_p (I := I) (s := s) (a := a) (by omega) (I 1 9).toNat 0 set (by decide) (by omega) (by omega) hs
    have hb := mb1_b (I := I) (s := s) (a := a) (I 1 9).toNat 0 set (by decide) (by omega) hs
    obtain ⟨r1, r2, r3⟩ := mb2_p h (s := s) n (a + 1) (mb1 I s a (I 1 9).toNat 0 set) (by omega) (by omega) hb
    unfold mb2
    refine ⟨fun k k0 k1 z => r1 k k0 k1 (m1 k k0 k1 z), fun t ht hst => r2 t ht (m2 t ht (by omega) hst), fun a' b' h0 h1 b0 b1 z c => ?_⟩
    by_cases e : a' = a
    · subst e
      exact r1 b' b0 (by omega) (m3 b' b0 (by omega) z c)
    · exact r3 a' b' (by omega) (by omega) b0 b1 (m1 a' (by omega) (by omega) z) c
theorem mbR_cst {I : Nat → Int → Int} (h : 0 ≤ I 1 9 ∧ I 1 9 ≤ 6) {s : Int} : cst I s (mbR I s) := by
  intro a ha
  obtain ⟨r1, r2, r3⟩ := mb2_p h (s := s) (I 1 9).toNat 0 a (by decide) (by omega) ha
  refine ⟨mbR_b h ha, r1, r2, fun e j k j0 j1 k0 k1 q c => ?_⟩
  have := r3 j k j0 (by omega) k0 k1 q c
  rw [show mb2 I s (I 1 9).toNat 0 a = a from e] at this
  exact this
theorem brc_mbc {I : Nat → Int → Int} (h : 0 ≤ I 1 9 ∧ I 1 9 ≤ 6) {k : Int} (hk : 0 ≤ k ∧ k < I 1 9) : brc I k = mbc I (I 1 10) k := by
  unfold brc mbc
  by_cases q : bt (I 1 10) k = 1
  · rw [if_pos q, if_pos q]
  · rw [if_neg q, if_neg q]
    exact cst_same h (clR_cst h) (mbR_cst h) hk (by omega) (by omega)
theorem lof_dec : (List.range 64).all (fun a => (List.range 6).all fun b => decide ((bt a b = 1 ∨ (a : Nat) = 0) → (lof a 6 0 = b ↔ (a : Nat) ≠ 0 ∧ (a : Int) % stb 0 b 1 = 0))) = true := by decide +kernel
theorem lof_t {s k : Int} (hs : 0 ≤ s ∧ s < 64) (hk : 0 ≤ k ∧ k < 6) (h : bt s k = 1 ∨ s = 0) : lof s 6 0 = k ↔ s ≠ 0 ∧ s % stb 0 k 1 = 0 := by
  obtain ⟨a, rfl⟩ := Int.eq_ofNat_of_zero_le hs.1
  obtain ⟨b, rfl⟩ := Int.eq_ofNat_of_zero_le hk.1
  have := of_decide_eq_true (List.all_eq_true.mp (List.all_eq_true.mp lof_dec a (List.mem_range.mpr (by omega))) b (List.mem_range.mpr (by omega))) (by omega)
  rw [this]
  constructor
  · rintro ⟨x, y⟩
    exact ⟨by omega, y⟩
  · rintro ⟨x, y⟩
    exact ⟨by omega, y⟩
theorem mbc_has {I : Nat → Int → Int} (h : 0 ≤ I 1 9 ∧ I 1 9 ≤ 6) {s k : Int} (hk : 0 ≤ k ∧ k < I 1 9) : bt (mbc I s k) k = 1 ∨ mbc I s k = 0 := by
  unfold mbc
  by_cases q : bt s k = 1
  · rw [if_pos q]
    exact Or.inr rfl
  · rw [if_neg q]
    left
    have hb := st0_b (k := k) (by omega)
    exact (cst_itr (mbR_cst h) (I 1 9).toNat (stb 0 k 1) (by omega)).2.1 k hk.1 (by omega) (by rw [stb0_t (k := k) (by omega) k hk.1 (by omega), if_pos rfl])
theorem cbr_mcb {I : Nat → Int → Int} (h : 0 ≤ I 1 9 ∧ I 1 9 ≤ 6) : ∀ (n : Nat) (k a : Int), 0 ≤ k → k + n ≤ I 1 9 → cbr I n k a = mcb I (I 1 10) n k a
  | 0, _, _, _, _ => rfl
  | n + 1, k, a, k0, kn => by
    unfold cbr mcb
    rw [brc_mbc h ⟨k0, by omega⟩, cbr_mcb h n (k + 1) _ (by omega) (by omega)]
    congr 1
    have t := lof_t (mbc_b h (s := I 1 10) (k := k) ⟨k0, by omega⟩) ⟨k0, by omega⟩ (mbc_has h ⟨k0, by omega⟩)
    by_cases q : lof (mbc I (I 1 10) k) 6 0 = k
    · rw [if_pos q, if_pos (t.mp q)]
    · rw [if_neg q, if_neg (fun z => q (t.mpr z)), Int.add_zero]
/-! FETCHING: the line -/
theorem iabs_m (z : Int) : iabs z = max z (-z) := by
  unfold iabs
  split <;> omega
theorem mn1_s {I : Nat → Int → Int} {s : Int} : ∀ (n : Nat) (k a : Int), mn1 I s n k a ≤ a ∧ (∀ j, k ≤ j → j < k + n → bt s j = 1 → mn1 I s n k a ≤ I 3 j) ∧ (mn1 I s n k a = a ∨ ∃ j, (k ≤ j ∧ j < k + n) ∧ bt s j = 1 ∧ mn1 I s n k a = I 3 j)
  | 0, k, a => ⟨Int.le_refl a, fun j h0 h1 => by omega, Or.inl rfl⟩
  | n + 1, k, a => by
    unfold mn1
    by_cases q : bt s k = 1
    · rw [if_pos q]
      obtain ⟨r1, r2, r3⟩ := mn1_s (I := I) (s := s) n (k + 1) (min a (I 3 k))
      refine ⟨by omega, fun j h0 h1 z => ?_, ?_⟩
      · by_cases e : j = k
        · subst e
          omega
        · exact r2 j (by omega) (by omega) z
      · rcases r3 with r3 | ⟨j, h0, h1, h2⟩
        · by_cases e : a ≤ I 3 k
          · left; omega
          · right; exact ⟨k, by omega, q, by omega⟩
        · exact Or.inr ⟨j, by omega, h1, h2⟩
    · rw [if_neg q]
      obtain ⟨r1, r2, r3⟩ := mn1_s (I := I) (s := s) n (k + 1) a
      refine ⟨r1, fun j h0 h1 z => ?_, ?_⟩
      · by_cases e : j = k
        · subst e
          exact absurd z q
        · exact r2 j (by omega) (by omega) z
      · rcases r3 with r3 | ⟨j, h0, h1, h2⟩
        · exact Or.inl r3
        · exact Or.inr ⟨j, by omega, h1, h2⟩
theorem mx1_s {I : Nat → Int → Int} {s : Int} : ∀ (n : Nat) (k a : Int), a ≤ mx1 I s n k a ∧ (∀ j, k ≤ j → j < k + n → bt s j = 1 → I 3 j ≤ mx1 I s n k a) ∧ (mx1 I s n k a = a ∨ ∃ j, (k ≤ j ∧ j < k + n) ∧ bt s j = 1 ∧ mx1 I s n k a = I 3 j)
  | 0, k, a => ⟨Int.le_refl a, fun j h0 h1 => by omega, Or.inl rfl⟩
  | n + 1, k, a => by
    unfold mx1
    by_cases q : bt s k = 1
    · rw [if_pos q]
      obtain ⟨r1, r2, r3⟩ := mx1_s (I := I) (s := s) n (k + 1) (max a (I 3 k))
      refine ⟨by omega, fun j h0 h1 z => ?_, ?_⟩
      · by_cases e : j = k
        · subst e
          omega
        · exact r2 j (by omega) (by omega) z
      · rcases r3 with r3 | ⟨j, h0, h1, h2⟩
        · by_cases e : I 3 k ≤ a
          · left; omega
          · right; exact ⟨k, by omega, q, by omega⟩
        · exact Or.inr ⟨j, by omega, h1, h2⟩
    · rw [if_neg q]
      obtain ⟨r1, r2, r3⟩ := mx1_s (I := I) (s := s) n (k + 1) a
      refine ⟨r1, fun j h0 h1 z => ?_, ?_⟩
      · by_cases e : j = k
        · subst e
          exact absurd z q
        · exact r2 j (by omega) (by omega) z
      · rcases r3 with r3 | ⟨j, h0, h1, h2⟩
        · exact Or.inl r3
        · exact Or.inr ⟨j, by omega, h1, h2⟩
/-- the line of a set: its least and greatest place, who is there -/
theorem way_s {I : Nat → Int → Int} (h : inv I) (p s : Int) : (way I p s = 0 ∧ ∀ j, 0 ≤ j → j < I 1 9 → ¬ bt s j = 1) ∨ ∃ lo hi a b, way I p s = hi - lo + min (iabs (p - lo)) (iabs (p - hi)) ∧ (∀ j, 0 ≤ j → j < I 1 9 → bt s j = 1 → lo ≤ I 3 j ∧ I 3 j ≤ hi) ∧ (0 ≤ a ∧ a < I 1 9 ∧ bt s a = 1 ∧ I 3 a = lo) ∧ (0 ≤ b ∧ b < I 1 9 ∧ bt s b = 1 ∧ I 3 b = hi) ∧ (lo = mn1 I s (I 1 9).toNat 0 40 ∧ hi = mx1 I s (I 1 9).toNat 0 (-1)) := by
  have hn := h.1
  obtain ⟨a1, a2, a3⟩ := mn1_s (I := I) (s := s) (I 1 9).toNat 0 40
  obtain ⟨b1, b2, b3⟩ := mx1_s (I := I) (s := s) (I 1 9).toNat 0 (-1)
  by_cases q : ∃ j, (0 ≤ j ∧ j < I 1 9) ∧ bt s j = 1
  · right
    obtain ⟨j, hj, hb⟩ := q
    have p3 := (h.2.2.2.2.2.2.1 j hj.1 hj.2).2.1
    have x1 := a2 j hj.1 (by omega) hb
    have x2 := b2 j hj.1 (by omega) hb
    rcases a3 with a3 | ⟨a, ha0, ha1, ha2⟩
    · omega
    rcases b3 with b3 | ⟨b, hb0, hb1, hb2⟩
    · omega
    refine ⟨mn1 I s (I 1 9).toNat 0 40, mx1 I s (I 1 9).toNat 0 (-1), a, b, ?_, fun j j0 j1 z => ⟨a2 j j0 (by omega) z, b2 j j0 (by omega) z⟩, ⟨by omega, by omega, ha1, ha2.symm⟩, ⟨by omega, by omega, hb1, hb2.symm⟩, rfl, rfl⟩
    unfold way
    rw [if_neg (by omega)]
  · left
    have hno : ∀ j, 0 ≤ j → j < I 1 9 → ¬ bt s j = 1 := fun j j0 j1 z => q ⟨j, ⟨j0, j1⟩, z⟩
    refine ⟨?_, hno⟩
    unfold way
    rcases b3 with b3 | ⟨b, hb0, hb1, hb2⟩
    · rw [if_pos (by omega)]
    · exact absurd hb1 (hno b (by omega) (by omega))
theorem way_k {I : Nat → Int → Int} (h : inv I) {p s k : Int} (hs : 0 ≤ s ∧ s < 64) (hk : 0 ≤ k ∧ k < I 1 9) (hb : bt s k = 1) : way I p s ≤ iabs (p - I 3 k) + way I (I 3 k) (stb s k 0) := by
  have hn := h.1
  have hst := (stb_i hs (k := k) (by omega)).2.2.2
  rcases way_s h p s with ⟨_, z⟩ | ⟨lo, hi, a, b, w, l, ⟨a0, a1, a2, a3⟩, ⟨b0, b1, b2, b3⟩, _⟩
  · exact absurd hb (z k hk.1 hk.2)
  have lk := l k hk.1 hk.2 hb
  rw [w, iabs_m, iabs_m, iabs_m]
  rcases way_s h (I 3 k) (stb s k 0) with ⟨w', z⟩ | ⟨lo', hi', a', b', w', l', ⟨a0', a1', a2', a3'⟩, ⟨b0', b1', b2', b3'⟩, _⟩
  · rw [w']
    have e1 : a = k := by
      refine Classical.byContradiction fun q => z a a0 a1 ?_
      rw [(hst a (by omega)).2, if_neg q]
      exact a2
    have e2 : b = k := by
      refine Classical.byContradiction fun q => z b b0 b1 ?_
      rw [(hst b (by omega)).2, if_neg q]
      exact b2
    subst e1
    subst e2
    omega
  · rw [w', iabs_m, iabs_m]
    have x1 : lo = I 3 k ∨ lo' ≤ lo := by
      by_cases q : a = k
      · subst q; left; omega
      · right
        have := (l' a a0 a1 (by rw [(hst a (by omega)).2, if_neg q]; exact a2)).1
        omega
    have x2 : hi = I 3 k ∨ hi ≤ hi' := by
      by_cases q : b = k
      · subst q; left; omega
      · right
        have := (l' b b0 b1 (by rw [(hst b (by omega)).2, if_neg q]; exact b2)).2
        omega
    have x3 : lo' ≤ hi' := by
      have := (l' a' a0' a1' a2').2
      omega
    omega
theorem way_e {I : Nat → Int → Int} (h : inv I) {p s k : Int} (hs : 0 ≤ s ∧ s < 64) (hk : 0 ≤ k ∧ k < I 1 9) (hb : bt s k = 1) : ∃ j, (0 ≤ j ∧ j < I 1 9) ∧ bt s j = 1 ∧ iabs (p - I 3 j) + way I (I 3 j) (stb s j 0) = way I p s := by
  have hn := h.1
  rcases way_s h p s with ⟨_, z⟩ | ⟨lo, hi, a, b, w, l, ⟨a0, a1, a2, a3⟩, ⟨b0, b1, b2, b3⟩, _⟩
  · exact absurd hb (z k hk.1 hk.2)
  have lab : lo ≤ hi := by
    have := (l a a0 a1 a2).2
    omega
  by_cases q : iabs (p - lo) ≤ iabs (p - hi)
  · refine ⟨a, ⟨a0, a1⟩, a2, ?_⟩
    have hst := (stb_i hs (k := a) (by omega)).2.2.2
    rw [w, a3]
    rw [iabs_m, iabs_m] at q
    rw [iabs_m, iabs_m]
    rcases way_s h lo (stb s a 0) with ⟨w', z⟩ | ⟨lo', hi', a', b', w', l', ⟨a0', a1', a2', a3'⟩, ⟨b0', b1', b2', b3'⟩, _⟩
    · have e2 : b = a := by
        refine Classical.byContradiction fun q => z b b0 b1 ?_
        rw [(hst b (by omega)).2, if_neg q]
        exact b2
      subst e2
      rw [w']
      omega
    · have ba' : ∀ j, 0 ≤ j → j < I 1 9 → bt (stb s a 0) j = 1 → bt s j = 1 := fun j j0 j1 z => by
        rw [(hst j (by omega)).2] at z
        by_cases e : j = a
        · rw [if_pos e] at z; exact absurd z (by decide)
        · rw [if_neg e] at z; exact z
      have y1 := l a' a0' a1' (ba' a' a0' a1' a2')
      have y2 := l b' b0' b1' (ba' b' b0' b1' b2')
      have x2 : hi = lo ∨ hi ≤ hi' := by
        by_cases e : b = a
        · subst e; left; omega
        · right
          have := (l' b b0 b1 (by rw [(hst b (by omega)).2, if_neg e]; exact b2)).2
          omega
      rw [w', iabs_m, iabs_m]
      omega
  · refine ⟨b, ⟨b0, b1⟩, b2, ?_⟩
    have hst := (stb_i hs (k := b) (by omega)).2.2.2
    rw [w, b3]
    rw [iabs_m, iabs_m] at q
    rw [iabs_m, iabs_m]
    rcases way_s h hi (stb s b 0) with ⟨w', z⟩ | ⟨lo', hi', a', b', w', l', ⟨a0', a1', a2', a3'⟩, ⟨b0', b1', b2', b3'⟩, _⟩
    · have e2 : a = b := by
        refine Classical.byContradiction fun q => z a a0 a1 ?_
        rw [(hst a (by omega)).2, if_neg q]
        exact a2
      subst e2
      rw [w']
      omega
    · have ba' : ∀ j, 0 ≤ j → j < I 1 9 → bt (stb s b 0) j = 1 → bt s j = 1 := fun j j0 j1 z => by
        rw [(hst j (by omega)).2] at z
        by_cases e : j = b
        · rw [if_pos e] at z; exact absurd z (by decide)
        · rw [if_neg e] at z; exact z
      have y1 := l a' a0' a1' (ba' a' a0' a1' a2')
      have y2 := l b' b0' b1' (ba' b' b0' b1' b2')
      have x2 : lo = hi ∨ lo' ≤ lo := by
        by_cases e : a = b
        · subst e; left; omega
        · right
          have := (l' a a0 a1 (by rw [(hst a (by omega)).2, if_neg e]; exact a2)).1
          omega
      rw [w', iabs_m, iabs_m]
      omega
theorem way_0 {I : Nat → Int → Int} (h : inv I) {p s : Int} (hp : 0 ≤ p ∧ p ≤ 40) : 0 ≤ way I p s := by
  rcases way_s h p s with ⟨w, _⟩ | ⟨lo, hi, a, b, w, l, ⟨a0, a1, a2, a3⟩, ⟨b0, b1, b2, b3⟩, _⟩
  · omega
  · have lab := (l a a0 a1 a2).2
    rw [w, iabs_m, iabs_m]
    omega
