/-! FEED: the two ways to a byte -/
theorem fd_eq (x : Int64) {j : Int} (h : 0 ≤ j ∧ j < 8) : (x >>> ((iI (8 * j)).toInt64 &&& 63)) &&& lI 255 = (x.toUInt64 >>> ((iI (8 * j)).toInt64.toUInt64 &&& Int64.toUInt64 63)).toInt64 &&& lI 255 := by
  apply Int64.toBitVec_inj.mp
  rcases (by omega : j = 0 ∨ j = 1 ∨ j = 2 ∨ j = 3 ∨ j = 4 ∨ j = 5 ∨ j = 6 ∨ j = 7) with rfl | rfl | rfl | rfl | rfl | rfl | rfl | rfl
  · exact by_eq x.toBitVec 0 (by decide)
  · exact by_eq x.toBitVec 8 (by decide)
  · exact by_eq x.toBitVec 16 (by decide)
  · exact by_eq x.toBitVec 24 (by decide)
  · exact by_eq x.toBitVec 32 (by decide)
  · exact by_eq x.toBitVec 40 (by decide)
  · exact by_eq x.toBitVec 48 (by decide)
  · exact by_eq x.toBitVec 56 (by decide)
