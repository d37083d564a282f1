/-! THE HEAP behind the two constructors: kinds and sizes, references -/
def h_K : List (Nat × Nat) := [(9, 9), (8, 17), (100, 6), (100, 6), (100, 6), (100, 6), (100, 6), (100, 6), (100, 16), (1, 7), (100, 8), (100, 8), (100, 8), (100, 200), (100, 5), (4, 5), (100, 6), (100, 6), (100, 6), (100, 6), (8, 17), (100, 6), (100, 6), (100, 6), (100, 6), (100, 6), (100, 6), (100, 16), (1, 7), (100, 8), (100, 8), (100, 8), (100, 200), (100, 5), (4, 5), (100, 6), (100, 6), (100, 6), (100, 6), (3, 14), (1, 7), (100, 8), (100, 8), (100, 8), (100, 200), (100, 5), (100, 200), (100, 200), (2, 9), (100, 4), (100, 4), (5, 3), (100, 12), (206, 4), (207, 4), (0, 6), (100, 30), (6, 3), (102, 40), (6, 3), (102, 40), (6, 3), (102, 40), (6, 3), (102, 40), (7, 4), (7, 4), (7, 4), (7, 4), (10, 39), (100, 322), (100, 322), (100, 74), (100, 200), (100, 200), (101, 144), (100, 200), (100, 24), (100, 370), (100, 4), (100, 4), (100, 16), (100, 16), (100, 12), (100, 4), (100, 4), (100, 160), (100, 4), (100, 4), (100, 30)]
def h_R : Nat → Nat → Nat
  | 0, 0 => 2
  | 0, 1 => 21
  | 0, 3 => 40
  | 0, 4 => 49
  | 0, 5 => 52
  | 0, 6 => 54
  | 0, 7 => 55
  | 0, 8 => 56
  | 1, 0 => 3
  | 1, 1 => 4
  | 1, 2 => 5
  | 1, 3 => 6
  | 1, 4 => 7
  | 1, 5 => 8
  | 1, 6 => 9
  | 1, 7 => 10
  | 1, 8 => 16
  | 9, 0 => 11
  | 9, 1 => 12
  | 9, 2 => 13
  | 9, 3 => 14
  | 9, 4 => 15
  | 15, 0 => 17
  | 15, 1 => 18
  | 15, 2 => 19
  | 15, 3 => 20
  | 20, 0 => 22
  | 20, 1 => 23
  | 20, 2 => 24
  | 20, 3 => 25
  | 20, 4 => 26
  | 20, 5 => 27
  | 20, 6 => 28
  | 20, 7 => 29
  | 20, 8 => 35
  | 28, 0 => 30
  | 28, 1 => 31
  | 28, 2 => 32
  | 28, 3 => 33
  | 28, 4 => 34
  | 34, 0 => 36
  | 34, 1 => 37
  | 34, 2 => 38
  | 34, 3 => 39
  | 39, 0 => 41
  | 39, 1 => 47
  | 39, 12 => 48
  | 40, 0 => 42
  | 40, 1 => 43
  | 40, 2 => 44
  | 40, 3 => 45
  | 40, 4 => 46
  | 48, 0 => 2
  | 48, 1 => 50
  | 48, 2 => 51
  | 51, 0 => 2
  | 51, 1 => 53
  | 53, 0 => 58
  | 53, 1 => 60
  | 53, 2 => 62
  | 53, 3 => 64
  | 54, 0 => 66
  | 54, 1 => 67
  | 54, 2 => 68
  | 54, 3 => 69
  | 55, 0 => 57
  | 57, 0 => 59
  | 59, 0 => 61
  | 61, 0 => 63
  | 63, 0 => 65
  | 69, 0 => 71
  | 69, 1 => 72
  | 69, 2 => 73
  | 69, 4 => 74
  | 69, 5 => 75
  | 69, 7 => 76
  | 69, 14 => 77
  | 69, 15 => 78
  | 69, 18 => 79
  | 69, 19 => 80
  | 69, 20 => 81
  | 69, 25 => 82
  | 69, 26 => 83
  | 69, 28 => 84
  | 69, 30 => 85
  | 69, 31 => 86
  | 69, 32 => 87
  | 69, 33 => 88
  | 69, 34 => 89
  | 69, 35 => 90
  | _, _ => 0
theorem o_0_576 : e_ob h_K 0 576 = true := by decide +kernel
theorem o_0_577 : e_ob h_K 0 577 = true := by decide +kernel
theorem o_0_578 : e_ob h_K 0 578 = true := by decide +kernel
theorem o_0_579 : e_ob h_K 0 579 = true := by decide +kernel
theorem o_0_580 : e_ob h_K 0 580 = true := by decide +kernel
theorem o_0_581 : e_ob h_K 0 581 = true := by decide +kernel
theorem o_0_582 : e_ob h_K 0 582 = true := by decide +kernel
theorem o_0_583 : e_ob h_K 0 583 = true := by decide +kernel
theorem o_0_584 : e_ob h_K 0 584 = true := by decide +kernel
theorem o_1_512 : e_ob h_K 1 512 = true := by decide +kernel
theorem o_1_513 : e_ob h_K 1 513 = true := by decide +kernel
theorem o_1_514 : e_ob h_K 1 514 = true := by decide +kernel
theorem o_1_515 : e_ob h_K 1 515 = true := by decide +kernel
theorem o_1_516 : e_ob h_K 1 516 = true := by decide +kernel
theorem o_1_517 : e_ob h_K 1 517 = true := by decide +kernel
theorem o_1_518 : e_ob h_K 1 518 = true := by decide +kernel
theorem o_1_519 : e_ob h_K 1 519 = true := by decide +kernel
theorem o_1_520 : e_ob h_K 1 520 = true := by decide +kernel
theorem o_1_521 : e_ob h_K 1 521 = true := by decide +kernel
theorem o_1_522 : e_ob h_K 1 522 = true := by decide +kernel
theorem o_1_523 : e_ob h_K 1 523 = true := by decide +kernel
theorem o_1_524 : e_ob h_K 1 524 = true := by decide +kernel
theorem o_1_525 : e_ob h_K 1 525 = true := by decide +kernel
theorem o_1_526 : e_ob h_K 1 526 = true := by decide +kernel
theorem o_1_527 : e_ob h_K 1 527 = true := by decide +kernel
theorem o_1_528 : e_ob h_K 1 528 = true := by decide +kernel
theorem a_2 : e_ar h_K 2 e_kI = 6 := by decide +kernel
theorem a_3 : e_ar h_K 3 e_kI = 6 := by decide +kernel
theorem a_4 : e_ar h_K 4 e_kI = 6 := by decide +kernel
theorem a_5 : e_ar h_K 5 e_kI = 6 := by decide +kernel
theorem a_6 : e_ar h_K 6 e_kI = 6 := by decide +kernel
theorem a_7 : e_ar h_K 7 e_kI = 6 := by decide +kernel
theorem a_8 : e_ar h_K 8 e_kI = 16 := by decide +kernel
theorem o_9_64 : e_ob h_K 9 64 = true := by decide +kernel
theorem o_9_65 : e_ob h_K 9 65 = true := by decide +kernel
theorem o_9_66 : e_ob h_K 9 66 = true := by decide +kernel
theorem o_9_67 : e_ob h_K 9 67 = true := by decide +kernel
theorem o_9_68 : e_ob h_K 9 68 = true := by decide +kernel
theorem o_9_69 : e_ob h_K 9 69 = true := by decide +kernel
theorem o_9_70 : e_ob h_K 9 70 = true := by decide +kernel
theorem a_10 : e_ar h_K 10 e_kI = 8 := by decide +kernel
theorem a_11 : e_ar h_K 11 e_kI = 8 := by decide +kernel
theorem a_12 : e_ar h_K 12 e_kI = 8 := by decide +kernel
theorem a_13 : e_ar h_K 13 e_kI = 200 := by decide +kernel
theorem a_14 : e_ar h_K 14 e_kI = 5 := by decide +kernel
theorem o_15_256 : e_ob h_K 15 256 = true := by decide +kernel
theorem o_15_257 : e_ob h_K 15 257 = true := by decide +kernel
theorem o_15_258 : e_ob h_K 15 258 = true := by decide +kernel
theorem o_15_259 : e_ob h_K 15 259 = true := by decide +kernel
theorem o_15_260 : e_ob h_K 15 260 = true := by decide +kernel
theorem a_16 : e_ar h_K 16 e_kI = 6 := by decide +kernel
theorem a_17 : e_ar h_K 17 e_kI = 6 := by decide +kernel
theorem a_18 : e_ar h_K 18 e_kI = 6 := by decide +kernel
theorem a_19 : e_ar h_K 19 e_kI = 6 := by decide +kernel
theorem o_20_512 : e_ob h_K 20 512 = true := by decide +kernel
theorem o_20_513 : e_ob h_K 20 513 = true := by decide +kernel
theorem o_20_514 : e_ob h_K 20 514 = true := by decide +kernel
theorem o_20_515 : e_ob h_K 20 515 = true := by decide +kernel
theorem o_20_516 : e_ob h_K 20 516 = true := by decide +kernel
theorem o_20_517 : e_ob h_K 20 517 = true := by decide +kernel
theorem o_20_518 : e_ob h_K 20 518 = true := by decide +kernel
theorem o_20_519 : e_ob h_K 20 519 = true := by decide +kernel
theorem o_20_520 : e_ob h_K 20 520 = true := by decide +kernel
theorem o_20_521 : e_ob h_K 20 521 = true := by decide +kernel
theorem o_20_522 : e_ob h_K 20 522 = true := by decide +kernel
theorem o_20_523 : e_ob h_K 20 523 = true := by decide +kernel
theorem o_20_524 : e_ob h_K 20 524 = true := by decide +kernel
theorem o_20_525 : e_ob h_K 20 525 = true := by decide +kernel
theorem o_20_526 : e_ob h_K 20 526 = true := by decide +kernel
theorem o_20_527 : e_ob h_K 20 527 = true := by decide +kernel
theorem o_20_528 : e_ob h_K 20 528 = true := by decide +kernel
theorem a_21 : e_ar h_K 21 e_kI = 6 := by decide +kernel
theorem a_22 : e_ar h_K 22 e_kI = 6 := by decide +kernel
theorem a_23 : e_ar h_K 23 e_kI = 6 := by decide +kernel
theorem a_24 : e_ar h_K 24 e_kI = 6 := by decide +kernel
theorem a_25 : e_ar h_K 25 e_kI = 6 := by decide +kernel
theorem a_26 : e_ar h_K 26 e_kI = 6 := by decide +kernel
theorem a_27 : e_ar h_K 27 e_kI = 16 := by decide +kernel
theorem o_28_64 : e_ob h_K 28 64 = true := by decide +kernel
theorem o_28_65 : e_ob h_K 28 65 = true := by decide +kernel
theorem o_28_66 : e_ob h_K 28 66 = true := by decide +kernel
theorem o_28_67 : e_ob h_K 28 67 = true := by decide +kernel
theorem o_28_68 : e_ob h_K 28 68 = true := by decide +kernel
theorem o_28_69 : e_ob h_K 28 69 = true := by decide +kernel
theorem o_28_70 : e_ob h_K 28 70 = true := by decide +kernel
theorem a_29 : e_ar h_K 29 e_kI = 8 := by decide +kernel
theorem a_30 : e_ar h_K 30 e_kI = 8 := by decide +kernel
theorem a_31 : e_ar h_K 31 e_kI = 8 := by decide +kernel
theorem a_32 : e_ar h_K 32 e_kI = 200 := by decide +kernel
theorem a_33 : e_ar h_K 33 e_kI = 5 := by decide +kernel
theorem o_34_256 : e_ob h_K 34 256 = true := by decide +kernel
theorem o_34_257 : e_ob h_K 34 257 = true := by decide +kernel
theorem o_34_258 : e_ob h_K 34 258 = true := by decide +kernel
theorem o_34_259 : e_ob h_K 34 259 = true := by decide +kernel
theorem o_34_260 : e_ob h_K 34 260 = true := by decide +kernel
theorem a_35 : e_ar h_K 35 e_kI = 6 := by decide +kernel
theorem a_36 : e_ar h_K 36 e_kI = 6 := by decide +kernel
theorem a_37 : e_ar h_K 37 e_kI = 6 := by decide +kernel
theorem a_38 : e_ar h_K 38 e_kI = 6 := by decide +kernel
theorem o_39_192 : e_ob h_K 39 192 = true := by decide +kernel
theorem o_39_193 : e_ob h_K 39 193 = true := by decide +kernel
theorem o_39_194 : e_ob h_K 39 194 = true := by decide +kernel
theorem o_39_195 : e_ob h_K 39 195 = true := by decide +kernel
theorem o_39_196 : e_ob h_K 39 196 = true := by decide +kernel
theorem o_39_197 : e_ob h_K 39 197 = true := by decide +kernel
theorem o_39_198 : e_ob h_K 39 198 = true := by decide +kernel
theorem o_39_199 : e_ob h_K 39 199 = true := by decide +kernel
theorem o_39_200 : e_ob h_K 39 200 = true := by decide +kernel
theorem o_39_201 : e_ob h_K 39 201 = true := by decide +kernel
theorem o_39_202 : e_ob h_K 39 202 = true := by decide +kernel
theorem o_39_203 : e_ob h_K 39 203 = true := by decide +kernel
theorem o_39_204 : e_ob h_K 39 204 = true := by decide +kernel
theorem o_39_205 : e_ob h_K 39 205 = true := by decide +kernel
theorem o_40_64 : e_ob h_K 40 64 = true := by decide +kernel
theorem o_40_65 : e_ob h_K 40 65 = true := by decide +kernel
theorem o_40_66 : e_ob h_K 40 66 = true := by decide +kernel
theorem o_40_67 : e_ob h_K 40 67 = true := by decide +kernel
theorem o_40_68 : e_ob h_K 40 68 = true := by decide +kernel
theorem o_40_69 : e_ob h_K 40 69 = true := by decide +kernel
theorem o_40_70 : e_ob h_K 40 70 = true := by decide +kernel
theorem a_41 : e_ar h_K 41 e_kI = 8 := by decide +kernel
theorem a_42 : e_ar h_K 42 e_kI = 8 := by decide +kernel
theorem a_43 : e_ar h_K 43 e_kI = 8 := by decide +kernel
theorem a_44 : e_ar h_K 44 e_kI = 200 := by decide +kernel
theorem a_45 : e_ar h_K 45 e_kI = 5 := by decide +kernel
theorem a_46 : e_ar h_K 46 e_kI = 200 := by decide +kernel
theorem a_47 : e_ar h_K 47 e_kI = 200 := by decide +kernel
theorem o_48_128 : e_ob h_K 48 128 = true := by decide +kernel
theorem o_48_129 : e_ob h_K 48 129 = true := by decide +kernel
theorem o_48_130 : e_ob h_K 48 130 = true := by decide +kernel
theorem o_48_131 : e_ob h_K 48 131 = true := by decide +kernel
theorem o_48_132 : e_ob h_K 48 132 = true := by decide +kernel
theorem o_48_133 : e_ob h_K 48 133 = true := by decide +kernel
theorem o_48_134 : e_ob h_K 48 134 = true := by decide +kernel
theorem o_48_135 : e_ob h_K 48 135 = true := by decide +kernel
theorem o_48_136 : e_ob h_K 48 136 = true := by decide +kernel
theorem a_49 : e_ar h_K 49 e_kI = 4 := by decide +kernel
theorem a_50 : e_ar h_K 50 e_kI = 4 := by decide +kernel
theorem o_51_320 : e_ob h_K 51 320 = true := by decide +kernel
theorem o_51_321 : e_ob h_K 51 321 = true := by decide +kernel
theorem o_51_322 : e_ob h_K 51 322 = true := by decide +kernel
theorem a_52 : e_ar h_K 52 e_kI = 12 := by decide +kernel
theorem a_53 : e_ar h_K 53 206 = 4 := by decide +kernel
theorem a_54 : e_ar h_K 54 207 = 4 := by decide +kernel
theorem o_55_0 : e_ob h_K 55 0 = true := by decide +kernel
theorem o_55_1 : e_ob h_K 55 1 = true := by decide +kernel
theorem o_55_2 : e_ob h_K 55 2 = true := by decide +kernel
theorem o_55_3 : e_ob h_K 55 3 = true := by decide +kernel
theorem o_55_4 : e_ob h_K 55 4 = true := by decide +kernel
theorem o_55_5 : e_ob h_K 55 5 = true := by decide +kernel
theorem a_56 : e_ar h_K 56 e_kI = 30 := by decide +kernel
theorem o_57_384 : e_ob h_K 57 384 = true := by decide +kernel
theorem o_57_385 : e_ob h_K 57 385 = true := by decide +kernel
theorem o_57_386 : e_ob h_K 57 386 = true := by decide +kernel
theorem a_58 : e_ar h_K 58 e_kJ = 40 := by decide +kernel
theorem o_59_384 : e_ob h_K 59 384 = true := by decide +kernel
theorem o_59_385 : e_ob h_K 59 385 = true := by decide +kernel
theorem o_59_386 : e_ob h_K 59 386 = true := by decide +kernel
theorem a_60 : e_ar h_K 60 e_kJ = 40 := by decide +kernel
theorem o_61_384 : e_ob h_K 61 384 = true := by decide +kernel
theorem o_61_385 : e_ob h_K 61 385 = true := by decide +kernel
theorem o_61_386 : e_ob h_K 61 386 = true := by decide +kernel
theorem a_62 : e_ar h_K 62 e_kJ = 40 := by decide +kernel
theorem o_63_384 : e_ob h_K 63 384 = true := by decide +kernel
theorem o_63_385 : e_ob h_K 63 385 = true := by decide +kernel
theorem o_63_386 : e_ob h_K 63 386 = true := by decide +kernel
theorem a_64 : e_ar h_K 64 e_kJ = 40 := by decide +kernel
theorem o_65_448 : e_ob h_K 65 448 = true := by decide +kernel
theorem o_65_449 : e_ob h_K 65 449 = true := by decide +kernel
theorem o_65_450 : e_ob h_K 65 450 = true := by decide +kernel
theorem o_65_451 : e_ob h_K 65 451 = true := by decide +kernel
theorem o_66_448 : e_ob h_K 66 448 = true := by decide +kernel
theorem o_66_449 : e_ob h_K 66 449 = true := by decide +kernel
theorem o_66_450 : e_ob h_K 66 450 = true := by decide +kernel
theorem o_66_451 : e_ob h_K 66 451 = true := by decide +kernel
theorem o_67_448 : e_ob h_K 67 448 = true := by decide +kernel
theorem o_67_449 : e_ob h_K 67 449 = true := by decide +kernel
theorem o_67_450 : e_ob h_K 67 450 = true := by decide +kernel
theorem o_67_451 : e_ob h_K 67 451 = true := by decide +kernel
theorem o_68_448 : e_ob h_K 68 448 = true := by decide +kernel
theorem o_68_449 : e_ob h_K 68 449 = true := by decide +kernel
theorem o_68_450 : e_ob h_K 68 450 = true := by decide +kernel
theorem o_68_451 : e_ob h_K 68 451 = true := by decide +kernel
theorem o_69_640 : e_ob h_K 69 640 = true := by decide +kernel
theorem o_69_641 : e_ob h_K 69 641 = true := by decide +kernel
theorem o_69_642 : e_ob h_K 69 642 = true := by decide +kernel
theorem o_69_643 : e_ob h_K 69 643 = true := by decide +kernel
theorem o_69_644 : e_ob h_K 69 644 = true := by decide +kernel
theorem o_69_645 : e_ob h_K 69 645 = true := by decide +kernel
theorem o_69_646 : e_ob h_K 69 646 = true := by decide +kernel
theorem o_69_647 : e_ob h_K 69 647 = true := by decide +kernel
theorem o_69_648 : e_ob h_K 69 648 = true := by decide +kernel
theorem o_69_649 : e_ob h_K 69 649 = true := by decide +kernel
theorem o_69_650 : e_ob h_K 69 650 = true := by decide +kernel
theorem o_69_651 : e_ob h_K 69 651 = true := by decide +kernel
theorem o_69_652 : e_ob h_K 69 652 = true := by decide +kernel
theorem o_69_653 : e_ob h_K 69 653 = true := by decide +kernel
theorem o_69_654 : e_ob h_K 69 654 = true := by decide +kernel
theorem o_69_655 : e_ob h_K 69 655 = true := by decide +kernel
theorem o_69_656 : e_ob h_K 69 656 = true := by decide +kernel
theorem o_69_657 : e_ob h_K 69 657 = true := by decide +kernel
theorem o_69_658 : e_ob h_K 69 658 = true := by decide +kernel
theorem o_69_659 : e_ob h_K 69 659 = true := by decide +kernel
theorem o_69_660 : e_ob h_K 69 660 = true := by decide +kernel
theorem o_69_661 : e_ob h_K 69 661 = true := by decide +kernel
theorem o_69_662 : e_ob h_K 69 662 = true := by decide +kernel
theorem o_69_663 : e_ob h_K 69 663 = true := by decide +kernel
theorem o_69_664 : e_ob h_K 69 664 = true := by decide +kernel
theorem o_69_665 : e_ob h_K 69 665 = true := by decide +kernel
theorem o_69_666 : e_ob h_K 69 666 = true := by decide +kernel
theorem o_69_667 : e_ob h_K 69 667 = true := by decide +kernel
theorem o_69_668 : e_ob h_K 69 668 = true := by decide +kernel
theorem o_69_669 : e_ob h_K 69 669 = true := by decide +kernel
theorem o_69_670 : e_ob h_K 69 670 = true := by decide +kernel
theorem o_69_671 : e_ob h_K 69 671 = true := by decide +kernel
theorem o_69_672 : e_ob h_K 69 672 = true := by decide +kernel
theorem o_69_673 : e_ob h_K 69 673 = true := by decide +kernel
theorem o_69_674 : e_ob h_K 69 674 = true := by decide +kernel
theorem o_69_675 : e_ob h_K 69 675 = true := by decide +kernel
theorem o_69_676 : e_ob h_K 69 676 = true := by decide +kernel
theorem o_69_677 : e_ob h_K 69 677 = true := by decide +kernel
theorem o_69_678 : e_ob h_K 69 678 = true := by decide +kernel
theorem a_70 : e_ar h_K 70 e_kI = 322 := by decide +kernel
theorem a_71 : e_ar h_K 71 e_kI = 322 := by decide +kernel
theorem a_72 : e_ar h_K 72 e_kI = 74 := by decide +kernel
theorem a_73 : e_ar h_K 73 e_kI = 200 := by decide +kernel
theorem a_74 : e_ar h_K 74 e_kI = 200 := by decide +kernel
theorem a_75 : e_ar h_K 75 e_kC = 144 := by decide +kernel
theorem a_76 : e_ar h_K 76 e_kI = 200 := by decide +kernel
theorem a_77 : e_ar h_K 77 e_kI = 24 := by decide +kernel
theorem a_78 : e_ar h_K 78 e_kI = 370 := by decide +kernel
theorem a_79 : e_ar h_K 79 e_kI = 4 := by decide +kernel
theorem a_80 : e_ar h_K 80 e_kI = 4 := by decide +kernel
theorem a_81 : e_ar h_K 81 e_kI = 16 := by decide +kernel
theorem a_82 : e_ar h_K 82 e_kI = 16 := by decide +kernel
theorem a_83 : e_ar h_K 83 e_kI = 12 := by decide +kernel
theorem a_84 : e_ar h_K 84 e_kI = 4 := by decide +kernel
theorem a_85 : e_ar h_K 85 e_kI = 4 := by decide +kernel
theorem a_86 : e_ar h_K 86 e_kI = 160 := by decide +kernel
theorem a_87 : e_ar h_K 87 e_kI = 4 := by decide +kernel
theorem a_88 : e_ar h_K 88 e_kI = 4 := by decide +kernel
theorem a_89 : e_ar h_K 89 e_kI = 30 := by decide +kernel
theorem r_0_0 : h_R 0 0 = 2 := by decide +kernel
theorem r_0_1 : h_R 0 1 = 21 := by decide +kernel
theorem r_0_3 : h_R 0 3 = 40 := by decide +kernel
theorem r_0_4 : h_R 0 4 = 49 := by decide +kernel
theorem r_0_5 : h_R 0 5 = 52 := by decide +kernel
theorem r_0_6 : h_R 0 6 = 54 := by decide +kernel
theorem r_0_7 : h_R 0 7 = 55 := by decide +kernel
theorem r_0_8 : h_R 0 8 = 56 := by decide +kernel
theorem r_1_0 : h_R 1 0 = 3 := by decide +kernel
theorem r_1_1 : h_R 1 1 = 4 := by decide +kernel
theorem r_1_2 : h_R 1 2 = 5 := by decide +kernel
theorem r_1_3 : h_R 1 3 = 6 := by decide +kernel
theorem r_1_4 : h_R 1 4 = 7 := by decide +kernel
theorem r_1_5 : h_R 1 5 = 8 := by decide +kernel
theorem r_1_6 : h_R 1 6 = 9 := by decide +kernel
theorem r_1_7 : h_R 1 7 = 10 := by decide +kernel
theorem r_1_8 : h_R 1 8 = 16 := by decide +kernel
theorem r_9_0 : h_R 9 0 = 11 := by decide +kernel
theorem r_9_1 : h_R 9 1 = 12 := by decide +kernel
theorem r_9_2 : h_R 9 2 = 13 := by decide +kernel
theorem r_9_3 : h_R 9 3 = 14 := by decide +kernel
theorem r_9_4 : h_R 9 4 = 15 := by decide +kernel
theorem r_15_0 : h_R 15 0 = 17 := by decide +kernel
theorem r_15_1 : h_R 15 1 = 18 := by decide +kernel
theorem r_15_2 : h_R 15 2 = 19 := by decide +kernel
theorem r_15_3 : h_R 15 3 = 20 := by decide +kernel
theorem r_20_0 : h_R 20 0 = 22 := by decide +kernel
theorem r_20_1 : h_R 20 1 = 23 := by decide +kernel
theorem r_20_2 : h_R 20 2 = 24 := by decide +kernel
theorem r_20_3 : h_R 20 3 = 25 := by decide +kernel
theorem r_20_4 : h_R 20 4 = 26 := by decide +kernel
theorem r_20_5 : h_R 20 5 = 27 := by decide +kernel
theorem r_20_6 : h_R 20 6 = 28 := by decide +kernel
theorem r_20_7 : h_R 20 7 = 29 := by decide +kernel
theorem r_20_8 : h_R 20 8 = 35 := by decide +kernel
theorem r_28_0 : h_R 28 0 = 30 := by decide +kernel
theorem r_28_1 : h_R 28 1 = 31 := by decide +kernel
theorem r_28_2 : h_R 28 2 = 32 := by decide +kernel
theorem r_28_3 : h_R 28 3 = 33 := by decide +kernel
theorem r_28_4 : h_R 28 4 = 34 := by decide +kernel
theorem r_34_0 : h_R 34 0 = 36 := by decide +kernel
theorem r_34_1 : h_R 34 1 = 37 := by decide +kernel
theorem r_34_2 : h_R 34 2 = 38 := by decide +kernel
theorem r_34_3 : h_R 34 3 = 39 := by decide +kernel
theorem r_39_0 : h_R 39 0 = 41 := by decide +kernel
theorem r_39_1 : h_R 39 1 = 47 := by decide +kernel
theorem r_39_12 : h_R 39 12 = 48 := by decide +kernel
theorem r_40_0 : h_R 40 0 = 42 := by decide +kernel
theorem r_40_1 : h_R 40 1 = 43 := by decide +kernel
theorem r_40_2 : h_R 40 2 = 44 := by decide +kernel
theorem r_40_3 : h_R 40 3 = 45 := by decide +kernel
theorem r_40_4 : h_R 40 4 = 46 := by decide +kernel
theorem r_48_0 : h_R 48 0 = 2 := by decide +kernel
theorem r_48_1 : h_R 48 1 = 50 := by decide +kernel
theorem r_48_2 : h_R 48 2 = 51 := by decide +kernel
theorem r_51_0 : h_R 51 0 = 2 := by decide +kernel
theorem r_51_1 : h_R 51 1 = 53 := by decide +kernel
theorem r_53_0 : h_R 53 0 = 58 := by decide +kernel
theorem r_53_1 : h_R 53 1 = 60 := by decide +kernel
theorem r_53_2 : h_R 53 2 = 62 := by decide +kernel
theorem r_53_3 : h_R 53 3 = 64 := by decide +kernel
theorem r_54_0 : h_R 54 0 = 66 := by decide +kernel
theorem r_54_1 : h_R 54 1 = 67 := by decide +kernel
theorem r_54_2 : h_R 54 2 = 68 := by decide +kernel
theorem r_54_3 : h_R 54 3 = 69 := by decide +kernel
theorem r_55_0 : h_R 55 0 = 57 := by decide +kernel
theorem r_57_0 : h_R 57 0 = 59 := by decide +kernel
theorem r_59_0 : h_R 59 0 = 61 := by decide +kernel
theorem r_61_0 : h_R 61 0 = 63 := by decide +kernel
theorem r_63_0 : h_R 63 0 = 65 := by decide +kernel
theorem r_69_0 : h_R 69 0 = 71 := by decide +kernel
theorem r_69_1 : h_R 69 1 = 72 := by decide +kernel
theorem r_69_2 : h_R 69 2 = 73 := by decide +kernel
theorem r_69_4 : h_R 69 4 = 74 := by decide +kernel
theorem r_69_5 : h_R 69 5 = 75 := by decide +kernel
theorem r_69_7 : h_R 69 7 = 76 := by decide +kernel
theorem r_69_14 : h_R 69 14 = 77 := by decide +kernel
theorem r_69_15 : h_R 69 15 = 78 := by decide +kernel
theorem r_69_18 : h_R 69 18 = 79 := by decide +kernel
theorem r_69_19 : h_R 69 19 = 80 := by decide +kernel
theorem r_69_20 : h_R 69 20 = 81 := by decide +kernel
theorem r_69_25 : h_R 69 25 = 82 := by decide +kernel
theorem r_69_26 : h_R 69 26 = 83 := by decide +kernel
theorem r_69_28 : h_R 69 28 = 84 := by decide +kernel
theorem r_69_30 : h_R 69 30 = 85 := by decide +kernel
theorem r_69_31 : h_R 69 31 = 86 := by decide +kernel
theorem r_69_32 : h_R 69 32 = 87 := by decide +kernel
theorem r_69_33 : h_R 69 33 = 88 := by decide +kernel
theorem r_69_34 : h_R 69 34 = 89 := by decide +kernel
theorem r_69_35 : h_R 69 35 = 90 := by decide +kernel
