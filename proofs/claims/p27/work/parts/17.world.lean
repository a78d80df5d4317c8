/-! ===== the world after both constructors ===== -/
def zSHt : zSh := [(0, 7), (3, 48), (0, 5), (0, 0), (1, 4), (1, 4), (11, 4), (0, 6), (1, 60), (1, 60), (0, 6), (1, 60), (1, 60), (0, 6), (1, 60), (1, 60), (0, 6), (1, 60), (1, 60), (10, 2), (4, 2), (0, 4), (0, 6), (1, 60), (1, 60), (1, 48), (0, 3), (7, 32), (0, 2), (2, 12), (0, 2), (2, 12), (0, 2), (2, 12), (0, 2), (2, 12), (0, 2), (2, 12), (0, 2), (2, 12), (0, 2), (2, 12), (0, 2), (2, 12), (0, 2), (2, 12), (0, 2), (2, 12), (0, 2), (2, 12), (0, 2), (2, 12), (0, 2), (2, 12), (0, 2), (2, 12), (0, 2), (2, 12), (0, 2), (2, 12), (0, 2), (2, 12), (0, 2), (2, 12), (0, 2), (2, 12), (0, 2), (2, 12), (0, 2), (2, 12), (0, 2), (2, 12), (0, 2), (2, 12), (0, 2), (2, 12), (0, 2), (2, 12), (0, 2), (2, 12), (0, 2), (2, 12), (0, 2), (2, 12), (0, 2), (2, 12), (0, 2), (2, 12), (0, 2), (2, 12), (0, 2), (2, 12), (0, 2), (2, 12), (0, 2), (2, 12), (0, 1), (1, 800), (1, 800), (2, 200), (1, 200), (0, 0), (1, 4), (1, 4), (0, 0), (1, 4), (1, 4), (0, 0), (1, 4), (1, 4), (0, 0), (1, 4), (1, 4), (0, 5), (0, 0), (1, 4), (1, 4), (11, 4), (0, 6), (1, 60), (1, 60), (0, 6), (1, 60), (1, 60), (0, 6), (1, 60), (1, 60), (0, 6), (1, 60), (1, 60), (0, 5), (0, 0), (1, 4), (1, 4), (11, 4), (0, 6), (1, 60), (1, 60), (0, 6), (1, 60), (1, 60), (0, 6), (1, 60), (1, 60), (0, 6), (1, 60), (1, 60)]
def SH (Ls : Nat) : zSh := (99, Ls) :: zSHt
def zR0 : List (List Nat) := [[], [2, 0, 3, 20, 21, 22, 27, 97, 102, 0, 105, 108, 111], [], [4, 7], [5, 6], [], [], [8, 11, 14, 17], [9, 10], [], [], [12, 13], [], [], [15, 16], [], [], [18, 19], [], [], [114, 131], [], [23, 26], [24, 25], [], [], [], [28, 29, 31], [], [0, 0, 0, 0, 0, 30], [], [0, 0, 0, 0, 0, 32], [], [0, 0, 0, 0, 0, 34], [], [0, 0, 0, 0, 0, 36], [], [0, 0, 0, 0, 0, 38], [], [0, 0, 0, 0, 0, 40], [], [0, 0, 0, 0, 0, 42], [], [0, 0, 0, 0, 0, 44], [], [0, 0, 0, 0, 0, 46], [], [0, 0, 0, 0, 0, 48], [], [0, 0, 0, 0, 0, 50], [], [0, 0, 0, 0, 0, 52], [], [0, 0, 0, 0, 0, 54], [], [0, 0, 0, 0, 0, 56], [], [0, 0, 0, 0, 0, 58], [], [0, 0, 0, 0, 0, 60], [], [0, 0, 0, 0, 0, 62], [], [0, 0, 0, 0, 0, 64], [], [0, 0, 0, 0, 0, 66], [], [0, 0, 0, 0, 0, 68], [], [0, 0, 0, 0, 0, 70], [], [0, 0, 0, 0, 0, 72], [], [0, 0, 0, 0, 0, 74], [], [0, 0, 0, 0, 0, 76], [], [0, 0, 0, 0, 0, 78], [], [0, 0, 0, 0, 0, 80], [], [0, 0, 0, 0, 0, 82], [], [0, 0, 0, 0, 0, 84], [], [0, 0, 0, 0, 0, 86], [], [0, 0, 0, 0, 0, 88], [], [0, 0, 0, 0, 0, 90], [], [0, 0, 0, 0, 0, 92], [], [0, 0, 0, 0, 0, 94], [], [0, 0, 0, 0, 0, 96], [], [98, 99, 100, 101], [], [], [], [], [103, 104], [], [], [106, 107], [], [], [109, 110], [], [], [112, 113], [], [], [115, 118], [116, 117], [], [], [119, 122, 125, 128], [120, 121], [], [], [123, 124], [], [], [126, 127], [], [], [129, 130], [], [], [132, 135], [133, 134], [], [], [136, 139, 142, 145], [137, 138], [], [], [140, 141], [], [], [143, 144], [], [], [146, 147], [], []]
def R0 : zR := fun o j => match ((zR0[o]?).getD [])[j]? with
  | some 0 => none
  | some n => some n
  | none => none
def RF (g : Nat → Nat) : zR := fun o j => if o = 28 then (if j < 32 then some (g j) else none) else if o = 27 ∧ j = 1 then some (g 32) else R0 o j
section
variable {Ls : Nat} {g : Nat → Nat} {i : Int32}
theorem is_1 : zIs (SH Ls) 1 0 7 := ⟨rfl, by decide⟩
theorem is_2 : zIs (SH Ls) 2 3 48 := ⟨rfl, by decide⟩
theorem at_2 : zAt (SH Ls) 2 3 i ↔ zin i 48 = true := zAt_iff is_2
theorem is_3 : zIs (SH Ls) 3 0 5 := ⟨rfl, by decide⟩
theorem is_4 : zIs (SH Ls) 4 0 0 := ⟨rfl, by decide⟩
theorem is_5 : zIs (SH Ls) 5 1 4 := ⟨rfl, by decide⟩
theorem at_5 : zAt (SH Ls) 5 1 i ↔ zin i 4 = true := zAt_iff is_5
theorem is_6 : zIs (SH Ls) 6 1 4 := ⟨rfl, by decide⟩
theorem at_6 : zAt (SH Ls) 6 1 i ↔ zin i 4 = true := zAt_iff is_6
theorem is_7 : zIs (SH Ls) 7 11 4 := ⟨rfl, by decide⟩
theorem at_7 : zAt (SH Ls) 7 11 i ↔ zin i 4 = true := zAt_iff is_7
theorem is_8 : zIs (SH Ls) 8 0 6 := ⟨rfl, by decide⟩
theorem is_9 : zIs (SH Ls) 9 1 60 := ⟨rfl, by decide⟩
theorem at_9 : zAt (SH Ls) 9 1 i ↔ zin i 60 = true := zAt_iff is_9
theorem is_10 : zIs (SH Ls) 10 1 60 := ⟨rfl, by decide⟩
theorem at_10 : zAt (SH Ls) 10 1 i ↔ zin i 60 = true := zAt_iff is_10
theorem is_11 : zIs (SH Ls) 11 0 6 := ⟨rfl, by decide⟩
theorem is_12 : zIs (SH Ls) 12 1 60 := ⟨rfl, by decide⟩
theorem at_12 : zAt (SH Ls) 12 1 i ↔ zin i 60 = true := zAt_iff is_12
theorem is_13 : zIs (SH Ls) 13 1 60 := ⟨rfl, by decide⟩
theorem at_13 : zAt (SH Ls) 13 1 i ↔ zin i 60 = true := zAt_iff is_13
theorem is_14 : zIs (SH Ls) 14 0 6 := ⟨rfl, by decide⟩
theorem is_15 : zIs (SH Ls) 15 1 60 := ⟨rfl, by decide⟩
theorem at_15 : zAt (SH Ls) 15 1 i ↔ zin i 60 = true := zAt_iff is_15
theorem is_16 : zIs (SH Ls) 16 1 60 := ⟨rfl, by decide⟩
theorem at_16 : zAt (SH Ls) 16 1 i ↔ zin i 60 = true := zAt_iff is_16
theorem is_17 : zIs (SH Ls) 17 0 6 := ⟨rfl, by decide⟩
theorem is_18 : zIs (SH Ls) 18 1 60 := ⟨rfl, by decide⟩
theorem at_18 : zAt (SH Ls) 18 1 i ↔ zin i 60 = true := zAt_iff is_18
theorem is_19 : zIs (SH Ls) 19 1 60 := ⟨rfl, by decide⟩
theorem at_19 : zAt (SH Ls) 19 1 i ↔ zin i 60 = true := zAt_iff is_19
theorem is_20 : zIs (SH Ls) 20 10 2 := ⟨rfl, by decide⟩
theorem at_20 : zAt (SH Ls) 20 10 i ↔ zin i 2 = true := zAt_iff is_20
theorem is_21 : zIs (SH Ls) 21 4 2 := ⟨rfl, by decide⟩
theorem at_21 : zAt (SH Ls) 21 4 i ↔ zin i 2 = true := zAt_iff is_21
theorem is_22 : zIs (SH Ls) 22 0 4 := ⟨rfl, by decide⟩
theorem is_23 : zIs (SH Ls) 23 0 6 := ⟨rfl, by decide⟩
theorem is_24 : zIs (SH Ls) 24 1 60 := ⟨rfl, by decide⟩
theorem at_24 : zAt (SH Ls) 24 1 i ↔ zin i 60 = true := zAt_iff is_24
theorem is_25 : zIs (SH Ls) 25 1 60 := ⟨rfl, by decide⟩
theorem at_25 : zAt (SH Ls) 25 1 i ↔ zin i 60 = true := zAt_iff is_25
theorem is_26 : zIs (SH Ls) 26 1 48 := ⟨rfl, by decide⟩
theorem at_26 : zAt (SH Ls) 26 1 i ↔ zin i 48 = true := zAt_iff is_26
theorem is_27 : zIs (SH Ls) 27 0 3 := ⟨rfl, by decide⟩
theorem is_28 : zIs (SH Ls) 28 7 32 := ⟨rfl, by decide⟩
theorem at_28 : zAt (SH Ls) 28 7 i ↔ zin i 32 = true := zAt_iff is_28
theorem is_29 : zIs (SH Ls) 29 0 2 := ⟨rfl, by decide⟩
theorem is_30 : zIs (SH Ls) 30 2 12 := ⟨rfl, by decide⟩
theorem at_30 : zAt (SH Ls) 30 2 i ↔ zin i 12 = true := zAt_iff is_30
theorem is_31 : zIs (SH Ls) 31 0 2 := ⟨rfl, by decide⟩
theorem is_32 : zIs (SH Ls) 32 2 12 := ⟨rfl, by decide⟩
theorem at_32 : zAt (SH Ls) 32 2 i ↔ zin i 12 = true := zAt_iff is_32
theorem is_33 : zIs (SH Ls) 33 0 2 := ⟨rfl, by decide⟩
theorem is_34 : zIs (SH Ls) 34 2 12 := ⟨rfl, by decide⟩
theorem at_34 : zAt (SH Ls) 34 2 i ↔ zin i 12 = true := zAt_iff is_34
theorem is_35 : zIs (SH Ls) 35 0 2 := ⟨rfl, by decide⟩
theorem is_36 : zIs (SH Ls) 36 2 12 := ⟨rfl, by decide⟩
theorem at_36 : zAt (SH Ls) 36 2 i ↔ zin i 12 = true := zAt_iff is_36
theorem is_37 : zIs (SH Ls) 37 0 2 := ⟨rfl, by decide⟩
theorem is_38 : zIs (SH Ls) 38 2 12 := ⟨rfl, by decide⟩
theorem at_38 : zAt (SH Ls) 38 2 i ↔ zin i 12 = true := zAt_iff is_38
theorem is_39 : zIs (SH Ls) 39 0 2 := ⟨rfl, by decide⟩
theorem is_40 : zIs (SH Ls) 40 2 12 := ⟨rfl, by decide⟩
theorem at_40 : zAt (SH Ls) 40 2 i ↔ zin i 12 = true := zAt_iff is_40
theorem is_41 : zIs (SH Ls) 41 0 2 := ⟨rfl, by decide⟩
theorem is_42 : zIs (SH Ls) 42 2 12 := ⟨rfl, by decide⟩
theorem at_42 : zAt (SH Ls) 42 2 i ↔ zin i 12 = true := zAt_iff is_42
theorem is_43 : zIs (SH Ls) 43 0 2 := ⟨rfl, by decide⟩
theorem is_44 : zIs (SH Ls) 44 2 12 := ⟨rfl, by decide⟩
theorem at_44 : zAt (SH Ls) 44 2 i ↔ zin i 12 = true := zAt_iff is_44
theorem is_45 : zIs (SH Ls) 45 0 2 := ⟨rfl, by decide⟩
theorem is_46 : zIs (SH Ls) 46 2 12 := ⟨rfl, by decide⟩
theorem at_46 : zAt (SH Ls) 46 2 i ↔ zin i 12 = true := zAt_iff is_46
theorem is_47 : zIs (SH Ls) 47 0 2 := ⟨rfl, by decide⟩
theorem is_48 : zIs (SH Ls) 48 2 12 := ⟨rfl, by decide⟩
theorem at_48 : zAt (SH Ls) 48 2 i ↔ zin i 12 = true := zAt_iff is_48
theorem is_49 : zIs (SH Ls) 49 0 2 := ⟨rfl, by decide⟩
theorem is_50 : zIs (SH Ls) 50 2 12 := ⟨rfl, by decide⟩
theorem at_50 : zAt (SH Ls) 50 2 i ↔ zin i 12 = true := zAt_iff is_50
theorem is_51 : zIs (SH Ls) 51 0 2 := ⟨rfl, by decide⟩
theorem is_52 : zIs (SH Ls) 52 2 12 := ⟨rfl, by decide⟩
theorem at_52 : zAt (SH Ls) 52 2 i ↔ zin i 12 = true := zAt_iff is_52
theorem is_53 : zIs (SH Ls) 53 0 2 := ⟨rfl, by decide⟩
theorem is_54 : zIs (SH Ls) 54 2 12 := ⟨rfl, by decide⟩
theorem at_54 : zAt (SH Ls) 54 2 i ↔ zin i 12 = true := zAt_iff is_54
theorem is_55 : zIs (SH Ls) 55 0 2 := ⟨rfl, by decide⟩
theorem is_56 : zIs (SH Ls) 56 2 12 := ⟨rfl, by decide⟩
theorem at_56 : zAt (SH Ls) 56 2 i ↔ zin i 12 = true := zAt_iff is_56
theorem is_57 : zIs (SH Ls) 57 0 2 := ⟨rfl, by decide⟩
theorem is_58 : zIs (SH Ls) 58 2 12 := ⟨rfl, by decide⟩
theorem at_58 : zAt (SH Ls) 58 2 i ↔ zin i 12 = true := zAt_iff is_58
theorem is_59 : zIs (SH Ls) 59 0 2 := ⟨rfl, by decide⟩
theorem is_60 : zIs (SH Ls) 60 2 12 := ⟨rfl, by decide⟩
theorem at_60 : zAt (SH Ls) 60 2 i ↔ zin i 12 = true := zAt_iff is_60
theorem is_61 : zIs (SH Ls) 61 0 2 := ⟨rfl, by decide⟩
theorem is_62 : zIs (SH Ls) 62 2 12 := ⟨rfl, by decide⟩
theorem at_62 : zAt (SH Ls) 62 2 i ↔ zin i 12 = true := zAt_iff is_62
theorem is_63 : zIs (SH Ls) 63 0 2 := ⟨rfl, by decide⟩
theorem is_64 : zIs (SH Ls) 64 2 12 := ⟨rfl, by decide⟩
theorem at_64 : zAt (SH Ls) 64 2 i ↔ zin i 12 = true := zAt_iff is_64
theorem is_65 : zIs (SH Ls) 65 0 2 := ⟨rfl, by decide⟩
theorem is_66 : zIs (SH Ls) 66 2 12 := ⟨rfl, by decide⟩
theorem at_66 : zAt (SH Ls) 66 2 i ↔ zin i 12 = true := zAt_iff is_66
theorem is_67 : zIs (SH Ls) 67 0 2 := ⟨rfl, by decide⟩
theorem is_68 : zIs (SH Ls) 68 2 12 := ⟨rfl, by decide⟩
theorem at_68 : zAt (SH Ls) 68 2 i ↔ zin i 12 = true := zAt_iff is_68
theorem is_69 : zIs (SH Ls) 69 0 2 := ⟨rfl, by decide⟩
theorem is_70 : zIs (SH Ls) 70 2 12 := ⟨rfl, by decide⟩
theorem at_70 : zAt (SH Ls) 70 2 i ↔ zin i 12 = true := zAt_iff is_70
theorem is_71 : zIs (SH Ls) 71 0 2 := ⟨rfl, by decide⟩
theorem is_72 : zIs (SH Ls) 72 2 12 := ⟨rfl, by decide⟩
theorem at_72 : zAt (SH Ls) 72 2 i ↔ zin i 12 = true := zAt_iff is_72
theorem is_73 : zIs (SH Ls) 73 0 2 := ⟨rfl, by decide⟩
theorem is_74 : zIs (SH Ls) 74 2 12 := ⟨rfl, by decide⟩
theorem at_74 : zAt (SH Ls) 74 2 i ↔ zin i 12 = true := zAt_iff is_74
theorem is_75 : zIs (SH Ls) 75 0 2 := ⟨rfl, by decide⟩
theorem is_76 : zIs (SH Ls) 76 2 12 := ⟨rfl, by decide⟩
theorem at_76 : zAt (SH Ls) 76 2 i ↔ zin i 12 = true := zAt_iff is_76
theorem is_77 : zIs (SH Ls) 77 0 2 := ⟨rfl, by decide⟩
theorem is_78 : zIs (SH Ls) 78 2 12 := ⟨rfl, by decide⟩
theorem at_78 : zAt (SH Ls) 78 2 i ↔ zin i 12 = true := zAt_iff is_78
theorem is_79 : zIs (SH Ls) 79 0 2 := ⟨rfl, by decide⟩
theorem is_80 : zIs (SH Ls) 80 2 12 := ⟨rfl, by decide⟩
theorem at_80 : zAt (SH Ls) 80 2 i ↔ zin i 12 = true := zAt_iff is_80
theorem is_81 : zIs (SH Ls) 81 0 2 := ⟨rfl, by decide⟩
theorem is_82 : zIs (SH Ls) 82 2 12 := ⟨rfl, by decide⟩
theorem at_82 : zAt (SH Ls) 82 2 i ↔ zin i 12 = true := zAt_iff is_82
theorem is_83 : zIs (SH Ls) 83 0 2 := ⟨rfl, by decide⟩
theorem is_84 : zIs (SH Ls) 84 2 12 := ⟨rfl, by decide⟩
theorem at_84 : zAt (SH Ls) 84 2 i ↔ zin i 12 = true := zAt_iff is_84
theorem is_85 : zIs (SH Ls) 85 0 2 := ⟨rfl, by decide⟩
theorem is_86 : zIs (SH Ls) 86 2 12 := ⟨rfl, by decide⟩
theorem at_86 : zAt (SH Ls) 86 2 i ↔ zin i 12 = true := zAt_iff is_86
theorem is_87 : zIs (SH Ls) 87 0 2 := ⟨rfl, by decide⟩
theorem is_88 : zIs (SH Ls) 88 2 12 := ⟨rfl, by decide⟩
theorem at_88 : zAt (SH Ls) 88 2 i ↔ zin i 12 = true := zAt_iff is_88
theorem is_89 : zIs (SH Ls) 89 0 2 := ⟨rfl, by decide⟩
theorem is_90 : zIs (SH Ls) 90 2 12 := ⟨rfl, by decide⟩
theorem at_90 : zAt (SH Ls) 90 2 i ↔ zin i 12 = true := zAt_iff is_90
theorem is_91 : zIs (SH Ls) 91 0 2 := ⟨rfl, by decide⟩
theorem is_92 : zIs (SH Ls) 92 2 12 := ⟨rfl, by decide⟩
theorem at_92 : zAt (SH Ls) 92 2 i ↔ zin i 12 = true := zAt_iff is_92
theorem is_93 : zIs (SH Ls) 93 0 2 := ⟨rfl, by decide⟩
theorem is_94 : zIs (SH Ls) 94 2 12 := ⟨rfl, by decide⟩
theorem at_94 : zAt (SH Ls) 94 2 i ↔ zin i 12 = true := zAt_iff is_94
theorem is_95 : zIs (SH Ls) 95 0 2 := ⟨rfl, by decide⟩
theorem is_96 : zIs (SH Ls) 96 2 12 := ⟨rfl, by decide⟩
theorem at_96 : zAt (SH Ls) 96 2 i ↔ zin i 12 = true := zAt_iff is_96
theorem is_97 : zIs (SH Ls) 97 0 1 := ⟨rfl, by decide⟩
theorem is_98 : zIs (SH Ls) 98 1 800 := ⟨rfl, by decide⟩
theorem at_98 : zAt (SH Ls) 98 1 i ↔ zin i 800 = true := zAt_iff is_98
theorem is_99 : zIs (SH Ls) 99 1 800 := ⟨rfl, by decide⟩
theorem at_99 : zAt (SH Ls) 99 1 i ↔ zin i 800 = true := zAt_iff is_99
theorem is_100 : zIs (SH Ls) 100 2 200 := ⟨rfl, by decide⟩
theorem at_100 : zAt (SH Ls) 100 2 i ↔ zin i 200 = true := zAt_iff is_100
theorem is_101 : zIs (SH Ls) 101 1 200 := ⟨rfl, by decide⟩
theorem at_101 : zAt (SH Ls) 101 1 i ↔ zin i 200 = true := zAt_iff is_101
theorem is_102 : zIs (SH Ls) 102 0 0 := ⟨rfl, by decide⟩
theorem is_103 : zIs (SH Ls) 103 1 4 := ⟨rfl, by decide⟩
theorem at_103 : zAt (SH Ls) 103 1 i ↔ zin i 4 = true := zAt_iff is_103
theorem is_104 : zIs (SH Ls) 104 1 4 := ⟨rfl, by decide⟩
theorem at_104 : zAt (SH Ls) 104 1 i ↔ zin i 4 = true := zAt_iff is_104
theorem is_105 : zIs (SH Ls) 105 0 0 := ⟨rfl, by decide⟩
theorem is_106 : zIs (SH Ls) 106 1 4 := ⟨rfl, by decide⟩
theorem at_106 : zAt (SH Ls) 106 1 i ↔ zin i 4 = true := zAt_iff is_106
theorem is_107 : zIs (SH Ls) 107 1 4 := ⟨rfl, by decide⟩
theorem at_107 : zAt (SH Ls) 107 1 i ↔ zin i 4 = true := zAt_iff is_107
theorem is_108 : zIs (SH Ls) 108 0 0 := ⟨rfl, by decide⟩
theorem is_109 : zIs (SH Ls) 109 1 4 := ⟨rfl, by decide⟩
theorem at_109 : zAt (SH Ls) 109 1 i ↔ zin i 4 = true := zAt_iff is_109
theorem is_110 : zIs (SH Ls) 110 1 4 := ⟨rfl, by decide⟩
theorem at_110 : zAt (SH Ls) 110 1 i ↔ zin i 4 = true := zAt_iff is_110
theorem is_111 : zIs (SH Ls) 111 0 0 := ⟨rfl, by decide⟩
theorem is_112 : zIs (SH Ls) 112 1 4 := ⟨rfl, by decide⟩
theorem at_112 : zAt (SH Ls) 112 1 i ↔ zin i 4 = true := zAt_iff is_112
theorem is_113 : zIs (SH Ls) 113 1 4 := ⟨rfl, by decide⟩
theorem at_113 : zAt (SH Ls) 113 1 i ↔ zin i 4 = true := zAt_iff is_113
theorem is_114 : zIs (SH Ls) 114 0 5 := ⟨rfl, by decide⟩
theorem is_115 : zIs (SH Ls) 115 0 0 := ⟨rfl, by decide⟩
theorem is_116 : zIs (SH Ls) 116 1 4 := ⟨rfl, by decide⟩
theorem at_116 : zAt (SH Ls) 116 1 i ↔ zin i 4 = true := zAt_iff is_116
theorem is_117 : zIs (SH Ls) 117 1 4 := ⟨rfl, by decide⟩
theorem at_117 : zAt (SH Ls) 117 1 i ↔ zin i 4 = true := zAt_iff is_117
theorem is_118 : zIs (SH Ls) 118 11 4 := ⟨rfl, by decide⟩
theorem at_118 : zAt (SH Ls) 118 11 i ↔ zin i 4 = true := zAt_iff is_118
theorem is_119 : zIs (SH Ls) 119 0 6 := ⟨rfl, by decide⟩
theorem is_120 : zIs (SH Ls) 120 1 60 := ⟨rfl, by decide⟩
theorem at_120 : zAt (SH Ls) 120 1 i ↔ zin i 60 = true := zAt_iff is_120
theorem is_121 : zIs (SH Ls) 121 1 60 := ⟨rfl, by decide⟩
theorem at_121 : zAt (SH Ls) 121 1 i ↔ zin i 60 = true := zAt_iff is_121
theorem is_122 : zIs (SH Ls) 122 0 6 := ⟨rfl, by decide⟩
theorem is_123 : zIs (SH Ls) 123 1 60 := ⟨rfl, by decide⟩
theorem at_123 : zAt (SH Ls) 123 1 i ↔ zin i 60 = true := zAt_iff is_123
theorem is_124 : zIs (SH Ls) 124 1 60 := ⟨rfl, by decide⟩
theorem at_124 : zAt (SH Ls) 124 1 i ↔ zin i 60 = true := zAt_iff is_124
theorem is_125 : zIs (SH Ls) 125 0 6 := ⟨rfl, by decide⟩
theorem is_126 : zIs (SH Ls) 126 1 60 := ⟨rfl, by decide⟩
theorem at_126 : zAt (SH Ls) 126 1 i ↔ zin i 60 = true := zAt_iff is_126
theorem is_127 : zIs (SH Ls) 127 1 60 := ⟨rfl, by decide⟩
theorem at_127 : zAt (SH Ls) 127 1 i ↔ zin i 60 = true := zAt_iff is_127
theorem is_128 : zIs (SH Ls) 128 0 6 := ⟨rfl, by decide⟩
theorem is_129 : zIs (SH Ls) 129 1 60 := ⟨rfl, by decide⟩
theorem at_129 : zAt (SH Ls) 129 1 i ↔ zin i 60 = true := zAt_iff is_129
theorem is_130 : zIs (SH Ls) 130 1 60 := ⟨rfl, by decide⟩
theorem at_130 : zAt (SH Ls) 130 1 i ↔ zin i 60 = true := zAt_iff is_130
theorem is_131 : zIs (SH Ls) 131 0 5 := ⟨rfl, by decide⟩
theorem is_132 : zIs (SH Ls) 132 0 0 := ⟨rfl, by decide⟩
theorem is_133 : zIs (SH Ls) 133 1 4 := ⟨rfl, by decide⟩
theorem at_133 : zAt (SH Ls) 133 1 i ↔ zin i 4 = true := zAt_iff is_133
theorem is_134 : zIs (SH Ls) 134 1 4 := ⟨rfl, by decide⟩
theorem at_134 : zAt (SH Ls) 134 1 i ↔ zin i 4 = true := zAt_iff is_134
theorem is_135 : zIs (SH Ls) 135 11 4 := ⟨rfl, by decide⟩
theorem at_135 : zAt (SH Ls) 135 11 i ↔ zin i 4 = true := zAt_iff is_135
theorem is_136 : zIs (SH Ls) 136 0 6 := ⟨rfl, by decide⟩
theorem is_137 : zIs (SH Ls) 137 1 60 := ⟨rfl, by decide⟩
theorem at_137 : zAt (SH Ls) 137 1 i ↔ zin i 60 = true := zAt_iff is_137
theorem is_138 : zIs (SH Ls) 138 1 60 := ⟨rfl, by decide⟩
theorem at_138 : zAt (SH Ls) 138 1 i ↔ zin i 60 = true := zAt_iff is_138
theorem is_139 : zIs (SH Ls) 139 0 6 := ⟨rfl, by decide⟩
theorem is_140 : zIs (SH Ls) 140 1 60 := ⟨rfl, by decide⟩
theorem at_140 : zAt (SH Ls) 140 1 i ↔ zin i 60 = true := zAt_iff is_140
theorem is_141 : zIs (SH Ls) 141 1 60 := ⟨rfl, by decide⟩
theorem at_141 : zAt (SH Ls) 141 1 i ↔ zin i 60 = true := zAt_iff is_141
theorem is_142 : zIs (SH Ls) 142 0 6 := ⟨rfl, by decide⟩
theorem is_143 : zIs (SH Ls) 143 1 60 := ⟨rfl, by decide⟩
theorem at_143 : zAt (SH Ls) 143 1 i ↔ zin i 60 = true := zAt_iff is_143
theorem is_144 : zIs (SH Ls) 144 1 60 := ⟨rfl, by decide⟩
theorem at_144 : zAt (SH Ls) 144 1 i ↔ zin i 60 = true := zAt_iff is_144
theorem is_145 : zIs (SH Ls) 145 0 6 := ⟨rfl, by decide⟩
theorem is_146 : zIs (SH Ls) 146 1 60 := ⟨rfl, by decide⟩
theorem at_146 : zAt (SH Ls) 146 1 i ↔ zin i 60 = true := zAt_iff is_146
theorem is_147 : zIs (SH Ls) 147 1 60 := ⟨rfl, by decide⟩
theorem at_147 : zAt (SH Ls) 147 1 i ↔ zin i 60 = true := zAt_iff is_147
theorem rf_1_0 : RF g 1 0 = some 2 := rfl
theorem rf_1_2 : RF g 1 2 = some 3 := rfl
theorem rf_1_3 : RF g 1 3 = some 20 := rfl
theorem rf_1_4 : RF g 1 4 = some 21 := rfl
theorem rf_1_5 : RF g 1 5 = some 22 := rfl
theorem rf_1_6 : RF g 1 6 = some 27 := rfl
theorem rf_1_7 : RF g 1 7 = some 97 := rfl
theorem rf_1_8 : RF g 1 8 = some 102 := rfl
theorem rf_1_10 : RF g 1 10 = some 105 := rfl
theorem rf_1_11 : RF g 1 11 = some 108 := rfl
theorem rf_1_12 : RF g 1 12 = some 111 := rfl
theorem rf_3_0 : RF g 3 0 = some 4 := rfl
theorem rf_3_1 : RF g 3 1 = some 7 := rfl
theorem rf_4_0 : RF g 4 0 = some 5 := rfl
theorem rf_4_1 : RF g 4 1 = some 6 := rfl
theorem rf_7_0 : RF g 7 0 = some 8 := rfl
theorem rf_7_1 : RF g 7 1 = some 11 := rfl
theorem rf_7_2 : RF g 7 2 = some 14 := rfl
theorem rf_7_3 : RF g 7 3 = some 17 := rfl
theorem rf_8_0 : RF g 8 0 = some 9 := rfl
theorem rf_8_1 : RF g 8 1 = some 10 := rfl
theorem rf_11_0 : RF g 11 0 = some 12 := rfl
theorem rf_11_1 : RF g 11 1 = some 13 := rfl
theorem rf_14_0 : RF g 14 0 = some 15 := rfl
theorem rf_14_1 : RF g 14 1 = some 16 := rfl
theorem rf_17_0 : RF g 17 0 = some 18 := rfl
theorem rf_17_1 : RF g 17 1 = some 19 := rfl
theorem rf_20_0 : RF g 20 0 = some 114 := rfl
theorem rf_20_1 : RF g 20 1 = some 131 := rfl
theorem rf_22_0 : RF g 22 0 = some 23 := rfl
theorem rf_22_1 : RF g 22 1 = some 26 := rfl
theorem rf_23_0 : RF g 23 0 = some 24 := rfl
theorem rf_23_1 : RF g 23 1 = some 25 := rfl
theorem rf_27_0 : RF g 27 0 = some 28 := rfl
theorem rf_27_2 : RF g 27 2 = some 31 := rfl
theorem rf_29_5 : RF g 29 5 = some 30 := rfl
theorem rf_31_5 : RF g 31 5 = some 32 := rfl
theorem rf_33_5 : RF g 33 5 = some 34 := rfl
theorem rf_35_5 : RF g 35 5 = some 36 := rfl
theorem rf_37_5 : RF g 37 5 = some 38 := rfl
theorem rf_39_5 : RF g 39 5 = some 40 := rfl
theorem rf_41_5 : RF g 41 5 = some 42 := rfl
theorem rf_43_5 : RF g 43 5 = some 44 := rfl
theorem rf_45_5 : RF g 45 5 = some 46 := rfl
theorem rf_47_5 : RF g 47 5 = some 48 := rfl
theorem rf_49_5 : RF g 49 5 = some 50 := rfl
theorem rf_51_5 : RF g 51 5 = some 52 := rfl
theorem rf_53_5 : RF g 53 5 = some 54 := rfl
theorem rf_55_5 : RF g 55 5 = some 56 := rfl
theorem rf_57_5 : RF g 57 5 = some 58 := rfl
theorem rf_59_5 : RF g 59 5 = some 60 := rfl
theorem rf_61_5 : RF g 61 5 = some 62 := rfl
theorem rf_63_5 : RF g 63 5 = some 64 := rfl
theorem rf_65_5 : RF g 65 5 = some 66 := rfl
theorem rf_67_5 : RF g 67 5 = some 68 := rfl
theorem rf_69_5 : RF g 69 5 = some 70 := rfl
theorem rf_71_5 : RF g 71 5 = some 72 := rfl
theorem rf_73_5 : RF g 73 5 = some 74 := rfl
theorem rf_75_5 : RF g 75 5 = some 76 := rfl
theorem rf_77_5 : RF g 77 5 = some 78 := rfl
theorem rf_79_5 : RF g 79 5 = some 80 := rfl
theorem rf_81_5 : RF g 81 5 = some 82 := rfl
theorem rf_83_5 : RF g 83 5 = some 84 := rfl
theorem rf_85_5 : RF g 85 5 = some 86 := rfl
theorem rf_87_5 : RF g 87 5 = some 88 := rfl
theorem rf_89_5 : RF g 89 5 = some 90 := rfl
theorem rf_91_5 : RF g 91 5 = some 92 := rfl
theorem rf_93_5 : RF g 93 5 = some 94 := rfl
theorem rf_95_5 : RF g 95 5 = some 96 := rfl
theorem rf_97_0 : RF g 97 0 = some 98 := rfl
theorem rf_97_1 : RF g 97 1 = some 99 := rfl
theorem rf_97_2 : RF g 97 2 = some 100 := rfl
theorem rf_97_3 : RF g 97 3 = some 101 := rfl
theorem rf_102_0 : RF g 102 0 = some 103 := rfl
theorem rf_102_1 : RF g 102 1 = some 104 := rfl
theorem rf_105_0 : RF g 105 0 = some 106 := rfl
theorem rf_105_1 : RF g 105 1 = some 107 := rfl
theorem rf_108_0 : RF g 108 0 = some 109 := rfl
theorem rf_108_1 : RF g 108 1 = some 110 := rfl
theorem rf_111_0 : RF g 111 0 = some 112 := rfl
theorem rf_111_1 : RF g 111 1 = some 113 := rfl
theorem rf_114_0 : RF g 114 0 = some 115 := rfl
theorem rf_114_1 : RF g 114 1 = some 118 := rfl
theorem rf_115_0 : RF g 115 0 = some 116 := rfl
theorem rf_115_1 : RF g 115 1 = some 117 := rfl
theorem rf_118_0 : RF g 118 0 = some 119 := rfl
theorem rf_118_1 : RF g 118 1 = some 122 := rfl
theorem rf_118_2 : RF g 118 2 = some 125 := rfl
theorem rf_118_3 : RF g 118 3 = some 128 := rfl
theorem rf_119_0 : RF g 119 0 = some 120 := rfl
theorem rf_119_1 : RF g 119 1 = some 121 := rfl
theorem rf_122_0 : RF g 122 0 = some 123 := rfl
theorem rf_122_1 : RF g 122 1 = some 124 := rfl
theorem rf_125_0 : RF g 125 0 = some 126 := rfl
theorem rf_125_1 : RF g 125 1 = some 127 := rfl
theorem rf_128_0 : RF g 128 0 = some 129 := rfl
theorem rf_128_1 : RF g 128 1 = some 130 := rfl
theorem rf_131_0 : RF g 131 0 = some 132 := rfl
theorem rf_131_1 : RF g 131 1 = some 135 := rfl
theorem rf_132_0 : RF g 132 0 = some 133 := rfl
theorem rf_132_1 : RF g 132 1 = some 134 := rfl
theorem rf_135_0 : RF g 135 0 = some 136 := rfl
theorem rf_135_1 : RF g 135 1 = some 139 := rfl
theorem rf_135_2 : RF g 135 2 = some 142 := rfl
theorem rf_135_3 : RF g 135 3 = some 145 := rfl
theorem rf_136_0 : RF g 136 0 = some 137 := rfl
theorem rf_136_1 : RF g 136 1 = some 138 := rfl
theorem rf_139_0 : RF g 139 0 = some 140 := rfl
theorem rf_139_1 : RF g 139 1 = some 141 := rfl
theorem rf_142_0 : RF g 142 0 = some 143 := rfl
theorem rf_142_1 : RF g 142 1 = some 144 := rfl
theorem rf_145_0 : RF g 145 0 = some 146 := rfl
theorem rf_145_1 : RF g 145 1 = some 147 := rfl
theorem rf_sp : RF g 27 1 = some (g 32) := rfl
theorem rf_fo {j : Nat} (h : j < 32) : RF g 28 j = some (g j) := by unfold RF; rw [if_pos rfl, if_pos h]
theorem rf_else {o j : Nat} (h : ¬ o = 28) (h2 : ¬ o = 27) : RF g o j = R0 o j := by unfold RF; rw [if_neg h, if_neg fun z => h2 z.1]
theorem rf_upS {m : Nat} : zup (RF g) 27 1 (some m) = RF (fun i => if i = 32 then m else g i) := by
  funext o j
  unfold zup RF
  by_cases h1 : o = 28
  · subst h1
    simp
    by_cases hj : j < 32
    · rw [if_neg (show ¬ j = 32 by omega)]
    · rw [if_neg hj, if_neg hj]
  · by_cases h2 : o = 27 ∧ j = 1
    · obtain ⟨rfl, rfl⟩ := h2
      simp
    · simp [h1, h2]
theorem rf_upF {m k : Nat} (hk : k < 32) : zup (RF g) 28 k (some m) = RF (fun i => if i = k then m else g i) := by
  funext o j
  unfold zup RF
  by_cases h1 : o = 28
  · subst h1
    by_cases h2 : j = k
    · subst h2
      simp [hk]
    · simp [h2]
  · by_cases h2 : o = 27 ∧ j = 1
    · obtain ⟨rfl, rfl⟩ := h2
      simp
      intro z
      omega
    · simp [h1, h2]
def zBx (o : Nat) : Prop := o ∈ [4, 102, 105, 108, 111, 115, 132]
def zSp (o : Nat) : Prop := o ∈ [8, 11, 14, 17, 23, 119, 122, 125, 128, 136, 139, 142, 145]
def zSe (o : Nat) : Prop := o ∈ [3, 114, 131]
def zFm (o : Nat) : Prop := 29 ≤ o ∧ o ≤ 95 ∧ o % 2 = 1
theorem bx_4 : zBx 4 := by simp [zBx]
theorem bx_102 : zBx 102 := by simp [zBx]
theorem bx_105 : zBx 105 := by simp [zBx]
theorem bx_108 : zBx 108 := by simp [zBx]
theorem bx_111 : zBx 111 := by simp [zBx]
theorem bx_115 : zBx 115 := by simp [zBx]
theorem bx_132 : zBx 132 := by simp [zBx]
theorem sp_8 : zSp 8 := by simp [zSp]
theorem sp_11 : zSp 11 := by simp [zSp]
theorem sp_14 : zSp 14 := by simp [zSp]
theorem sp_17 : zSp 17 := by simp [zSp]
theorem sp_23 : zSp 23 := by simp [zSp]
theorem sp_119 : zSp 119 := by simp [zSp]
theorem sp_122 : zSp 122 := by simp [zSp]
theorem sp_125 : zSp 125 := by simp [zSp]
theorem sp_128 : zSp 128 := by simp [zSp]
theorem sp_136 : zSp 136 := by simp [zSp]
theorem sp_139 : zSp 139 := by simp [zSp]
theorem sp_142 : zSp 142 := by simp [zSp]
theorem sp_145 : zSp 145 := by simp [zSp]
theorem se_3 : zSe 3 := by simp [zSe]
theorem se_114 : zSe 114 := by simp [zSe]
theorem se_131 : zSe 131 := by simp [zSe]
theorem fm_31 : zFm 31 := by simp [zFm]
theorem zBx_is {o : Nat} (h : zBx o) : zIs (SH Ls) o 0 0 := by
  simp only [zBx, List.mem_cons, List.not_mem_nil, or_false] at h
  rcases h with rfl | rfl | rfl | rfl | rfl | rfl | rfl
  all_goals exact ⟨rfl, by decide⟩
theorem zBx_i1 {o : Nat} (h : zBx o) : zIs (SH Ls) (o + 1) 1 4 := by
  simp only [zBx, List.mem_cons, List.not_mem_nil, or_false] at h
  rcases h with rfl | rfl | rfl | rfl | rfl | rfl | rfl
  all_goals exact ⟨rfl, by decide⟩
theorem zBx_i2 {o : Nat} (h : zBx o) : zIs (SH Ls) (o + 2) 1 4 := by
  simp only [zBx, List.mem_cons, List.not_mem_nil, or_false] at h
  rcases h with rfl | rfl | rfl | rfl | rfl | rfl | rfl
  all_goals exact ⟨rfl, by decide⟩
theorem zBx_r0 {o : Nat} (h : zBx o) : RF g o 0 = some (o + 1) := by
  simp only [zBx, List.mem_cons, List.not_mem_nil, or_false] at h
  rcases h with rfl | rfl | rfl | rfl | rfl | rfl | rfl
  all_goals rfl
theorem zBx_r1 {o : Nat} (h : zBx o) : RF g o 1 = some (o + 2) := by
  simp only [zBx, List.mem_cons, List.not_mem_nil, or_false] at h
  rcases h with rfl | rfl | rfl | rfl | rfl | rfl | rfl
  all_goals rfl
theorem zSp_is {o : Nat} (h : zSp o) : zIs (SH Ls) o 0 6 := by
  simp only [zSp, List.mem_cons, List.not_mem_nil, or_false] at h
  rcases h with rfl | rfl | rfl | rfl | rfl | rfl | rfl | rfl | rfl | rfl | rfl | rfl | rfl
  all_goals exact ⟨rfl, by decide⟩
theorem zSp_i1 {o : Nat} (h : zSp o) : zIs (SH Ls) (o + 1) 1 60 := by
  simp only [zSp, List.mem_cons, List.not_mem_nil, or_false] at h
  rcases h with rfl | rfl | rfl | rfl | rfl | rfl | rfl | rfl | rfl | rfl | rfl | rfl | rfl
  all_goals exact ⟨rfl, by decide⟩
theorem zSp_i2 {o : Nat} (h : zSp o) : zIs (SH Ls) (o + 2) 1 60 := by
  simp only [zSp, List.mem_cons, List.not_mem_nil, or_false] at h
  rcases h with rfl | rfl | rfl | rfl | rfl | rfl | rfl | rfl | rfl | rfl | rfl | rfl | rfl
  all_goals exact ⟨rfl, by decide⟩
theorem zSp_r0 {o : Nat} (h : zSp o) : RF g o 0 = some (o + 1) := by
  simp only [zSp, List.mem_cons, List.not_mem_nil, or_false] at h
  rcases h with rfl | rfl | rfl | rfl | rfl | rfl | rfl | rfl | rfl | rfl | rfl | rfl | rfl
  all_goals rfl
theorem zSp_r1 {o : Nat} (h : zSp o) : RF g o 1 = some (o + 2) := by
  simp only [zSp, List.mem_cons, List.not_mem_nil, or_false] at h
  rcases h with rfl | rfl | rfl | rfl | rfl | rfl | rfl | rfl | rfl | rfl | rfl | rfl | rfl
  all_goals rfl
theorem zSe_is {o : Nat} (h : zSe o) : zIs (SH Ls) o 0 5 := by
  simp only [zSe, List.mem_cons, List.not_mem_nil, or_false] at h
  rcases h with rfl | rfl | rfl
  all_goals exact ⟨rfl, by decide⟩
theorem zSe_bx {o : Nat} (h : zSe o) : zBx (o + 1) := by
  simp only [zSe, List.mem_cons, List.not_mem_nil, or_false] at h
  rcases h with rfl | rfl | rfl
  all_goals simp [zBx]
theorem zSe_ia {o : Nat} (h : zSe o) : zIs (SH Ls) (o + 4) 11 4 := by
  simp only [zSe, List.mem_cons, List.not_mem_nil, or_false] at h
  rcases h with rfl | rfl | rfl
  all_goals exact ⟨rfl, by decide⟩
theorem zSe_r0 {o : Nat} (h : zSe o) : RF g o 0 = some (o + 1) := by
  simp only [zSe, List.mem_cons, List.not_mem_nil, or_false] at h
  rcases h with rfl | rfl | rfl
  all_goals rfl
theorem zSe_r1 {o : Nat} (h : zSe o) : RF g o 1 = some (o + 4) := by
  simp only [zSe, List.mem_cons, List.not_mem_nil, or_false] at h
  rcases h with rfl | rfl | rfl
  all_goals rfl
theorem zSe_s0 {o : Nat} (h : zSe o) : zSp (o + 5) := by
  simp only [zSe, List.mem_cons, List.not_mem_nil, or_false] at h
  rcases h with rfl | rfl | rfl
  all_goals simp [zSp]
theorem zSe_s1 {o : Nat} (h : zSe o) : zSp (o + 8) := by
  simp only [zSe, List.mem_cons, List.not_mem_nil, or_false] at h
  rcases h with rfl | rfl | rfl
  all_goals simp [zSp]
theorem zSe_s2 {o : Nat} (h : zSe o) : zSp (o + 11) := by
  simp only [zSe, List.mem_cons, List.not_mem_nil, or_false] at h
  rcases h with rfl | rfl | rfl
  all_goals simp [zSp]
theorem zSe_s3 {o : Nat} (h : zSe o) : zSp (o + 14) := by
  simp only [zSe, List.mem_cons, List.not_mem_nil, or_false] at h
  rcases h with rfl | rfl | rfl
  all_goals simp [zSp]
theorem zSe_e0 {o : Nat} (h : zSe o) : RF g (o + 4) 0 = some (o + 5) := by
  simp only [zSe, List.mem_cons, List.not_mem_nil, or_false] at h
  rcases h with rfl | rfl | rfl
  all_goals rfl
theorem zSe_e1 {o : Nat} (h : zSe o) : RF g (o + 4) 1 = some (o + 8) := by
  simp only [zSe, List.mem_cons, List.not_mem_nil, or_false] at h
  rcases h with rfl | rfl | rfl
  all_goals rfl
theorem zSe_e2 {o : Nat} (h : zSe o) : RF g (o + 4) 2 = some (o + 11) := by
  simp only [zSe, List.mem_cons, List.not_mem_nil, or_false] at h
  rcases h with rfl | rfl | rfl
  all_goals rfl
theorem zSe_e3 {o : Nat} (h : zSe o) : RF g (o + 4) 3 = some (o + 14) := by
  simp only [zSe, List.mem_cons, List.not_mem_nil, or_false] at h
  rcases h with rfl | rfl | rfl
  all_goals rfl
theorem zFm_alb : ((List.range 96).all fun o => !(decide (29 ≤ o)) || (!(o % 2 == 1) || (decide (zSHt[o - 1]? = some (0, 2)) && decide (zSHt[o]? = some (2, 12)) && decide (R0 o 5 = some (o + 1))))) = true := by decide +kernel
theorem zFm_all (o : Nat) (h : o < 96) (h1 : 29 ≤ o) (h2 : o % 2 = 1) : zSHt[o - 1]? = some (0, 2) ∧ zSHt[o]? = some (2, 12) ∧ R0 o 5 = some (o + 1) := by
  have := List.all_eq_true.mp zFm_alb o (List.mem_range.mpr h)
  simpa [h1, h2, and_assoc] using this
theorem zFm_is {o : Nat} (h : zFm o) : zIs (SH Ls) o 0 2 := by
  refine ⟨?_, by have := h.1; omega⟩
  have := (zFm_all o (by have := h.2.1; omega) h.1 h.2.2).1
  unfold SH
  rw [List.getElem?_cons, if_neg (by have := h.1; omega)]
  exact this
theorem zFm_ic {o : Nat} (h : zFm o) : zIs (SH Ls) (o + 1) 2 12 := ⟨(zFm_all o (by have := h.2.1; omega) h.1 h.2.2).2.1, by omega⟩
theorem zFm_r {o : Nat} (h : zFm o) : RF g o 5 = some (o + 1) := by
  rw [rf_else (by have := h.1; have := h.2.2; omega) (by have := h.1; omega)]
  exact (zFm_all o (by have := h.2.1; omega) h.1 h.2.2).2.2
end
