/-! The pure part: the system as it is when both objects have been made. -/
def rd_i0 : Option (rd_W × rd_S) := F_X11_init (rd_push rd_w0 11 0) 1 rd_s0
def rd_i1 : Option (rd_W × rd_S) := rd_b rd_i0 fun w s => F_X12_init (rd_push w 12 0) (w.1 + 1) s
def wF : rd_W := (rd_i1.getD (rd_w0, rd_s0)).1
def sF : rd_S := (rd_i1.getD (rd_w0, rd_s0)).2
theorem rd_i0_some : rd_i0.isSome = true := by decide +kernel
theorem rd_i1_some : rd_i1.isSome = true := by decide +kernel
theorem rd_i0_n : (rd_i0.getD (rd_w0, rd_s0)).1.1 = 75 := by decide +kernel
/-- where the references lead, but for the row of OTHERS -/
def Sh (S : rd_S) : Prop := ∀ a, a ≠ 33 → S.2 a = sF.2 a
theorem rF_1_0 : sF.2 1 0 = some 2 := by decide +kernel
theorem sh_1_0 {S : rd_S} (h : Sh S) : gR S 1 0 = some 2 := by show S.2 1 0 = _; rw [h 1 (by decide)]; exact rF_1_0
theorem rF_1_1 : sF.2 1 1 = some 10 := by decide +kernel
theorem sh_1_1 {S : rd_S} (h : Sh S) : gR S 1 1 = some 10 := by show S.2 1 1 = _; rw [h 1 (by decide)]; exact rF_1_1
theorem rF_1_2 : sF.2 1 2 = some 13 := by decide +kernel
theorem sh_1_2 {S : rd_S} (h : Sh S) : gR S 1 2 = some 13 := by show S.2 1 2 = _; rw [h 1 (by decide)]; exact rF_1_2
theorem rF_2_0 : sF.2 2 0 = some 3 := by decide +kernel
theorem sh_2_0 {S : rd_S} (h : Sh S) : gR S 2 0 = some 3 := by show S.2 2 0 = _; rw [h 2 (by decide)]; exact rF_2_0
theorem rF_2_1 : sF.2 2 1 = some 6 := by decide +kernel
theorem sh_2_1 {S : rd_S} (h : Sh S) : gR S 2 1 = some 6 := by show S.2 2 1 = _; rw [h 2 (by decide)]; exact rF_2_1
theorem rF_2_2 : sF.2 2 2 = some 8 := by decide +kernel
theorem sh_2_2 {S : rd_S} (h : Sh S) : gR S 2 2 = some 8 := by show S.2 2 2 = _; rw [h 2 (by decide)]; exact rF_2_2
theorem rF_2_3 : sF.2 2 3 = some 9 := by decide +kernel
theorem sh_2_3 {S : rd_S} (h : Sh S) : gR S 2 3 = some 9 := by show S.2 2 3 = _; rw [h 2 (by decide)]; exact rF_2_3
theorem rF_3_0 : sF.2 3 0 = some 4 := by decide +kernel
theorem sh_3_0 {S : rd_S} (h : Sh S) : gR S 3 0 = some 4 := by show S.2 3 0 = _; rw [h 3 (by decide)]; exact rF_3_0
theorem rF_3_1 : sF.2 3 1 = some 5 := by decide +kernel
theorem sh_3_1 {S : rd_S} (h : Sh S) : gR S 3 1 = some 5 := by show S.2 3 1 = _; rw [h 3 (by decide)]; exact rF_3_1
theorem rF_6_0 : sF.2 6 0 = some 7 := by decide +kernel
theorem sh_6_0 {S : rd_S} (h : Sh S) : gR S 6 0 = some 7 := by show S.2 6 0 = _; rw [h 6 (by decide)]; exact rF_6_0
theorem rF_10_0 : sF.2 10 0 = some 11 := by decide +kernel
theorem sh_10_0 {S : rd_S} (h : Sh S) : gR S 10 0 = some 11 := by show S.2 10 0 = _; rw [h 10 (by decide)]; exact rF_10_0
theorem rF_10_1 : sF.2 10 1 = some 12 := by decide +kernel
theorem sh_10_1 {S : rd_S} (h : Sh S) : gR S 10 1 = some 12 := by show S.2 10 1 = _; rw [h 10 (by decide)]; exact rF_10_1
theorem rF_13_0 : sF.2 13 0 = some 14 := by decide +kernel
theorem sh_13_0 {S : rd_S} (h : Sh S) : gR S 13 0 = some 14 := by show S.2 13 0 = _; rw [h 13 (by decide)]; exact rF_13_0
theorem rF_13_1 : sF.2 13 1 = some 15 := by decide +kernel
theorem sh_13_1 {S : rd_S} (h : Sh S) : gR S 13 1 = some 15 := by show S.2 13 1 = _; rw [h 13 (by decide)]; exact rF_13_1
theorem rF_13_2 : sF.2 13 2 = some 18 := by decide +kernel
theorem sh_13_2 {S : rd_S} (h : Sh S) : gR S 13 2 = some 18 := by show S.2 13 2 = _; rw [h 13 (by decide)]; exact rF_13_2
theorem rF_13_3 : sF.2 13 3 = some 21 := by decide +kernel
theorem sh_13_3 {S : rd_S} (h : Sh S) : gR S 13 3 = some 21 := by show S.2 13 3 = _; rw [h 13 (by decide)]; exact rF_13_3
theorem rF_13_4 : sF.2 13 4 = some 24 := by decide +kernel
theorem sh_13_4 {S : rd_S} (h : Sh S) : gR S 13 4 = some 24 := by show S.2 13 4 = _; rw [h 13 (by decide)]; exact rF_13_4
theorem rF_13_5 : sF.2 13 5 = some 27 := by decide +kernel
theorem sh_13_5 {S : rd_S} (h : Sh S) : gR S 13 5 = some 27 := by show S.2 13 5 = _; rw [h 13 (by decide)]; exact rF_13_5
theorem rF_13_6 : sF.2 13 6 = some 28 := by decide +kernel
theorem sh_13_6 {S : rd_S} (h : Sh S) : gR S 13 6 = some 28 := by show S.2 13 6 = _; rw [h 13 (by decide)]; exact rF_13_6
theorem rF_13_7 : sF.2 13 7 = some 32 := by decide +kernel
theorem sh_13_7 {S : rd_S} (h : Sh S) : gR S 13 7 = some 32 := by show S.2 13 7 = _; rw [h 13 (by decide)]; exact rF_13_7
theorem rF_13_8 : sF.2 13 8 = some 74 := by decide +kernel
theorem sh_13_8 {S : rd_S} (h : Sh S) : gR S 13 8 = some 74 := by show S.2 13 8 = _; rw [h 13 (by decide)]; exact rF_13_8
theorem rF_15_2 : sF.2 15 2 = some 16 := by decide +kernel
theorem sh_15_2 {S : rd_S} (h : Sh S) : gR S 15 2 = some 16 := by show S.2 15 2 = _; rw [h 15 (by decide)]; exact rF_15_2
theorem rF_15_3 : sF.2 15 3 = some 17 := by decide +kernel
theorem sh_15_3 {S : rd_S} (h : Sh S) : gR S 15 3 = some 17 := by show S.2 15 3 = _; rw [h 15 (by decide)]; exact rF_15_3
theorem rF_18_2 : sF.2 18 2 = some 19 := by decide +kernel
theorem sh_18_2 {S : rd_S} (h : Sh S) : gR S 18 2 = some 19 := by show S.2 18 2 = _; rw [h 18 (by decide)]; exact rF_18_2
theorem rF_18_3 : sF.2 18 3 = some 20 := by decide +kernel
theorem sh_18_3 {S : rd_S} (h : Sh S) : gR S 18 3 = some 20 := by show S.2 18 3 = _; rw [h 18 (by decide)]; exact rF_18_3
theorem rF_21_2 : sF.2 21 2 = some 22 := by decide +kernel
theorem sh_21_2 {S : rd_S} (h : Sh S) : gR S 21 2 = some 22 := by show S.2 21 2 = _; rw [h 21 (by decide)]; exact rF_21_2
theorem rF_21_3 : sF.2 21 3 = some 23 := by decide +kernel
theorem sh_21_3 {S : rd_S} (h : Sh S) : gR S 21 3 = some 23 := by show S.2 21 3 = _; rw [h 21 (by decide)]; exact rF_21_3
theorem rF_24_0 : sF.2 24 0 = some 25 := by decide +kernel
theorem sh_24_0 {S : rd_S} (h : Sh S) : gR S 24 0 = some 25 := by show S.2 24 0 = _; rw [h 24 (by decide)]; exact rF_24_0
theorem rF_24_1 : sF.2 24 1 = some 26 := by decide +kernel
theorem sh_24_1 {S : rd_S} (h : Sh S) : gR S 24 1 = some 26 := by show S.2 24 1 = _; rw [h 24 (by decide)]; exact rF_24_1
theorem rF_28_0 : sF.2 28 0 = some 29 := by decide +kernel
theorem sh_28_0 {S : rd_S} (h : Sh S) : gR S 28 0 = some 29 := by show S.2 28 0 = _; rw [h 28 (by decide)]; exact rF_28_0
theorem rF_28_1 : sF.2 28 1 = some 30 := by decide +kernel
theorem sh_28_1 {S : rd_S} (h : Sh S) : gR S 28 1 = some 30 := by show S.2 28 1 = _; rw [h 28 (by decide)]; exact rF_28_1
theorem rF_28_2 : sF.2 28 2 = some 31 := by decide +kernel
theorem sh_28_2 {S : rd_S} (h : Sh S) : gR S 28 2 = some 31 := by show S.2 28 2 = _; rw [h 28 (by decide)]; exact rF_28_2
theorem rF_32_0 : sF.2 32 0 = some 33 := by decide +kernel
theorem sh_32_0 {S : rd_S} (h : Sh S) : gR S 32 0 = some 33 := by show S.2 32 0 = _; rw [h 32 (by decide)]; exact rF_32_0
theorem rF_34_0 : sF.2 34 0 = some 35 := by decide +kernel
theorem sh_34_0 {S : rd_S} (h : Sh S) : gR S 34 0 = some 35 := by show S.2 34 0 = _; rw [h 34 (by decide)]; exact rF_34_0
theorem rF_34_1 : sF.2 34 1 = some 36 := by decide +kernel
theorem sh_34_1 {S : rd_S} (h : Sh S) : gR S 34 1 = some 36 := by show S.2 34 1 = _; rw [h 34 (by decide)]; exact rF_34_1
theorem rF_36_2 : sF.2 36 2 = some 37 := by decide +kernel
theorem sh_36_2 {S : rd_S} (h : Sh S) : gR S 36 2 = some 37 := by show S.2 36 2 = _; rw [h 36 (by decide)]; exact rF_36_2
theorem rF_36_3 : sF.2 36 3 = some 38 := by decide +kernel
theorem sh_36_3 {S : rd_S} (h : Sh S) : gR S 36 3 = some 38 := by show S.2 36 3 = _; rw [h 36 (by decide)]; exact rF_36_3
theorem rF_39_0 : sF.2 39 0 = some 40 := by decide +kernel
theorem sh_39_0 {S : rd_S} (h : Sh S) : gR S 39 0 = some 40 := by show S.2 39 0 = _; rw [h 39 (by decide)]; exact rF_39_0
theorem rF_39_1 : sF.2 39 1 = some 41 := by decide +kernel
theorem sh_39_1 {S : rd_S} (h : Sh S) : gR S 39 1 = some 41 := by show S.2 39 1 = _; rw [h 39 (by decide)]; exact rF_39_1
theorem rF_41_2 : sF.2 41 2 = some 42 := by decide +kernel
theorem sh_41_2 {S : rd_S} (h : Sh S) : gR S 41 2 = some 42 := by show S.2 41 2 = _; rw [h 41 (by decide)]; exact rF_41_2
theorem rF_41_3 : sF.2 41 3 = some 43 := by decide +kernel
theorem sh_41_3 {S : rd_S} (h : Sh S) : gR S 41 3 = some 43 := by show S.2 41 3 = _; rw [h 41 (by decide)]; exact rF_41_3
theorem rF_44_0 : sF.2 44 0 = some 45 := by decide +kernel
theorem sh_44_0 {S : rd_S} (h : Sh S) : gR S 44 0 = some 45 := by show S.2 44 0 = _; rw [h 44 (by decide)]; exact rF_44_0
theorem rF_44_1 : sF.2 44 1 = some 46 := by decide +kernel
theorem sh_44_1 {S : rd_S} (h : Sh S) : gR S 44 1 = some 46 := by show S.2 44 1 = _; rw [h 44 (by decide)]; exact rF_44_1
theorem rF_46_2 : sF.2 46 2 = some 47 := by decide +kernel
theorem sh_46_2 {S : rd_S} (h : Sh S) : gR S 46 2 = some 47 := by show S.2 46 2 = _; rw [h 46 (by decide)]; exact rF_46_2
theorem rF_46_3 : sF.2 46 3 = some 48 := by decide +kernel
theorem sh_46_3 {S : rd_S} (h : Sh S) : gR S 46 3 = some 48 := by show S.2 46 3 = _; rw [h 46 (by decide)]; exact rF_46_3
theorem rF_49_0 : sF.2 49 0 = some 50 := by decide +kernel
theorem sh_49_0 {S : rd_S} (h : Sh S) : gR S 49 0 = some 50 := by show S.2 49 0 = _; rw [h 49 (by decide)]; exact rF_49_0
theorem rF_49_1 : sF.2 49 1 = some 51 := by decide +kernel
theorem sh_49_1 {S : rd_S} (h : Sh S) : gR S 49 1 = some 51 := by show S.2 49 1 = _; rw [h 49 (by decide)]; exact rF_49_1
theorem rF_51_2 : sF.2 51 2 = some 52 := by decide +kernel
theorem sh_51_2 {S : rd_S} (h : Sh S) : gR S 51 2 = some 52 := by show S.2 51 2 = _; rw [h 51 (by decide)]; exact rF_51_2
theorem rF_51_3 : sF.2 51 3 = some 53 := by decide +kernel
theorem sh_51_3 {S : rd_S} (h : Sh S) : gR S 51 3 = some 53 := by show S.2 51 3 = _; rw [h 51 (by decide)]; exact rF_51_3
theorem rF_54_0 : sF.2 54 0 = some 55 := by decide +kernel
theorem sh_54_0 {S : rd_S} (h : Sh S) : gR S 54 0 = some 55 := by show S.2 54 0 = _; rw [h 54 (by decide)]; exact rF_54_0
theorem rF_54_1 : sF.2 54 1 = some 56 := by decide +kernel
theorem sh_54_1 {S : rd_S} (h : Sh S) : gR S 54 1 = some 56 := by show S.2 54 1 = _; rw [h 54 (by decide)]; exact rF_54_1
theorem rF_56_2 : sF.2 56 2 = some 57 := by decide +kernel
theorem sh_56_2 {S : rd_S} (h : Sh S) : gR S 56 2 = some 57 := by show S.2 56 2 = _; rw [h 56 (by decide)]; exact rF_56_2
theorem rF_56_3 : sF.2 56 3 = some 58 := by decide +kernel
theorem sh_56_3 {S : rd_S} (h : Sh S) : gR S 56 3 = some 58 := by show S.2 56 3 = _; rw [h 56 (by decide)]; exact rF_56_3
theorem rF_59_0 : sF.2 59 0 = some 60 := by decide +kernel
theorem sh_59_0 {S : rd_S} (h : Sh S) : gR S 59 0 = some 60 := by show S.2 59 0 = _; rw [h 59 (by decide)]; exact rF_59_0
theorem rF_59_1 : sF.2 59 1 = some 61 := by decide +kernel
theorem sh_59_1 {S : rd_S} (h : Sh S) : gR S 59 1 = some 61 := by show S.2 59 1 = _; rw [h 59 (by decide)]; exact rF_59_1
theorem rF_61_2 : sF.2 61 2 = some 62 := by decide +kernel
theorem sh_61_2 {S : rd_S} (h : Sh S) : gR S 61 2 = some 62 := by show S.2 61 2 = _; rw [h 61 (by decide)]; exact rF_61_2
theorem rF_61_3 : sF.2 61 3 = some 63 := by decide +kernel
theorem sh_61_3 {S : rd_S} (h : Sh S) : gR S 61 3 = some 63 := by show S.2 61 3 = _; rw [h 61 (by decide)]; exact rF_61_3
theorem rF_64_0 : sF.2 64 0 = some 65 := by decide +kernel
theorem sh_64_0 {S : rd_S} (h : Sh S) : gR S 64 0 = some 65 := by show S.2 64 0 = _; rw [h 64 (by decide)]; exact rF_64_0
theorem rF_64_1 : sF.2 64 1 = some 66 := by decide +kernel
theorem sh_64_1 {S : rd_S} (h : Sh S) : gR S 64 1 = some 66 := by show S.2 64 1 = _; rw [h 64 (by decide)]; exact rF_64_1
theorem rF_66_2 : sF.2 66 2 = some 67 := by decide +kernel
theorem sh_66_2 {S : rd_S} (h : Sh S) : gR S 66 2 = some 67 := by show S.2 66 2 = _; rw [h 66 (by decide)]; exact rF_66_2
theorem rF_66_3 : sF.2 66 3 = some 68 := by decide +kernel
theorem sh_66_3 {S : rd_S} (h : Sh S) : gR S 66 3 = some 68 := by show S.2 66 3 = _; rw [h 66 (by decide)]; exact rF_66_3
theorem rF_69_0 : sF.2 69 0 = some 70 := by decide +kernel
theorem sh_69_0 {S : rd_S} (h : Sh S) : gR S 69 0 = some 70 := by show S.2 69 0 = _; rw [h 69 (by decide)]; exact rF_69_0
theorem rF_69_1 : sF.2 69 1 = some 71 := by decide +kernel
theorem sh_69_1 {S : rd_S} (h : Sh S) : gR S 69 1 = some 71 := by show S.2 69 1 = _; rw [h 69 (by decide)]; exact rF_69_1
theorem rF_71_2 : sF.2 71 2 = some 72 := by decide +kernel
theorem sh_71_2 {S : rd_S} (h : Sh S) : gR S 71 2 = some 72 := by show S.2 71 2 = _; rw [h 71 (by decide)]; exact rF_71_2
theorem rF_71_3 : sF.2 71 3 = some 73 := by decide +kernel
theorem sh_71_3 {S : rd_S} (h : Sh S) : gR S 71 3 = some 73 := by show S.2 71 3 = _; rw [h 71 (by decide)]; exact rF_71_3
theorem rF_74_0 : sF.2 74 0 = some 75 := by decide +kernel
theorem sh_74_0 {S : rd_S} (h : Sh S) : gR S 74 0 = some 75 := by show S.2 74 0 = _; rw [h 74 (by decide)]; exact rF_74_0
theorem rF_76_3 : sF.2 76 3 = some 77 := by decide +kernel
theorem sh_76_3 {S : rd_S} (h : Sh S) : gR S 76 3 = some 77 := by show S.2 76 3 = _; rw [h 76 (by decide)]; exact rF_76_3
theorem rF_76_4 : sF.2 76 4 = some 78 := by decide +kernel
theorem sh_76_4 {S : rd_S} (h : Sh S) : gR S 76 4 = some 78 := by show S.2 76 4 = _; rw [h 76 (by decide)]; exact rF_76_4
theorem rF_76_10 : sF.2 76 10 = some 79 := by decide +kernel
theorem sh_76_10 {S : rd_S} (h : Sh S) : gR S 76 10 = some 79 := by show S.2 76 10 = _; rw [h 76 (by decide)]; exact rF_76_10
theorem rF_76_13 : sF.2 76 13 = some 80 := by decide +kernel
theorem sh_76_13 {S : rd_S} (h : Sh S) : gR S 76 13 = some 80 := by show S.2 76 13 = _; rw [h 76 (by decide)]; exact rF_76_13
theorem rF_76_18 : sF.2 76 18 = some 81 := by decide +kernel
theorem sh_76_18 {S : rd_S} (h : Sh S) : gR S 76 18 = some 81 := by show S.2 76 18 = _; rw [h 76 (by decide)]; exact rF_76_18
theorem rF_76_19 : sF.2 76 19 = some 82 := by decide +kernel
theorem sh_76_19 {S : rd_S} (h : Sh S) : gR S 76 19 = some 82 := by show S.2 76 19 = _; rw [h 76 (by decide)]; exact rF_76_19
theorem rF_76_21 : sF.2 76 21 = some 83 := by decide +kernel
theorem sh_76_21 {S : rd_S} (h : Sh S) : gR S 76 21 = some 83 := by show S.2 76 21 = _; rw [h 76 (by decide)]; exact rF_76_21
theorem rF_76_22 : sF.2 76 22 = some 84 := by decide +kernel
theorem sh_76_22 {S : rd_S} (h : Sh S) : gR S 76 22 = some 84 := by show S.2 76 22 = _; rw [h 76 (by decide)]; exact rF_76_22
theorem rF_76_25 : sF.2 76 25 = some 85 := by decide +kernel
theorem sh_76_25 {S : rd_S} (h : Sh S) : gR S 76 25 = some 85 := by show S.2 76 25 = _; rw [h 76 (by decide)]; exact rF_76_25
theorem rF_76_26 : sF.2 76 26 = some 86 := by decide +kernel
theorem sh_76_26 {S : rd_S} (h : Sh S) : gR S 76 26 = some 86 := by show S.2 76 26 = _; rw [h 76 (by decide)]; exact rF_76_26
theorem rF_76_27 : sF.2 76 27 = some 87 := by decide +kernel
theorem sh_76_27 {S : rd_S} (h : Sh S) : gR S 76 27 = some 87 := by show S.2 76 27 = _; rw [h 76 (by decide)]; exact rF_76_27
theorem rF_76_28 : sF.2 76 28 = some 88 := by decide +kernel
theorem sh_76_28 {S : rd_S} (h : Sh S) : gR S 76 28 = some 88 := by show S.2 76 28 = _; rw [h 76 (by decide)]; exact rF_76_28
theorem rF_76_29 : sF.2 76 29 = some 89 := by decide +kernel
theorem sh_76_29 {S : rd_S} (h : Sh S) : gR S 76 29 = some 89 := by show S.2 76 29 = _; rw [h 76 (by decide)]; exact rF_76_29
theorem rF_76_30 : sF.2 76 30 = some 90 := by decide +kernel
theorem sh_76_30 {S : rd_S} (h : Sh S) : gR S 76 30 = some 90 := by show S.2 76 30 = _; rw [h 76 (by decide)]; exact rF_76_30
theorem rF_76_33 : sF.2 76 33 = some 91 := by decide +kernel
theorem sh_76_33 {S : rd_S} (h : Sh S) : gR S 76 33 = some 91 := by show S.2 76 33 = _; rw [h 76 (by decide)]; exact rF_76_33
theorem rF_76_34 : sF.2 76 34 = some 92 := by decide +kernel
theorem sh_76_34 {S : rd_S} (h : Sh S) : gR S 76 34 = some 92 := by show S.2 76 34 = _; rw [h 76 (by decide)]; exact rF_76_34
theorem rF_76_40 : sF.2 76 40 = some 93 := by decide +kernel
theorem sh_76_40 {S : rd_S} (h : Sh S) : gR S 76 40 = some 93 := by show S.2 76 40 = _; rw [h 76 (by decide)]; exact rF_76_40
theorem rF_76_41 : sF.2 76 41 = some 94 := by decide +kernel
theorem sh_76_41 {S : rd_S} (h : Sh S) : gR S 76 41 = some 94 := by show S.2 76 41 = _; rw [h 76 (by decide)]; exact rF_76_41
theorem rF_76_42 : sF.2 76 42 = some 95 := by decide +kernel
theorem sh_76_42 {S : rd_S} (h : Sh S) : gR S 76 42 = some 95 := by show S.2 76 42 = _; rw [h 76 (by decide)]; exact rF_76_42
theorem rF_76_44 : sF.2 76 44 = some 96 := by decide +kernel
theorem sh_76_44 {S : rd_S} (h : Sh S) : gR S 76 44 = some 96 := by show S.2 76 44 = _; rw [h 76 (by decide)]; exact rF_76_44
theorem rF_76_51 : sF.2 76 51 = some 97 := by decide +kernel
theorem sh_76_51 {S : rd_S} (h : Sh S) : gR S 76 51 = some 97 := by show S.2 76 51 = _; rw [h 76 (by decide)]; exact rF_76_51
theorem rF_76_52 : sF.2 76 52 = some 98 := by decide +kernel
theorem sh_76_52 {S : rd_S} (h : Sh S) : gR S 76 52 = some 98 := by show S.2 76 52 = _; rw [h 76 (by decide)]; exact rF_76_52
theorem ln_4 : wF.2.2 4 = 4 := by decide +kernel
theorem ln_5 : wF.2.2 5 = 4 := by decide +kernel
theorem ln_7 : wF.2.2 7 = 50 := by decide +kernel
theorem ln_8 : wF.2.2 8 = 79 := by decide +kernel
theorem ln_9 : wF.2.2 9 = 3 := by decide +kernel
theorem ln_11 : wF.2.2 11 = 4 := by decide +kernel
theorem ln_12 : wF.2.2 12 = 4 := by decide +kernel
theorem ln_14 : wF.2.2 14 = 10 := by decide +kernel
theorem ln_16 : wF.2.2 16 = 8 := by decide +kernel
theorem ln_17 : wF.2.2 17 = 8 := by decide +kernel
theorem ln_19 : wF.2.2 19 = 64 := by decide +kernel
theorem ln_20 : wF.2.2 20 = 64 := by decide +kernel
theorem ln_22 : wF.2.2 22 = 8 := by decide +kernel
theorem ln_23 : wF.2.2 23 = 8 := by decide +kernel
theorem ln_25 : wF.2.2 25 = 25 := by decide +kernel
theorem ln_26 : wF.2.2 26 = 25 := by decide +kernel
theorem ln_29 : wF.2.2 29 = 8 := by decide +kernel
theorem ln_30 : wF.2.2 30 = 8 := by decide +kernel
theorem ln_31 : wF.2.2 31 = 8 := by decide +kernel
theorem ln_33 : wF.2.2 33 = 8 := by decide +kernel
theorem ln_35 : wF.2.2 35 = 11 := by decide +kernel
theorem ln_37 : wF.2.2 37 = 8 := by decide +kernel
theorem ln_38 : wF.2.2 38 = 8 := by decide +kernel
theorem ln_40 : wF.2.2 40 = 11 := by decide +kernel
theorem ln_42 : wF.2.2 42 = 8 := by decide +kernel
theorem ln_43 : wF.2.2 43 = 8 := by decide +kernel
theorem ln_45 : wF.2.2 45 = 11 := by decide +kernel
theorem ln_47 : wF.2.2 47 = 8 := by decide +kernel
theorem ln_48 : wF.2.2 48 = 8 := by decide +kernel
theorem ln_50 : wF.2.2 50 = 11 := by decide +kernel
theorem ln_52 : wF.2.2 52 = 8 := by decide +kernel
theorem ln_53 : wF.2.2 53 = 8 := by decide +kernel
theorem ln_55 : wF.2.2 55 = 11 := by decide +kernel
theorem ln_57 : wF.2.2 57 = 8 := by decide +kernel
theorem ln_58 : wF.2.2 58 = 8 := by decide +kernel
theorem ln_60 : wF.2.2 60 = 11 := by decide +kernel
theorem ln_62 : wF.2.2 62 = 8 := by decide +kernel
theorem ln_63 : wF.2.2 63 = 8 := by decide +kernel
theorem ln_65 : wF.2.2 65 = 11 := by decide +kernel
theorem ln_67 : wF.2.2 67 = 8 := by decide +kernel
theorem ln_68 : wF.2.2 68 = 8 := by decide +kernel
theorem ln_70 : wF.2.2 70 = 11 := by decide +kernel
theorem ln_72 : wF.2.2 72 = 8 := by decide +kernel
theorem ln_73 : wF.2.2 73 = 8 := by decide +kernel
theorem ln_75 : wF.2.2 75 = 8 := by decide +kernel
theorem ln_77 : wF.2.2 77 = 128 := by decide +kernel
theorem ln_78 : wF.2.2 78 = 128 := by decide +kernel
theorem ln_79 : wF.2.2 79 = 50 := by decide +kernel
theorem ln_80 : wF.2.2 80 = 3 := by decide +kernel
theorem ln_81 : wF.2.2 81 = 4 := by decide +kernel
theorem ln_82 : wF.2.2 82 = 4 := by decide +kernel
theorem ln_83 : wF.2.2 83 = 4 := by decide +kernel
theorem ln_84 : wF.2.2 84 = 4 := by decide +kernel
theorem ln_85 : wF.2.2 85 = 10 := by decide +kernel
theorem ln_86 : wF.2.2 86 = 6 := by decide +kernel
theorem ln_87 : wF.2.2 87 = 704 := by decide +kernel
theorem ln_88 : wF.2.2 88 = 11 := by decide +kernel
theorem ln_89 : wF.2.2 89 = 704 := by decide +kernel
theorem ln_90 : wF.2.2 90 = 11 := by decide +kernel
theorem ln_91 : wF.2.2 91 = 25 := by decide +kernel
theorem ln_92 : wF.2.2 92 = 25 := by decide +kernel
theorem ln_93 : wF.2.2 93 = 8 := by decide +kernel
theorem ln_94 : wF.2.2 94 = 8 := by decide +kernel
theorem ln_95 : wF.2.2 95 = 8 := by decide +kernel
theorem ln_96 : wF.2.2 96 = 8 := by decide +kernel
theorem ln_97 : wF.2.2 97 = 88 := by decide +kernel
theorem ln_98 : wF.2.2 98 = 8 := by decide +kernel
theorem rd_letE {α β : Type} (x : α) (f : α → β) : rd_let x f = f x := rfl
theorem rd_cS {α γ : Type} (x : α) (f : α → Option γ) : rd_c (some x) f = f x := rfl
theorem rd_bS {α β γ : Type} (x : α) (y : β) (f : α → β → Option γ) : rd_b (some (x, y)) f = f x y := rfl
theorem rd_mS {γ : Type} (x : Nat) (E : Option γ) (f : Nat → Option γ) : rd_m (some x) E f = f x := rfl
theorem rd_mN {γ : Type} (E : Option γ) (f : Nat → Option γ) : rd_m none E f = E := rfl
theorem rd_iT {γ : Type} {i : Int32} {n : Nat} (E : Option γ) (h : rd_in i n) : rd_i i n E = E := if_pos h
theorem rd_iN {γ : Type} {k n : Nat} (E : Option γ) (h : k < n) (hn : n < 2 ^ 31) : rd_i (nI k) n E = E := if_pos (nI_in h hn)
theorem rd_zT {γ : Type} {x : Int32} (E : Option γ) (h : x = 0 ∨ x = 1) : rd_z x E = E := if_pos h
theorem rd_dT {γ : Type} {x : Int32} (E : Option γ) (h : ¬ x = 0) : rd_d x E = E := if_neg h
theorem gI_pI (S : rd_S) (a j : Nat) (v : Int32) (b k : Nat) : gI (pI S a j v) b k = if b = a then (if k = j then v else gI S b k) else gI S b k := by
  by_cases h : b = a
  · subst h; simp [gI, pI, pA, va_up, upd]
  · simp [gI, pI, pA, va_up, h]
theorem gR_pI (S : rd_S) (a j : Nat) (v : Int32) (b k : Nat) : gR (pI S a j v) b k = gR S b k := rfl
theorem gI_pA (S : rd_S) (a : Nat) (f : Nat → Int32) (b k : Nat) : gI (pA S a f) b k = if b = a then f k else gI S b k := by
  by_cases h : b = a
  · subst h; simp [gI, pA, va_up]
  · simp [gI, pA, va_up, h]
theorem gR_pA (S : rd_S) (a : Nat) (f : Nat → Int32) (b k : Nat) : gR (pA S a f) b k = gR S b k := rfl
theorem Sh.pI {S : rd_S} (h : Sh S) (a j : Nat) (v : Int32) : Sh (pI S a j v) := h
theorem Sh.pA {S : rd_S} (h : Sh S) (a : Nat) (f : Nat → Int32) : Sh (pA S a f) := h
