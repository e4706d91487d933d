theorem c0_0 : x_cd 0 0 = b0_0 := rfl
theorem l0 : (x_xm 0).mL = 2 := rfl
theorem c1_0 : x_cd 1 0 = b1_0 := rfl
theorem l1 : (x_xm 1).mL = 2 := rfl
theorem c2_0 : x_cd 2 0 = b2_0 := rfl
theorem l2 : (x_xm 2).mL = 2 := rfl
theorem c3_0 : x_cd 3 0 = b3_0 := rfl
theorem l3 : (x_xm 3).mL = 2 := rfl
theorem c4_0 : x_cd 4 0 = b4_0 := rfl
theorem c4_15 : x_cd 4 15 = b4_15 := rfl
theorem c4_16 : x_cd 4 16 = b4_16 := rfl
theorem l4 : (x_xm 4).mL = 2 := rfl
theorem c5_0 : x_cd 5 0 = b5_0 := rfl
theorem c5_21 : x_cd 5 21 = b5_21 := rfl
theorem c5_22 : x_cd 5 22 = b5_22 := rfl
theorem l5 : (x_xm 5).mL = 1 := rfl
theorem c6_0 : x_cd 6 0 = b6_0 := rfl
theorem c6_11 : x_cd 6 11 = b6_11 := rfl
theorem c6_18 : x_cd 6 18 = b6_18 := rfl
theorem l6 : (x_xm 6).mL = 1 := rfl
theorem c7_0 : x_cd 7 0 = b7_0 := rfl
theorem c7_11 : x_cd 7 11 = b7_11 := rfl
theorem c7_18 : x_cd 7 18 = b7_18 := rfl
theorem l7 : (x_xm 7).mL = 1 := rfl
theorem c8_0 : x_cd 8 0 = b8_0 := rfl
theorem l8 : (x_xm 8).mL = 3 := rfl
theorem c9_0 : x_cd 9 0 = b9_0 := rfl
theorem l9 : (x_xm 9).mL = 1 := rfl
theorem c10_0 : x_cd 10 0 = b10_0 := rfl
theorem l10 : (x_xm 10).mL = 1 := rfl
theorem c11_0 : x_cd 11 0 = b11_0 := rfl
theorem c11_18 : x_cd 11 18 = b11_18 := rfl
theorem c11_19 : x_cd 11 19 = b11_19 := rfl
theorem l11 : (x_xm 11).mL = 1 := rfl
theorem c12_0 : x_cd 12 0 = b12_0 := rfl
theorem c12_17 : x_cd 12 17 = b12_17 := rfl
theorem c12_18 : x_cd 12 18 = b12_18 := rfl
theorem l12 : (x_xm 12).mL = 2 := rfl
theorem c13_0 : x_cd 13 0 = b13_0 := rfl
theorem c13_71 : x_cd 13 71 = b13_71 := rfl
theorem c13_98 : x_cd 13 98 = b13_98 := rfl
theorem c13_100 : x_cd 13 100 = b13_100 := rfl
theorem c13_126 : x_cd 13 126 = b13_126 := rfl
theorem l13 : (x_xm 13).mL = 3 := rfl
theorem c14_0 : x_cd 14 0 = b14_0 := rfl
theorem l14 : (x_xm 14).mL = 2 := rfl
theorem c15_0 : x_cd 15 0 = b15_0 := rfl
theorem c15_2 : x_cd 15 2 = b15_2 := rfl
theorem c15_30 : x_cd 15 30 = b15_30 := rfl
theorem c15_36 : x_cd 15 36 = b15_36 := rfl
theorem l15 : (x_xm 15).mL = 3 := rfl
theorem c16_0 : x_cd 16 0 = b16_0 := rfl
theorem c16_2 : x_cd 16 2 = b16_2 := rfl
theorem c16_18 : x_cd 16 18 = b16_18 := rfl
theorem c16_26 : x_cd 16 26 = b16_26 := rfl
theorem l16 : (x_xm 16).mL = 3 := rfl
theorem c17_0 : x_cd 17 0 = b17_0 := rfl
theorem c17_2 : x_cd 17 2 = b17_2 := rfl
theorem c17_33 : x_cd 17 33 = b17_33 := rfl
theorem c17_39 : x_cd 17 39 = b17_39 := rfl
theorem l17 : (x_xm 17).mL = 3 := rfl
theorem c18_0 : x_cd 18 0 = b18_0 := rfl
theorem c18_2 : x_cd 18 2 = b18_2 := rfl
theorem c18_28 : x_cd 18 28 = b18_28 := rfl
theorem c18_34 : x_cd 18 34 = b18_34 := rfl
theorem l18 : (x_xm 18).mL = 3 := rfl
theorem c19_0 : x_cd 19 0 = b19_0 := rfl
theorem c19_29 : x_cd 19 29 = b19_29 := rfl
theorem c19_30 : x_cd 19 30 = b19_30 := rfl
theorem l19 : (x_xm 19).mL = 2 := rfl
theorem c20_0 : x_cd 20 0 = b20_0 := rfl
theorem c20_29 : x_cd 20 29 = b20_29 := rfl
theorem l20 : (x_xm 20).mL = 2 := rfl
theorem c21_0 : x_cd 21 0 = b21_0 := rfl
theorem c21_2 : x_cd 21 2 = b21_2 := rfl
theorem c21_22 : x_cd 21 22 = b21_22 := rfl
theorem c21_28 : x_cd 21 28 = b21_28 := rfl
theorem l21 : (x_xm 21).mL = 3 := rfl
theorem c22_0 : x_cd 22 0 = b22_0 := rfl
theorem c22_2 : x_cd 22 2 = b22_2 := rfl
theorem c22_22 : x_cd 22 22 = b22_22 := rfl
theorem c22_28 : x_cd 22 28 = b22_28 := rfl
theorem l22 : (x_xm 22).mL = 3 := rfl
theorem c23_0 : x_cd 23 0 = b23_0 := rfl
theorem c23_21 : x_cd 23 21 = b23_21 := rfl
theorem c23_22 : x_cd 23 22 = b23_22 := rfl
theorem l23 : (x_xm 23).mL = 2 := rfl
theorem c24_0 : x_cd 24 0 = b24_0 := rfl
theorem l24 : (x_xm 24).mL = 1 := rfl
theorem c25_0 : x_cd 25 0 = b25_0 := rfl
theorem c25_14 : x_cd 25 14 = b25_14 := rfl
theorem c25_15 : x_cd 25 15 = b25_15 := rfl
theorem l25 : (x_xm 25).mL = 3 := rfl
theorem c26_0 : x_cd 26 0 = b26_0 := rfl
theorem l26 : (x_xm 26).mL = 1 := rfl
theorem c27_0 : x_cd 27 0 = b27_0 := rfl
theorem c27_2 : x_cd 27 2 = b27_2 := rfl
theorem c27_41 : x_cd 27 41 = b27_41 := rfl
theorem c27_47 : x_cd 27 47 = b27_47 := rfl
theorem l27 : (x_xm 27).mL = 5 := rfl
theorem c28_0 : x_cd 28 0 = b28_0 := rfl
theorem c28_2 : x_cd 28 2 = b28_2 := rfl
theorem c28_33 : x_cd 28 33 = b28_33 := rfl
theorem c28_39 : x_cd 28 39 = b28_39 := rfl
theorem l28 : (x_xm 28).mL = 3 := rfl
theorem c29_0 : x_cd 29 0 = b29_0 := rfl
theorem c29_2 : x_cd 29 2 = b29_2 := rfl
theorem c29_18 : x_cd 29 18 = b29_18 := rfl
theorem c29_24 : x_cd 29 24 = b29_24 := rfl
theorem l29 : (x_xm 29).mL = 4 := rfl
theorem c30_0 : x_cd 30 0 = b30_0 := rfl
theorem c30_5 : x_cd 30 5 = b30_5 := rfl
theorem c30_24 : x_cd 30 24 = b30_24 := rfl
theorem c30_30 : x_cd 30 30 = b30_30 := rfl
theorem l30 : (x_xm 30).mL = 5 := rfl
theorem c31_0 : x_cd 31 0 = b31_0 := rfl
theorem c31_3 : x_cd 31 3 = b31_3 := rfl
theorem c31_44 : x_cd 31 44 = b31_44 := rfl
theorem c31_50 : x_cd 31 50 = b31_50 := rfl
theorem l31 : (x_xm 31).mL = 6 := rfl
theorem c32_0 : x_cd 32 0 = b32_0 := rfl
theorem l32 : (x_xm 32).mL = 3 := rfl
theorem c33_0 : x_cd 33 0 = b33_0 := rfl
theorem c33_33 : x_cd 33 33 = b33_33 := rfl
theorem c33_34 : x_cd 33 34 = b33_34 := rfl
theorem l33 : (x_xm 33).mL = 2 := rfl
theorem c34_0 : x_cd 34 0 = b34_0 := rfl
theorem c34_4 : x_cd 34 4 = b34_4 := rfl
theorem c34_21 : x_cd 34 21 = b34_21 := rfl
theorem l34 : (x_xm 34).mL = 3 := rfl
theorem c35_0 : x_cd 35 0 = b35_0 := rfl
theorem l35 : (x_xm 35).mL = 2 := rfl
theorem c36_0 : x_cd 36 0 = b36_0 := rfl
theorem c36_8 : x_cd 36 8 = b36_8 := rfl
theorem c36_24 : x_cd 36 24 = b36_24 := rfl
theorem l36 : (x_xm 36).mL = 4 := rfl
theorem c37_0 : x_cd 37 0 = b37_0 := rfl
theorem c37_32 : x_cd 37 32 = b37_32 := rfl
theorem l37 : (x_xm 37).mL = 2 := rfl
theorem c38_0 : x_cd 38 0 = b38_0 := rfl
theorem c38_4 : x_cd 38 4 = b38_4 := rfl
theorem c38_37 : x_cd 38 37 = b38_37 := rfl
theorem c38_43 : x_cd 38 43 = b38_43 := rfl
theorem l38 : (x_xm 38).mL = 4 := rfl
theorem c39_0 : x_cd 39 0 = b39_0 := rfl
theorem l39 : (x_xm 39).mL = 1 := rfl
theorem c40_0 : x_cd 40 0 = b40_0 := rfl
theorem l40 : (x_xm 40).mL = 3 := rfl
theorem c41_0 : x_cd 41 0 = b41_0 := rfl
theorem c41_18 : x_cd 41 18 = b41_18 := rfl
theorem c41_19 : x_cd 41 19 = b41_19 := rfl
theorem l41 : (x_xm 41).mL = 1 := rfl
theorem c42_0 : x_cd 42 0 = b42_0 := rfl
theorem c42_16 : x_cd 42 16 = b42_16 := rfl
theorem c42_20 : x_cd 42 20 = b42_20 := rfl
theorem c42_21 : x_cd 42 21 = b42_21 := rfl
theorem l42 : (x_xm 42).mL = 2 := rfl
theorem c43_0 : x_cd 43 0 = b43_0 := rfl
theorem c43_42 : x_cd 43 42 = b43_42 := rfl
theorem c43_63 : x_cd 43 63 = b43_63 := rfl
theorem c43_104 : x_cd 43 104 = b43_104 := rfl
theorem c43_110 : x_cd 43 110 = b43_110 := rfl
theorem l43 : (x_xm 43).mL = 3 := rfl
theorem c44_0 : x_cd 44 0 = b44_0 := rfl
theorem l44 : (x_xm 44).mL = 1 := rfl
theorem c45_0 : x_cd 45 0 = b45_0 := rfl
theorem c45_12 : x_cd 45 12 = b45_12 := rfl
theorem l45 : (x_xm 45).mL = 1 := rfl
theorem c46_0 : x_cd 46 0 = b46_0 := rfl
theorem c46_12 : x_cd 46 12 = b46_12 := rfl
theorem l46 : (x_xm 46).mL = 1 := rfl
theorem c47_0 : x_cd 47 0 = b47_0 := rfl
theorem c47_23 : x_cd 47 23 = b47_23 := rfl
theorem c47_24 : x_cd 47 24 = b47_24 := rfl
theorem c47_40 : x_cd 47 40 = b47_40 := rfl
theorem c47_41 : x_cd 47 41 = b47_41 := rfl
theorem l47 : (x_xm 47).mL = 3 := rfl
theorem c48_0 : x_cd 48 0 = b48_0 := rfl
theorem c48_36 : x_cd 48 36 = b48_36 := rfl
theorem c48_40 : x_cd 48 40 = b48_40 := rfl
theorem c48_41 : x_cd 48 41 = b48_41 := rfl
theorem l48 : (x_xm 48).mL = 1 := rfl
theorem c49_0 : x_cd 49 0 = b49_0 := rfl
theorem c49_25 : x_cd 49 25 = b49_25 := rfl
theorem c49_26 : x_cd 49 26 = b49_26 := rfl
theorem c49_56 : x_cd 49 56 = b49_56 := rfl
theorem c49_57 : x_cd 49 57 = b49_57 := rfl
theorem c49_104 : x_cd 49 104 = b49_104 := rfl
theorem c49_105 : x_cd 49 105 = b49_105 := rfl
theorem c49_120 : x_cd 49 120 = b49_120 := rfl
theorem c49_138 : x_cd 49 138 = b49_138 := rfl
theorem c49_139 : x_cd 49 139 = b49_139 := rfl
theorem c49_142 : x_cd 49 142 = b49_142 := rfl
theorem c49_159 : x_cd 49 159 = b49_159 := rfl
theorem l49 : (x_xm 49).mL = 8 := rfl
theorem c50_0 : x_cd 50 0 = b50_0 := rfl
theorem c50_27 : x_cd 50 27 = b50_27 := rfl
theorem c50_28 : x_cd 50 28 = b50_28 := rfl
theorem c50_71 : x_cd 50 71 = b50_71 := rfl
theorem c50_72 : x_cd 50 72 = b50_72 := rfl
theorem l50 : (x_xm 50).mL = 5 := rfl
theorem c51_0 : x_cd 51 0 = b51_0 := rfl
theorem c51_18 : x_cd 51 18 = b51_18 := rfl
theorem c51_19 : x_cd 51 19 = b51_19 := rfl
theorem l51 : (x_xm 51).mL = 3 := rfl
theorem c52_0 : x_cd 52 0 = b52_0 := rfl
theorem c52_49 : x_cd 52 49 = b52_49 := rfl
theorem c52_78 : x_cd 52 78 = b52_78 := rfl
theorem l52 : (x_xm 52).mL = 5 := rfl
theorem c53_0 : x_cd 53 0 = b53_0 := rfl
theorem l53 : (x_xm 53).mL = 3 := rfl
theorem c54_0 : x_cd 54 0 = b54_0 := rfl
theorem l54 : (x_xm 54).mL = 5 := rfl
theorem c55_0 : x_cd 55 0 = b55_0 := rfl
theorem c55_24 : x_cd 55 24 = b55_24 := rfl
theorem c55_38 : x_cd 55 38 = b55_38 := rfl
theorem c55_45 : x_cd 55 45 = b55_45 := rfl
theorem l55 : (x_xm 55).mL = 4 := rfl
theorem c56_0 : x_cd 56 0 = b56_0 := rfl
theorem l56 : (x_xm 56).mL = 2 := rfl
theorem c57_0 : x_cd 57 0 = b57_0 := rfl
theorem c57_30 : x_cd 57 30 = b57_30 := rfl
theorem l57 : (x_xm 57).mL = 2 := rfl
theorem c58_0 : x_cd 58 0 = b58_0 := rfl
theorem c58_18 : x_cd 58 18 = b58_18 := rfl
theorem c58_19 : x_cd 58 19 = b58_19 := rfl
theorem c58_52 : x_cd 58 52 = b58_52 := rfl
theorem c58_67 : x_cd 58 67 = b58_67 := rfl
theorem l58 : (x_xm 58).mL = 5 := rfl
theorem c59_0 : x_cd 59 0 = b59_0 := rfl
theorem c59_2 : x_cd 59 2 = b59_2 := rfl
theorem c59_32 : x_cd 59 32 = b59_32 := rfl
theorem c59_84 : x_cd 59 84 = b59_84 := rfl
theorem l59 : (x_xm 59).mL = 4 := rfl
theorem c60_0 : x_cd 60 0 = b60_0 := rfl
theorem c60_51 : x_cd 60 51 = b60_51 := rfl
theorem c60_69 : x_cd 60 69 = b60_69 := rfl
theorem c60_84 : x_cd 60 84 = b60_84 := rfl
theorem l60 : (x_xm 60).mL = 5 := rfl
theorem c61_0 : x_cd 61 0 = b61_0 := rfl
theorem l61 : (x_xm 61).mL = 3 := rfl
theorem c62_0 : x_cd 62 0 = b62_0 := rfl
theorem c62_61 : x_cd 62 61 = b62_61 := rfl
theorem c62_86 : x_cd 62 86 = b62_86 := rfl
theorem l62 : (x_xm 62).mL = 5 := rfl
theorem c63_0 : x_cd 63 0 = b63_0 := rfl
theorem c63_49 : x_cd 63 49 = b63_49 := rfl
theorem c63_51 : x_cd 63 51 = b63_51 := rfl
theorem l63 : (x_xm 63).mL = 6 := rfl
theorem c64_0 : x_cd 64 0 = b64_0 := rfl
theorem c64_7 : x_cd 64 7 = b64_7 := rfl
theorem l64 : (x_xm 64).mL = 4 := rfl
theorem c65_0 : x_cd 65 0 = b65_0 := rfl
theorem c65_18 : x_cd 65 18 = b65_18 := rfl
theorem c65_21 : x_cd 65 21 = b65_21 := rfl
theorem c65_50 : x_cd 65 50 = b65_50 := rfl
theorem c65_58 : x_cd 65 58 = b65_58 := rfl
theorem c65_99 : x_cd 65 99 = b65_99 := rfl
theorem c65_105 : x_cd 65 105 = b65_105 := rfl
theorem l65 : (x_xm 65).mL = 8 := rfl
theorem c66_0 : x_cd 66 0 = b66_0 := rfl
theorem l66 : (x_xm 66).mL = 3 := rfl
theorem c67_0 : x_cd 67 0 = b67_0 := rfl
theorem c67_14 : x_cd 67 14 = b67_14 := rfl
theorem c67_41 : x_cd 67 41 = b67_41 := rfl
theorem c67_66 : x_cd 67 66 = b67_66 := rfl
theorem c67_80 : x_cd 67 80 = b67_80 := rfl
theorem c67_94 : x_cd 67 94 = b67_94 := rfl
theorem l67 : (x_xm 67).mL = 6 := rfl
theorem c68_0 : x_cd 68 0 = b68_0 := rfl
theorem c68_2 : x_cd 68 2 = b68_2 := rfl
theorem c68_50 : x_cd 68 50 = b68_50 := rfl
theorem c68_56 : x_cd 68 56 = b68_56 := rfl
theorem l68 : (x_xm 68).mL = 4 := rfl
theorem c69_0 : x_cd 69 0 = b69_0 := rfl
theorem c69_40 : x_cd 69 40 = b69_40 := rfl
theorem c69_58 : x_cd 69 58 = b69_58 := rfl
theorem c69_93 : x_cd 69 93 = b69_93 := rfl
theorem l69 : (x_xm 69).mL = 6 := rfl
theorem c70_0 : x_cd 70 0 = b70_0 := rfl
theorem c70_3 : x_cd 70 3 = b70_3 := rfl
theorem c70_78 : x_cd 70 78 = b70_78 := rfl
theorem c70_84 : x_cd 70 84 = b70_84 := rfl
theorem l70 : (x_xm 70).mL = 6 := rfl
theorem c71_0 : x_cd 71 0 = b71_0 := rfl
theorem c71_22 : x_cd 71 22 = b71_22 := rfl
theorem c71_23 : x_cd 71 23 = b71_23 := rfl
theorem c71_66 : x_cd 71 66 = b71_66 := rfl
theorem c71_75 : x_cd 71 75 = b71_75 := rfl
theorem c71_101 : x_cd 71 101 = b71_101 := rfl
theorem c71_109 : x_cd 71 109 = b71_109 := rfl
theorem l71 : (x_xm 71).mL = 5 := rfl
theorem c72_0 : x_cd 72 0 = b72_0 := rfl
theorem c72_48 : x_cd 72 48 = b72_48 := rfl
theorem l72 : (x_xm 72).mL = 2 := rfl
theorem c73_0 : x_cd 73 0 = b73_0 := rfl
theorem c73_2 : x_cd 73 2 = b73_2 := rfl
theorem c73_10 : x_cd 73 10 = b73_10 := rfl
theorem c73_64 : x_cd 73 64 = b73_64 := rfl
theorem c73_70 : x_cd 73 70 = b73_70 := rfl
theorem c73_76 : x_cd 73 76 = b73_76 := rfl
theorem l73 : (x_xm 73).mL = 4 := rfl
theorem c74_0 : x_cd 74 0 = b74_0 := rfl
theorem c74_25 : x_cd 74 25 = b74_25 := rfl
theorem l74 : (x_xm 74).mL = 2 := rfl
theorem c75_0 : x_cd 75 0 = b75_0 := rfl
theorem c75_39 : x_cd 75 39 = b75_39 := rfl
theorem c75_42 : x_cd 75 42 = b75_42 := rfl
theorem c75_74 : x_cd 75 74 = b75_74 := rfl
theorem l75 : (x_xm 75).mL = 3 := rfl
theorem c76_0 : x_cd 76 0 = b76_0 := rfl
theorem c76_2 : x_cd 76 2 = b76_2 := rfl
theorem c76_36 : x_cd 76 36 = b76_36 := rfl
theorem c76_51 : x_cd 76 51 = b76_51 := rfl
theorem c76_57 : x_cd 76 57 = b76_57 := rfl
theorem l76 : (x_xm 76).mL = 3 := rfl
theorem c77_0 : x_cd 77 0 = b77_0 := rfl
theorem c77_2 : x_cd 77 2 = b77_2 := rfl
theorem c77_17 : x_cd 77 17 = b77_17 := rfl
theorem c77_72 : x_cd 77 72 = b77_72 := rfl
theorem c77_78 : x_cd 77 78 = b77_78 := rfl
theorem c77_84 : x_cd 77 84 = b77_84 := rfl
theorem l77 : (x_xm 77).mL = 5 := rfl
theorem c78_0 : x_cd 78 0 = b78_0 := rfl
theorem c78_12 : x_cd 78 12 = b78_12 := rfl
theorem c78_19 : x_cd 78 19 = b78_19 := rfl
theorem c78_40 : x_cd 78 40 = b78_40 := rfl
theorem c78_58 : x_cd 78 58 = b78_58 := rfl
theorem l78 : (x_xm 78).mL = 4 := rfl
theorem c79_0 : x_cd 79 0 = b79_0 := rfl
theorem c79_52 : x_cd 79 52 = b79_52 := rfl
theorem l79 : (x_xm 79).mL = 5 := rfl
theorem c80_0 : x_cd 80 0 = b80_0 := rfl
theorem c80_41 : x_cd 80 41 = b80_41 := rfl
theorem c80_43 : x_cd 80 43 = b80_43 := rfl
theorem c80_71 : x_cd 80 71 = b80_71 := rfl
theorem l80 : (x_xm 80).mL = 6 := rfl
theorem c81_0 : x_cd 81 0 = b81_0 := rfl
theorem l81 : (x_xm 81).mL = 3 := rfl
theorem c82_0 : x_cd 82 0 = b82_0 := rfl
theorem c82_42 : x_cd 82 42 = b82_42 := rfl
theorem c82_43 : x_cd 82 43 = b82_43 := rfl
theorem l82 : (x_xm 82).mL = 5 := rfl
theorem c83_0 : x_cd 83 0 = b83_0 := rfl
theorem c83_48 : x_cd 83 48 = b83_48 := rfl
theorem c83_50 : x_cd 83 50 = b83_50 := rfl
theorem c83_70 : x_cd 83 70 = b83_70 := rfl
theorem c83_78 : x_cd 83 78 = b83_78 := rfl
theorem l83 : (x_xm 83).mL = 5 := rfl
theorem c84_0 : x_cd 84 0 = b84_0 := rfl
theorem l84 : (x_xm 84).mL = 3 := rfl
theorem c85_0 : x_cd 85 0 = b85_0 := rfl
theorem c85_16 : x_cd 85 16 = b85_16 := rfl
theorem c85_17 : x_cd 85 17 = b85_17 := rfl
theorem c85_54 : x_cd 85 54 = b85_54 := rfl
theorem c85_55 : x_cd 85 55 = b85_55 := rfl
theorem l85 : (x_xm 85).mL = 6 := rfl
theorem c86_0 : x_cd 86 0 = b86_0 := rfl
theorem c86_4 : x_cd 86 4 = b86_4 := rfl
theorem c86_40 : x_cd 86 40 = b86_40 := rfl
theorem c86_46 : x_cd 86 46 = b86_46 := rfl
theorem l86 : (x_xm 86).mL = 4 := rfl
theorem c87_0 : x_cd 87 0 = b87_0 := rfl
theorem c87_52 : x_cd 87 52 = b87_52 := rfl
theorem c87_61 : x_cd 87 61 = b87_61 := rfl
theorem c87_69 : x_cd 87 69 = b87_69 := rfl
theorem c87_78 : x_cd 87 78 = b87_78 := rfl
theorem c87_84 : x_cd 87 84 = b87_84 := rfl
theorem c87_92 : x_cd 87 92 = b87_92 := rfl
theorem c87_100 : x_cd 87 100 = b87_100 := rfl
theorem l87 : (x_xm 87).mL = 4 := rfl
theorem c88_0 : x_cd 88 0 = b88_0 := rfl
theorem c88_18 : x_cd 88 18 = b88_18 := rfl
theorem c88_19 : x_cd 88 19 = b88_19 := rfl
theorem l88 : (x_xm 88).mL = 3 := rfl
theorem c89_0 : x_cd 89 0 = b89_0 := rfl
theorem c89_350 : x_cd 89 350 = b89_350 := rfl
theorem c89_383 : x_cd 89 383 = b89_383 := rfl
theorem c89_385 : x_cd 89 385 = b89_385 := rfl
theorem c89_404 : x_cd 89 404 = b89_404 := rfl
theorem c89_406 : x_cd 89 406 = b89_406 := rfl
theorem c89_425 : x_cd 89 425 = b89_425 := rfl
theorem c89_427 : x_cd 89 427 = b89_427 := rfl
theorem c89_446 : x_cd 89 446 = b89_446 := rfl
theorem c89_448 : x_cd 89 448 = b89_448 := rfl
theorem c89_467 : x_cd 89 467 = b89_467 := rfl
theorem l89 : (x_xm 89).mL = 2 := rfl
theorem c90_0 : x_cd 90 0 = b90_0 := rfl
theorem l90 : (x_xm 90).mL = 1 := rfl
theorem c91_0 : x_cd 91 0 = b91_0 := rfl
theorem c91_13 : x_cd 91 13 = b91_13 := rfl
theorem c91_14 : x_cd 91 14 = b91_14 := rfl
theorem l91 : (x_xm 91).mL = 2 := rfl
theorem c92_0 : x_cd 92 0 = b92_0 := rfl
theorem c92_14 : x_cd 92 14 = b92_14 := rfl
theorem c92_15 : x_cd 92 15 = b92_15 := rfl
theorem l92 : (x_xm 92).mL = 3 := rfl
theorem c93_0 : x_cd 93 0 = b93_0 := rfl
theorem c93_23 : x_cd 93 23 = b93_23 := rfl
theorem c93_24 : x_cd 93 24 = b93_24 := rfl
theorem l93 : (x_xm 93).mL = 2 := rfl
theorem c94_0 : x_cd 94 0 = b94_0 := rfl
theorem c94_24 : x_cd 94 24 = b94_24 := rfl
theorem c94_28 : x_cd 94 28 = b94_28 := rfl
theorem c94_41 : x_cd 94 41 = b94_41 := rfl
theorem c94_42 : x_cd 94 42 = b94_42 := rfl
theorem c94_50 : x_cd 94 50 = b94_50 := rfl
theorem l94 : (x_xm 94).mL = 3 := rfl
theorem c95_0 : x_cd 95 0 = b95_0 := rfl
theorem c95_11 : x_cd 95 11 = b95_11 := rfl
theorem c95_21 : x_cd 95 21 = b95_21 := rfl
theorem c95_22 : x_cd 95 22 = b95_22 := rfl
theorem l95 : (x_xm 95).mL = 1 := rfl
theorem c96_0 : x_cd 96 0 = b96_0 := rfl
theorem c96_4 : x_cd 96 4 = b96_4 := rfl
theorem c96_23 : x_cd 96 23 = b96_23 := rfl
theorem c96_42 : x_cd 96 42 = b96_42 := rfl
theorem c96_51 : x_cd 96 51 = b96_51 := rfl
theorem c96_52 : x_cd 96 52 = b96_52 := rfl
theorem l96 : (x_xm 96).mL = 4 := rfl
theorem c97_0 : x_cd 97 0 = b97_0 := rfl
theorem c97_36 : x_cd 97 36 = b97_36 := rfl
theorem c97_40 : x_cd 97 40 = b97_40 := rfl
theorem c97_41 : x_cd 97 41 = b97_41 := rfl
theorem c97_93 : x_cd 97 93 = b97_93 := rfl
theorem c97_94 : x_cd 97 94 = b97_94 := rfl
theorem c97_106 : x_cd 97 106 = b97_106 := rfl
theorem c97_107 : x_cd 97 107 = b97_107 := rfl
theorem c97_115 : x_cd 97 115 = b97_115 := rfl
theorem c97_127 : x_cd 97 127 = b97_127 := rfl
theorem c97_159 : x_cd 97 159 = b97_159 := rfl
theorem c97_161 : x_cd 97 161 = b97_161 := rfl
theorem c97_193 : x_cd 97 193 = b97_193 := rfl
theorem c97_197 : x_cd 97 197 = b97_197 := rfl
theorem c97_198 : x_cd 97 198 = b97_198 := rfl
theorem c97_206 : x_cd 97 206 = b97_206 := rfl
theorem c97_227 : x_cd 97 227 = b97_227 := rfl
theorem c97_231 : x_cd 97 231 = b97_231 := rfl
theorem c97_232 : x_cd 97 232 = b97_232 := rfl
theorem c97_270 : x_cd 97 270 = b97_270 := rfl
theorem c97_274 : x_cd 97 274 = b97_274 := rfl
theorem c97_275 : x_cd 97 275 = b97_275 := rfl
theorem c97_280 : x_cd 97 280 = b97_280 := rfl
theorem c97_313 : x_cd 97 313 = b97_313 := rfl
theorem c97_317 : x_cd 97 317 = b97_317 := rfl
theorem c97_318 : x_cd 97 318 = b97_318 := rfl
theorem c97_326 : x_cd 97 326 = b97_326 := rfl
theorem c97_336 : x_cd 97 336 = b97_336 := rfl
theorem c97_337 : x_cd 97 337 = b97_337 := rfl
theorem c97_345 : x_cd 97 345 = b97_345 := rfl
theorem c97_396 : x_cd 97 396 = b97_396 := rfl
theorem c97_397 : x_cd 97 397 = b97_397 := rfl
theorem c97_406 : x_cd 97 406 = b97_406 := rfl
theorem c97_458 : x_cd 97 458 = b97_458 := rfl
theorem l97 : (x_xm 97).mL = 12 := rfl
theorem c98_0 : x_cd 98 0 = b98_0 := rfl
theorem c98_22 : x_cd 98 22 = b98_22 := rfl
theorem c98_23 : x_cd 98 23 = b98_23 := rfl
theorem c98_31 : x_cd 98 31 = b98_31 := rfl
theorem c98_39 : x_cd 98 39 = b98_39 := rfl
theorem c98_52 : x_cd 98 52 = b98_52 := rfl
theorem c98_86 : x_cd 98 86 = b98_86 := rfl
theorem c98_90 : x_cd 98 90 = b98_90 := rfl
theorem c98_91 : x_cd 98 91 = b98_91 := rfl
theorem c98_99 : x_cd 98 99 = b98_99 := rfl
theorem c98_105 : x_cd 98 105 = b98_105 := rfl
theorem c98_130 : x_cd 98 130 = b98_130 := rfl
theorem c98_134 : x_cd 98 134 = b98_134 := rfl
theorem c98_135 : x_cd 98 135 = b98_135 := rfl
theorem c98_143 : x_cd 98 143 = b98_143 := rfl
theorem l98 : (x_xm 98).mL = 7 := rfl
theorem c99_0 : x_cd 99 0 = b99_0 := rfl
theorem c99_19 : x_cd 99 19 = b99_19 := rfl
theorem c99_57 : x_cd 99 57 = b99_57 := rfl
theorem c99_82 : x_cd 99 82 = b99_82 := rfl
theorem c99_95 : x_cd 99 95 = b99_95 := rfl
theorem l99 : (x_xm 99).mL = 5 := rfl
theorem c100_0 : x_cd 100 0 = b100_0 := rfl
theorem l100 : (x_xm 100).mL = 3 := rfl
theorem c101_0 : x_cd 101 0 = b101_0 := rfl
theorem c101_11 : x_cd 101 11 = b101_11 := rfl
theorem c101_64 : x_cd 101 64 = b101_64 := rfl
theorem c101_70 : x_cd 101 70 = b101_70 := rfl
theorem l101 : (x_xm 101).mL = 5 := rfl
theorem c102_0 : x_cd 102 0 = b102_0 := rfl
theorem c102_2 : x_cd 102 2 = b102_2 := rfl
theorem c102_12 : x_cd 102 12 = b102_12 := rfl
theorem c102_65 : x_cd 102 65 = b102_65 := rfl
theorem c102_71 : x_cd 102 71 = b102_71 := rfl
theorem c102_84 : x_cd 102 84 = b102_84 := rfl
theorem l102 : (x_xm 102).mL = 5 := rfl
theorem c103_0 : x_cd 103 0 = b103_0 := rfl
theorem l103 : (x_xm 103).mL = 3 := rfl
theorem c104_0 : x_cd 104 0 = b104_0 := rfl
theorem c104_35 : x_cd 104 35 = b104_35 := rfl
theorem c104_68 : x_cd 104 68 = b104_68 := rfl
theorem l104 : (x_xm 104).mL = 2 := rfl
theorem c105_0 : x_cd 105 0 = b105_0 := rfl
theorem l105 : (x_xm 105).mL = 3 := rfl
theorem c106_0 : x_cd 106 0 = b106_0 := rfl
theorem c106_35 : x_cd 106 35 = b106_35 := rfl
theorem c106_55 : x_cd 106 55 = b106_55 := rfl
theorem l106 : (x_xm 106).mL = 4 := rfl
theorem c107_0 : x_cd 107 0 = b107_0 := rfl
theorem c107_4 : x_cd 107 4 = b107_4 := rfl
theorem c107_25 : x_cd 107 25 = b107_25 := rfl
theorem c107_26 : x_cd 107 26 = b107_26 := rfl
theorem c107_33 : x_cd 107 33 = b107_33 := rfl
theorem l107 : (x_xm 107).mL = 4 := rfl
theorem c108_0 : x_cd 108 0 = b108_0 := rfl
theorem c108_7 : x_cd 108 7 = b108_7 := rfl
theorem c108_31 : x_cd 108 31 = b108_31 := rfl
theorem c108_35 : x_cd 108 35 = b108_35 := rfl
theorem c108_36 : x_cd 108 36 = b108_36 := rfl
theorem c108_43 : x_cd 108 43 = b108_43 := rfl
theorem l108 : (x_xm 108).mL = 4 := rfl
theorem c109_0 : x_cd 109 0 = b109_0 := rfl
theorem l109 : (x_xm 109).mL = 4 := rfl
theorem c110_0 : x_cd 110 0 = b110_0 := rfl
theorem c110_13 : x_cd 110 13 = b110_13 := rfl
theorem c110_31 : x_cd 110 31 = b110_31 := rfl
theorem c110_32 : x_cd 110 32 = b110_32 := rfl
theorem c110_39 : x_cd 110 39 = b110_39 := rfl
theorem c110_120 : x_cd 110 120 = b110_120 := rfl
theorem c110_131 : x_cd 110 131 = b110_131 := rfl
theorem c110_164 : x_cd 110 164 = b110_164 := rfl
theorem c110_184 : x_cd 110 184 = b110_184 := rfl
theorem l110 : (x_xm 110).mL = 5 := rfl
theorem c111_0 : x_cd 111 0 = b111_0 := rfl
theorem c111_13 : x_cd 111 13 = b111_13 := rfl
theorem c111_31 : x_cd 111 31 = b111_31 := rfl
theorem c111_32 : x_cd 111 32 = b111_32 := rfl
theorem c111_39 : x_cd 111 39 = b111_39 := rfl
theorem c111_95 : x_cd 111 95 = b111_95 := rfl
theorem c111_104 : x_cd 111 104 = b111_104 := rfl
theorem c111_125 : x_cd 111 125 = b111_125 := rfl
theorem l111 : (x_xm 111).mL = 4 := rfl
theorem c112_0 : x_cd 112 0 = b112_0 := rfl
theorem c112_22 : x_cd 112 22 = b112_22 := rfl
theorem c112_23 : x_cd 112 23 = b112_23 := rfl
theorem c112_30 : x_cd 112 30 = b112_30 := rfl
theorem c112_64 : x_cd 112 64 = b112_64 := rfl
theorem c112_65 : x_cd 112 65 = b112_65 := rfl
theorem c112_80 : x_cd 112 80 = b112_80 := rfl
theorem l112 : (x_xm 112).mL = 7 := rfl
theorem c113_0 : x_cd 113 0 = b113_0 := rfl
theorem c113_2 : x_cd 113 2 = b113_2 := rfl
theorem c113_23 : x_cd 113 23 = b113_23 := rfl
theorem l113 : (x_xm 113).mL = 4 := rfl
theorem c114_0 : x_cd 114 0 = b114_0 := rfl
theorem c114_8 : x_cd 114 8 = b114_8 := rfl
theorem c114_44 : x_cd 114 44 = b114_44 := rfl
theorem c114_45 : x_cd 114 45 = b114_45 := rfl
theorem c114_52 : x_cd 114 52 = b114_52 := rfl
theorem l114 : (x_xm 114).mL = 5 := rfl
theorem c115_0 : x_cd 115 0 = b115_0 := rfl
theorem c115_22 : x_cd 115 22 = b115_22 := rfl
theorem c115_23 : x_cd 115 23 = b115_23 := rfl
theorem c115_35 : x_cd 115 35 = b115_35 := rfl
theorem c115_53 : x_cd 115 53 = b115_53 := rfl
theorem c115_54 : x_cd 115 54 = b115_54 := rfl
theorem c115_62 : x_cd 115 62 = b115_62 := rfl
theorem c115_83 : x_cd 115 83 = b115_83 := rfl
theorem c115_139 : x_cd 115 139 = b115_139 := rfl
theorem c115_140 : x_cd 115 140 = b115_140 := rfl
theorem c115_148 : x_cd 115 148 = b115_148 := rfl
theorem c115_185 : x_cd 115 185 = b115_185 := rfl
theorem c115_189 : x_cd 115 189 = b115_189 := rfl
theorem c115_190 : x_cd 115 190 = b115_190 := rfl
theorem c115_198 : x_cd 115 198 = b115_198 := rfl
theorem c115_213 : x_cd 115 213 = b115_213 := rfl
theorem c115_256 : x_cd 115 256 = b115_256 := rfl
theorem l115 : (x_xm 115).mL = 9 := rfl
theorem c116_0 : x_cd 116 0 = b116_0 := rfl
theorem c116_31 : x_cd 116 31 = b116_31 := rfl
theorem c116_32 : x_cd 116 32 = b116_32 := rfl
theorem l116 : (x_xm 116).mL = 2 := rfl
theorem c117_0 : x_cd 117 0 = b117_0 := rfl
theorem c117_4 : x_cd 117 4 = b117_4 := rfl
theorem c117_38 : x_cd 117 38 = b117_38 := rfl
theorem c117_86 : x_cd 117 86 = b117_86 := rfl
theorem c117_92 : x_cd 117 92 = b117_92 := rfl
theorem c117_98 : x_cd 117 98 = b117_98 := rfl
theorem l117 : (x_xm 117).mL = 5 := rfl
theorem c118_0 : x_cd 118 0 = b118_0 := rfl
theorem l118 : (x_xm 118).mL = 3 := rfl
theorem c119_0 : x_cd 119 0 = b119_0 := rfl
theorem c119_3 : x_cd 119 3 = b119_3 := rfl
theorem c119_30 : x_cd 119 30 = b119_30 := rfl
theorem c119_40 : x_cd 119 40 = b119_40 := rfl
theorem c119_60 : x_cd 119 60 = b119_60 := rfl
theorem c119_72 : x_cd 119 72 = b119_72 := rfl
theorem c119_75 : x_cd 119 75 = b119_75 := rfl
theorem c119_90 : x_cd 119 90 = b119_90 := rfl
theorem c119_101 : x_cd 119 101 = b119_101 := rfl
theorem c119_146 : x_cd 119 146 = b119_146 := rfl
theorem c119_152 : x_cd 119 152 = b119_152 := rfl
theorem c119_158 : x_cd 119 158 = b119_158 := rfl
theorem l119 : (x_xm 119).mL = 10 := rfl
theorem c120_0 : x_cd 120 0 = b120_0 := rfl
theorem c120_4 : x_cd 120 4 = b120_4 := rfl
theorem c120_25 : x_cd 120 25 = b120_25 := rfl
theorem c120_26 : x_cd 120 26 = b120_26 := rfl
theorem c120_33 : x_cd 120 33 = b120_33 := rfl
theorem l120 : (x_xm 120).mL = 4 := rfl
theorem c121_0 : x_cd 121 0 = b121_0 := rfl
theorem c121_13 : x_cd 121 13 = b121_13 := rfl
theorem c121_42 : x_cd 121 42 = b121_42 := rfl
theorem c121_54 : x_cd 121 54 = b121_54 := rfl
theorem c121_55 : x_cd 121 55 = b121_55 := rfl
theorem c121_70 : x_cd 121 70 = b121_70 := rfl
theorem c121_71 : x_cd 121 71 = b121_71 := rfl
theorem c121_92 : x_cd 121 92 = b121_92 := rfl
theorem c121_93 : x_cd 121 93 = b121_93 := rfl
theorem c121_101 : x_cd 121 101 = b121_101 := rfl
theorem c121_108 : x_cd 121 108 = b121_108 := rfl
theorem c121_138 : x_cd 121 138 = b121_138 := rfl
theorem c121_159 : x_cd 121 159 = b121_159 := rfl
theorem c121_199 : x_cd 121 199 = b121_199 := rfl
theorem c121_203 : x_cd 121 203 = b121_203 := rfl
theorem l121 : (x_xm 121).mL = 7 := rfl
theorem c122_0 : x_cd 122 0 = b122_0 := rfl
theorem c122_10 : x_cd 122 10 = b122_10 := rfl
theorem c122_37 : x_cd 122 37 = b122_37 := rfl
theorem c122_59 : x_cd 122 59 = b122_59 := rfl
theorem c122_63 : x_cd 122 63 = b122_63 := rfl
theorem c122_64 : x_cd 122 64 = b122_64 := rfl
theorem c122_96 : x_cd 122 96 = b122_96 := rfl
theorem c122_97 : x_cd 122 97 = b122_97 := rfl
theorem c122_104 : x_cd 122 104 = b122_104 := rfl
theorem l122 : (x_xm 122).mL = 6 := rfl
theorem c123_0 : x_cd 123 0 = b123_0 := rfl
theorem c123_12 : x_cd 123 12 = b123_12 := rfl
theorem c123_13 : x_cd 123 13 = b123_13 := rfl
theorem c123_18 : x_cd 123 18 = b123_18 := rfl
theorem c123_60 : x_cd 123 60 = b123_60 := rfl
theorem c123_92 : x_cd 123 92 = b123_92 := rfl
theorem c123_126 : x_cd 123 126 = b123_126 := rfl
theorem c123_170 : x_cd 123 170 = b123_170 := rfl
theorem c123_251 : x_cd 123 251 = b123_251 := rfl
theorem c123_257 : x_cd 123 257 = b123_257 := rfl
theorem l123 : (x_xm 123).mL = 9 := rfl
theorem c124_0 : x_cd 124 0 = b124_0 := rfl
theorem c124_46 : x_cd 124 46 = b124_46 := rfl
theorem c124_55 : x_cd 124 55 = b124_55 := rfl
theorem c124_109 : x_cd 124 109 = b124_109 := rfl
theorem c124_116 : x_cd 124 116 = b124_116 := rfl
theorem l124 : (x_xm 124).mL = 5 := rfl
theorem c125_0 : x_cd 125 0 = b125_0 := rfl
theorem c125_45 : x_cd 125 45 = b125_45 := rfl
theorem c125_46 : x_cd 125 46 = b125_46 := rfl
theorem c125_103 : x_cd 125 103 = b125_103 := rfl
theorem l125 : (x_xm 125).mL = 4 := rfl
theorem c126_0 : x_cd 126 0 = b126_0 := rfl
theorem c126_40 : x_cd 126 40 = b126_40 := rfl
theorem c126_131 : x_cd 126 131 = b126_131 := rfl
theorem c126_134 : x_cd 126 134 = b126_134 := rfl
theorem c126_170 : x_cd 126 170 = b126_170 := rfl
theorem l126 : (x_xm 126).mL = 3 := rfl
theorem c127_0 : x_cd 127 0 = b127_0 := rfl
theorem c127_23 : x_cd 127 23 = b127_23 := rfl
theorem c127_62 : x_cd 127 62 = b127_62 := rfl
theorem c127_66 : x_cd 127 66 = b127_66 := rfl
theorem c127_67 : x_cd 127 67 = b127_67 := rfl
theorem c127_74 : x_cd 127 74 = b127_74 := rfl
theorem c127_82 : x_cd 127 82 = b127_82 := rfl
theorem l127 : (x_xm 127).mL = 4 := rfl
theorem c128_0 : x_cd 128 0 = b128_0 := rfl
theorem c128_12 : x_cd 128 12 = b128_12 := rfl
theorem c128_52 : x_cd 128 52 = b128_52 := rfl
theorem c128_58 : x_cd 128 58 = b128_58 := rfl
theorem c128_60 : x_cd 128 60 = b128_60 := rfl
theorem c128_82 : x_cd 128 82 = b128_82 := rfl
theorem c128_84 : x_cd 128 84 = b128_84 := rfl
theorem c128_101 : x_cd 128 101 = b128_101 := rfl
theorem c128_103 : x_cd 128 103 = b128_103 := rfl
theorem c128_119 : x_cd 128 119 = b128_119 := rfl
theorem l128 : (x_xm 128).mL = 2 := rfl
theorem c129_0 : x_cd 129 0 = b129_0 := rfl
theorem c129_15 : x_cd 129 15 = b129_15 := rfl
theorem c129_16 : x_cd 129 16 = b129_16 := rfl
theorem c129_23 : x_cd 129 23 = b129_23 := rfl
theorem c129_25 : x_cd 129 25 = b129_25 := rfl
theorem c129_40 : x_cd 129 40 = b129_40 := rfl
theorem l129 : (x_xm 129).mL = 3 := rfl
theorem c130_0 : x_cd 130 0 = b130_0 := rfl
theorem c130_19 : x_cd 130 19 = b130_19 := rfl
theorem c130_20 : x_cd 130 20 = b130_20 := rfl
theorem c130_28 : x_cd 130 28 = b130_28 := rfl
theorem c130_66 : x_cd 130 66 = b130_66 := rfl
theorem l130 : (x_xm 130).mL = 4 := rfl
theorem c131_0 : x_cd 131 0 = b131_0 := rfl
theorem c131_13 : x_cd 131 13 = b131_13 := rfl
theorem c131_14 : x_cd 131 14 = b131_14 := rfl
theorem c131_22 : x_cd 131 22 = b131_22 := rfl
theorem c131_51 : x_cd 131 51 = b131_51 := rfl
theorem c131_53 : x_cd 131 53 = b131_53 := rfl
theorem c131_82 : x_cd 131 82 = b131_82 := rfl
theorem l131 : (x_xm 131).mL = 5 := rfl
theorem c132_0 : x_cd 132 0 = b132_0 := rfl
theorem c132_13 : x_cd 132 13 = b132_13 := rfl
theorem c132_14 : x_cd 132 14 = b132_14 := rfl
theorem c132_22 : x_cd 132 22 = b132_22 := rfl
theorem c132_52 : x_cd 132 52 = b132_52 := rfl
theorem c132_66 : x_cd 132 66 = b132_66 := rfl
theorem c132_72 : x_cd 132 72 = b132_72 := rfl
theorem l132 : (x_xm 132).mL = 4 := rfl
theorem c133_0 : x_cd 133 0 = b133_0 := rfl
theorem c133_13 : x_cd 133 13 = b133_13 := rfl
theorem c133_14 : x_cd 133 14 = b133_14 := rfl
theorem c133_22 : x_cd 133 22 = b133_22 := rfl
theorem c133_52 : x_cd 133 52 = b133_52 := rfl
theorem c133_53 : x_cd 133 53 = b133_53 := rfl
theorem l133 : (x_xm 133).mL = 4 := rfl
theorem c134_0 : x_cd 134 0 = b134_0 := rfl
theorem c134_13 : x_cd 134 13 = b134_13 := rfl
theorem c134_14 : x_cd 134 14 = b134_14 := rfl
theorem c134_22 : x_cd 134 22 = b134_22 := rfl
theorem c134_47 : x_cd 134 47 = b134_47 := rfl
theorem c134_48 : x_cd 134 48 = b134_48 := rfl
theorem c134_90 : x_cd 134 90 = b134_90 := rfl
theorem c134_91 : x_cd 134 91 = b134_91 := rfl
theorem c134_102 : x_cd 134 102 = b134_102 := rfl
theorem c134_118 : x_cd 134 118 = b134_118 := rfl
theorem c134_120 : x_cd 134 120 = b134_120 := rfl
theorem l134 : (x_xm 134).mL = 6 := rfl
theorem c135_0 : x_cd 135 0 = b135_0 := rfl
theorem c135_13 : x_cd 135 13 = b135_13 := rfl
theorem c135_14 : x_cd 135 14 = b135_14 := rfl
theorem c135_24 : x_cd 135 24 = b135_24 := rfl
theorem c135_35 : x_cd 135 35 = b135_35 := rfl
theorem l135 : (x_xm 135).mL = 3 := rfl
theorem c136_0 : x_cd 136 0 = b136_0 := rfl
theorem c136_13 : x_cd 136 13 = b136_13 := rfl
theorem c136_14 : x_cd 136 14 = b136_14 := rfl
theorem c136_22 : x_cd 136 22 = b136_22 := rfl
theorem c136_72 : x_cd 136 72 = b136_72 := rfl
theorem c136_73 : x_cd 136 73 = b136_73 := rfl
theorem l136 : (x_xm 136).mL = 5 := rfl
theorem c137_0 : x_cd 137 0 = b137_0 := rfl
theorem c137_23 : x_cd 137 23 = b137_23 := rfl
theorem c137_24 : x_cd 137 24 = b137_24 := rfl
theorem c137_32 : x_cd 137 32 = b137_32 := rfl
theorem c137_46 : x_cd 137 46 = b137_46 := rfl
theorem c137_47 : x_cd 137 47 = b137_47 := rfl
theorem c137_51 : x_cd 137 51 = b137_51 := rfl
theorem c137_81 : x_cd 137 81 = b137_81 := rfl
theorem c137_82 : x_cd 137 82 = b137_82 := rfl
theorem c137_89 : x_cd 137 89 = b137_89 := rfl
theorem c137_92 : x_cd 137 92 = b137_92 := rfl
theorem c137_125 : x_cd 137 125 = b137_125 := rfl
theorem c137_126 : x_cd 137 126 = b137_126 := rfl
theorem c137_133 : x_cd 137 133 = b137_133 := rfl
theorem c137_136 : x_cd 137 136 = b137_136 := rfl
theorem c137_167 : x_cd 137 167 = b137_167 := rfl
theorem c137_168 : x_cd 137 168 = b137_168 := rfl
theorem c137_175 : x_cd 137 175 = b137_175 := rfl
theorem c137_178 : x_cd 137 178 = b137_178 := rfl
theorem c137_214 : x_cd 137 214 = b137_214 := rfl
theorem c137_240 : x_cd 137 240 = b137_240 := rfl
theorem c137_241 : x_cd 137 241 = b137_241 := rfl
theorem c137_248 : x_cd 137 248 = b137_248 := rfl
theorem c137_254 : x_cd 137 254 = b137_254 := rfl
theorem c137_287 : x_cd 137 287 = b137_287 := rfl
theorem c137_288 : x_cd 137 288 = b137_288 := rfl
theorem c137_295 : x_cd 137 295 = b137_295 := rfl
theorem l137 : (x_xm 137).mL = 5 := rfl
theorem c138_0 : x_cd 138 0 = b138_0 := rfl
theorem c138_23 : x_cd 138 23 = b138_23 := rfl
theorem c138_24 : x_cd 138 24 = b138_24 := rfl
theorem c138_34 : x_cd 138 34 = b138_34 := rfl
theorem c138_44 : x_cd 138 44 = b138_44 := rfl
theorem l138 : (x_xm 138).mL = 3 := rfl
