theorem yd_X7_takeFrom : ydN yX7_takeFrom 1 := ⟨by decide, by decide, by decide +kernel⟩
theorem wv_624 : wdV "KeptWell$Well" 63 yX7_takeFrom cX7_takeFrom 3 none := ⟨wd_624, wd_625, wd_626, wd_3, wd_627⟩
def on_X10_takeFrom : Nat := 0xb13f00b63c00b42b3c00b42a3f00b63900b42b3900b42a3f00b63600b42b3600b42a3f00b63300b42b3300b42a3f00b62e00b42b2e00b42a3f00b62a00b42b2a00b42a2200b52200b42b2a1f00b51f00b42b2a1c00b51c00b42b2a1900b51900b42b2a1600b51600b42b2a1300b51300b42b2a1000b51000b42b2a0d00b50d00b42b2a0700b50700b42b2a
theorem ob_X10_takeFrom : OKB cX10_takeFrom on_X10_takeFrom 139 := ⟨by decide +kernel, by decide +kernel⟩
theorem dX10_takeFrom_0 : dc cX10_takeFrom 0 1 (.aload_n 0) 1 := o_42 ob_X10_takeFrom rfl rfl rfl
theorem dX10_takeFrom_1 : dc cX10_takeFrom 1 2 (.aload_n 1) 1 := o_43 ob_X10_takeFrom rfl rfl rfl
theorem dX10_takeFrom_2 : dc cX10_takeFrom 2 5 (.getfield 7) 3 := o_180 ob_X10_takeFrom rfl rfl rfl rfl
theorem dX10_takeFrom_5 : dc cX10_takeFrom 5 8 (.putfield 7) 3 := o_181 ob_X10_takeFrom rfl rfl rfl rfl
theorem dX10_takeFrom_8 : dc cX10_takeFrom 8 9 (.aload_n 0) 1 := o_42 ob_X10_takeFrom rfl rfl rfl
theorem dX10_takeFrom_9 : dc cX10_takeFrom 9 10 (.aload_n 1) 1 := o_43 ob_X10_takeFrom rfl rfl rfl
theorem dX10_takeFrom_10 : dc cX10_takeFrom 10 13 (.getfield 13) 3 := o_180 ob_X10_takeFrom rfl rfl rfl rfl
theorem dX10_takeFrom_13 : dc cX10_takeFrom 13 16 (.putfield 13) 3 := o_181 ob_X10_takeFrom rfl rfl rfl rfl
theorem dX10_takeFrom_16 : dc cX10_takeFrom 16 17 (.aload_n 0) 1 := o_42 ob_X10_takeFrom rfl rfl rfl
theorem dX10_takeFrom_17 : dc cX10_takeFrom 17 18 (.aload_n 1) 1 := o_43 ob_X10_takeFrom rfl rfl rfl
theorem dX10_takeFrom_18 : dc cX10_takeFrom 18 21 (.getfield 16) 3 := o_180 ob_X10_takeFrom rfl rfl rfl rfl
theorem dX10_takeFrom_21 : dc cX10_takeFrom 21 24 (.putfield 16) 3 := o_181 ob_X10_takeFrom rfl rfl rfl rfl
theorem dX10_takeFrom_24 : dc cX10_takeFrom 24 25 (.aload_n 0) 1 := o_42 ob_X10_takeFrom rfl rfl rfl
theorem dX10_takeFrom_25 : dc cX10_takeFrom 25 26 (.aload_n 1) 1 := o_43 ob_X10_takeFrom rfl rfl rfl
theorem dX10_takeFrom_26 : dc cX10_takeFrom 26 29 (.getfield 19) 3 := o_180 ob_X10_takeFrom rfl rfl rfl rfl
theorem dX10_takeFrom_29 : dc cX10_takeFrom 29 32 (.putfield 19) 3 := o_181 ob_X10_takeFrom rfl rfl rfl rfl
theorem dX10_takeFrom_32 : dc cX10_takeFrom 32 33 (.aload_n 0) 1 := o_42 ob_X10_takeFrom rfl rfl rfl
theorem dX10_takeFrom_33 : dc cX10_takeFrom 33 34 (.aload_n 1) 1 := o_43 ob_X10_takeFrom rfl rfl rfl
theorem dX10_takeFrom_34 : dc cX10_takeFrom 34 37 (.getfield 22) 3 := o_180 ob_X10_takeFrom rfl rfl rfl rfl
theorem dX10_takeFrom_37 : dc cX10_takeFrom 37 40 (.putfield 22) 3 := o_181 ob_X10_takeFrom rfl rfl rfl rfl
theorem dX10_takeFrom_40 : dc cX10_takeFrom 40 41 (.aload_n 0) 1 := o_42 ob_X10_takeFrom rfl rfl rfl
theorem dX10_takeFrom_41 : dc cX10_takeFrom 41 42 (.aload_n 1) 1 := o_43 ob_X10_takeFrom rfl rfl rfl
theorem dX10_takeFrom_42 : dc cX10_takeFrom 42 45 (.getfield 25) 3 := o_180 ob_X10_takeFrom rfl rfl rfl rfl
theorem dX10_takeFrom_45 : dc cX10_takeFrom 45 48 (.putfield 25) 3 := o_181 ob_X10_takeFrom rfl rfl rfl rfl
theorem dX10_takeFrom_48 : dc cX10_takeFrom 48 49 (.aload_n 0) 1 := o_42 ob_X10_takeFrom rfl rfl rfl
theorem dX10_takeFrom_49 : dc cX10_takeFrom 49 50 (.aload_n 1) 1 := o_43 ob_X10_takeFrom rfl rfl rfl
theorem dX10_takeFrom_50 : dc cX10_takeFrom 50 53 (.getfield 28) 3 := o_180 ob_X10_takeFrom rfl rfl rfl rfl
theorem dX10_takeFrom_53 : dc cX10_takeFrom 53 56 (.putfield 28) 3 := o_181 ob_X10_takeFrom rfl rfl rfl rfl
theorem dX10_takeFrom_56 : dc cX10_takeFrom 56 57 (.aload_n 0) 1 := o_42 ob_X10_takeFrom rfl rfl rfl
theorem dX10_takeFrom_57 : dc cX10_takeFrom 57 58 (.aload_n 1) 1 := o_43 ob_X10_takeFrom rfl rfl rfl
theorem dX10_takeFrom_58 : dc cX10_takeFrom 58 61 (.getfield 31) 3 := o_180 ob_X10_takeFrom rfl rfl rfl rfl
theorem dX10_takeFrom_61 : dc cX10_takeFrom 61 64 (.putfield 31) 3 := o_181 ob_X10_takeFrom rfl rfl rfl rfl
theorem dX10_takeFrom_64 : dc cX10_takeFrom 64 65 (.aload_n 0) 1 := o_42 ob_X10_takeFrom rfl rfl rfl
theorem dX10_takeFrom_65 : dc cX10_takeFrom 65 66 (.aload_n 1) 1 := o_43 ob_X10_takeFrom rfl rfl rfl
theorem dX10_takeFrom_66 : dc cX10_takeFrom 66 69 (.getfield 34) 3 := o_180 ob_X10_takeFrom rfl rfl rfl rfl
theorem dX10_takeFrom_69 : dc cX10_takeFrom 69 72 (.putfield 34) 3 := o_181 ob_X10_takeFrom rfl rfl rfl rfl
theorem dX10_takeFrom_72 : dc cX10_takeFrom 72 73 (.aload_n 0) 1 := o_42 ob_X10_takeFrom rfl rfl rfl
theorem dX10_takeFrom_73 : dc cX10_takeFrom 73 76 (.getfield 42) 3 := o_180 ob_X10_takeFrom rfl rfl rfl rfl
theorem dX10_takeFrom_76 : dc cX10_takeFrom 76 77 (.aload_n 1) 1 := o_43 ob_X10_takeFrom rfl rfl rfl
theorem dX10_takeFrom_77 : dc cX10_takeFrom 77 80 (.getfield 42) 3 := o_180 ob_X10_takeFrom rfl rfl rfl rfl
theorem dX10_takeFrom_80 : dc cX10_takeFrom 80 83 (.invokevirtual 63) 3 := o_182 ob_X10_takeFrom rfl rfl rfl rfl
theorem dX10_takeFrom_83 : dc cX10_takeFrom 83 84 (.aload_n 0) 1 := o_42 ob_X10_takeFrom rfl rfl rfl
theorem dX10_takeFrom_84 : dc cX10_takeFrom 84 87 (.getfield 46) 3 := o_180 ob_X10_takeFrom rfl rfl rfl rfl
theorem dX10_takeFrom_87 : dc cX10_takeFrom 87 88 (.aload_n 1) 1 := o_43 ob_X10_takeFrom rfl rfl rfl
theorem dX10_takeFrom_88 : dc cX10_takeFrom 88 91 (.getfield 46) 3 := o_180 ob_X10_takeFrom rfl rfl rfl rfl
theorem dX10_takeFrom_91 : dc cX10_takeFrom 91 94 (.invokevirtual 63) 3 := o_182 ob_X10_takeFrom rfl rfl rfl rfl
theorem dX10_takeFrom_94 : dc cX10_takeFrom 94 95 (.aload_n 0) 1 := o_42 ob_X10_takeFrom rfl rfl rfl
theorem dX10_takeFrom_95 : dc cX10_takeFrom 95 98 (.getfield 51) 3 := o_180 ob_X10_takeFrom rfl rfl rfl rfl
theorem dX10_takeFrom_98 : dc cX10_takeFrom 98 99 (.aload_n 1) 1 := o_43 ob_X10_takeFrom rfl rfl rfl
theorem dX10_takeFrom_99 : dc cX10_takeFrom 99 102 (.getfield 51) 3 := o_180 ob_X10_takeFrom rfl rfl rfl rfl
theorem dX10_takeFrom_102 : dc cX10_takeFrom 102 105 (.invokevirtual 63) 3 := o_182 ob_X10_takeFrom rfl rfl rfl rfl
theorem dX10_takeFrom_105 : dc cX10_takeFrom 105 106 (.aload_n 0) 1 := o_42 ob_X10_takeFrom rfl rfl rfl
theorem dX10_takeFrom_106 : dc cX10_takeFrom 106 109 (.getfield 54) 3 := o_180 ob_X10_takeFrom rfl rfl rfl rfl
theorem dX10_takeFrom_109 : dc cX10_takeFrom 109 110 (.aload_n 1) 1 := o_43 ob_X10_takeFrom rfl rfl rfl
theorem dX10_takeFrom_110 : dc cX10_takeFrom 110 113 (.getfield 54) 3 := o_180 ob_X10_takeFrom rfl rfl rfl rfl
theorem dX10_takeFrom_113 : dc cX10_takeFrom 113 116 (.invokevirtual 63) 3 := o_182 ob_X10_takeFrom rfl rfl rfl rfl
theorem dX10_takeFrom_116 : dc cX10_takeFrom 116 117 (.aload_n 0) 1 := o_42 ob_X10_takeFrom rfl rfl rfl
theorem dX10_takeFrom_117 : dc cX10_takeFrom 117 120 (.getfield 57) 3 := o_180 ob_X10_takeFrom rfl rfl rfl rfl
theorem dX10_takeFrom_120 : dc cX10_takeFrom 120 121 (.aload_n 1) 1 := o_43 ob_X10_takeFrom rfl rfl rfl
theorem dX10_takeFrom_121 : dc cX10_takeFrom 121 124 (.getfield 57) 3 := o_180 ob_X10_takeFrom rfl rfl rfl rfl
theorem dX10_takeFrom_124 : dc cX10_takeFrom 124 127 (.invokevirtual 63) 3 := o_182 ob_X10_takeFrom rfl rfl rfl rfl
theorem dX10_takeFrom_127 : dc cX10_takeFrom 127 128 (.aload_n 0) 1 := o_42 ob_X10_takeFrom rfl rfl rfl
theorem dX10_takeFrom_128 : dc cX10_takeFrom 128 131 (.getfield 60) 3 := o_180 ob_X10_takeFrom rfl rfl rfl rfl
theorem dX10_takeFrom_131 : dc cX10_takeFrom 131 132 (.aload_n 1) 1 := o_43 ob_X10_takeFrom rfl rfl rfl
theorem dX10_takeFrom_132 : dc cX10_takeFrom 132 135 (.getfield 60) 3 := o_180 ob_X10_takeFrom rfl rfl rfl rfl
theorem dX10_takeFrom_135 : dc cX10_takeFrom 135 138 (.invokevirtual 63) 3 := o_182 ob_X10_takeFrom rfl rfl rfl rfl
theorem dX10_takeFrom_138 : dc cX10_takeFrom 138 139 .return_ 1 := o_177 ob_X10_takeFrom rfl rfl rfl
def F_Well_takeFrom (b : Nat) (o1 : Nat) (M : Mem) : Option (Mem) :=
  (F_Row_takeFrom ((b + 2)) 18 ((o1 + 2)) 18 (mSI (mSI (mSI (mSI (mSI (mSI (mSI (mSI (mSI M b 0 (M.1 o1 0)) b 1 ((mSI M b 0 (M.1 o1 0)).1 o1 1)) b 2 ((mSI (mSI M b 0 (M.1 o1 0)) b 1 ((mSI M b 0 (M.1 o1 0)).1 o1 1)).1 o1 2)) b 3 ((mSI (mSI (mSI M b 0 (M.1 o1 0)) b 1 ((mSI M b 0 (M.1 o1 0)).1 o1 1)) b 2 ((mSI (mSI M b 0 (M.1 o1 0)) b 1 ((mSI M b 0 (M.1 o1 0)).1 o1 1)).1 o1 2)).1 o1 3)) b 4 ((mSI (mSI (mSI (mSI M b 0 (M.1 o1 0)) b 1 ((mSI M b 0 (M.1 o1 0)).1 o1 1)) b 2 ((mSI (mSI M b 0 (M.1 o1 0)) b 1 ((mSI M b 0 (M.1 o1 0)).1 o1 1)).1 o1 2)) b 3 ((mSI (mSI (mSI M b 0 (M.1 o1 0)) b 1 ((mSI M b 0 (M.1 o1 0)).1 o1 1)) b 2 ((mSI (mSI M b 0 (M.1 o1 0)) b 1 ((mSI M b 0 (M.1 o1 0)).1 o1 1)).1 o1 2)).1 o1 3)).1 o1 4)) b 5 ((mSI (mSI (mSI (mSI (mSI M b 0 (M.1 o1 0)) b 1 ((mSI M b 0 (M.1 o1 0)).1 o1 1)) b 2 ((mSI (mSI M b 0 (M.1 o1 0)) b 1 ((mSI M b 0 (M.1 o1 0)).1 o1 1)).1 o1 2)) b 3 ((mSI (mSI (mSI M b 0 (M.1 o1 0)) b 1 ((mSI M b 0 (M.1 o1 0)).1 o1 1)) b 2 ((mSI (mSI M b 0 (M.1 o1 0)) b 1 ((mSI M b 0 (M.1 o1 0)).1 o1 1)).1 o1 2)).1 o1 3)) b 4 ((mSI (mSI (mSI (mSI M b 0 (M.1 o1 0)) b 1 ((mSI M b 0 (M.1 o1 0)).1 o1 1)) b 2 ((mSI (mSI M b 0 (M.1 o1 0)) b 1 ((mSI M b 0 (M.1 o1 0)).1 o1 1)).1 o1 2)) b 3 ((mSI (mSI (mSI M b 0 (M.1 o1 0)) b 1 ((mSI M b 0 (M.1 o1 0)).1 o1 1)) b 2 ((mSI (mSI M b 0 (M.1 o1 0)) b 1 ((mSI M b 0 (M.1 o1 0)).1 o1 1)).1 o1 2)).1 o1 3)).1 o1 4)).1 o1 5)) b 6 ((mSI (mSI (mSI (mSI (mSI (mSI M b 0 (M.1 o1 0)) b 1 ((mSI M b 0 (M.1 o1 0)).1 o1 1)) b 2 ((mSI (mSI M b 0 (M.1 o1 0)) b 1 ((mSI M b 0 (M.1 o1 0)).1 o1 1)).1 o1 2)) b 3 ((mSI (mSI (mSI M b 0 (M.1 o1 0)) b 1 ((mSI M b 0 (M.1 o1 0)).1 o1 1)) b 2 ((mSI (mSI M b 0 (M.1 o1 0)) b 1 ((mSI M b 0 (M.1 o1 0)).1 o1 1)).1 o1 2)).1 o1 3)) b 4 ((mSI (mSI (mSI (mSI M b 0 (M.1 o1 0)) b 1 ((mSI M b 0 (M.1 o1 0)).1 o1 1)) b 2 ((mSI (mSI M b 0 (M.1 o1 0)) b 1 ((mSI M b 0 (M.1 o1 0)).1 o1 1)).1 o1 2)) b 3 ((mSI (mSI (mSI M b 0 (M.1 o1 0)) b 1 ((mSI M b 0 (M.1 o1 0)).1 o1 1)) b 2 ((mSI (mSI M b 0 (M.1 o1 0)) b 1 ((mSI M b 0 (M.1 o1 0)).1 o1 1)).1 o1 2)).1 o1 3)).1 o1 4)) b 5 ((mSI (mSI (mSI (mSI (mSI M b 0 (M.1 o1 0)) b 1 ((mSI M b 0 (M.1 o1 0)).1 o1 1)) b 2 ((mSI (mSI M b 0 (M.1 o1 0)) b 1 ((mSI M b 0 (M.1 o1 0)).1 o1 1)).1 o1 2)) b 3 ((mSI (mSI (mSI M b 0 (M.1 o1 0)) b 1 ((mSI M b 0 (M.1 o1 0)).1 o1 1)) b 2 ((mSI (mSI M b 0 (M.1 o1 0)) b 1 ((mSI M b 0 (M.1 o1 0)).1 o1 1)).1 o1 2)).1 o1 3)) b 4 ((mSI (mSI (mSI (mSI M b 0 (M.1 o1 0)) b 1 ((mSI M b 0 (M.1 o1 0)).1 o1 1)) b 2 ((mSI (mSI M b 0 (M.1 o1 0)) b 1 ((mSI M b 0 (M.1 o1 0)).1 o1 1)).1 o1 2)) b 3 ((mSI (mSI (mSI M b 0 (M.1 o1 0)) b 1 ((mSI M b 0 (M.1 o1 0)).1 o1 1)) b 2 ((mSI (mSI M b 0 (M.1 o1 0)) b 1 ((mSI M b 0 (M.1 o1 0)).1 o1 1)).1 o1 2)).1 o1 3)).1 o1 4)).1 o1 5)).1 o1 6)) b 7 ((mSI (mSI (mSI (mSI (mSI (mSI (mSI M b 0 (M.1 o1 0)) b 1 ((mSI M b 0 (M.1 o1 0)).1 o1 1)) b 2 ((mSI (mSI M b 0 (M.1 o1 0)) b 1 ((mSI M b 0 (M.1 o1 0)).1 o1 1)).1 o1 2)) b 3 ((mSI (mSI (mSI M b 0 (M.1 o1 0)) b 1 ((mSI M b 0 (M.1 o1 0)).1 o1 1)) b 2 ((mSI (mSI M b 0 (M.1 o1 0)) b 1 ((mSI M b 0 (M.1 o1 0)).1 o1 1)).1 o1 2)).1 o1 3)) b 4 ((mSI (mSI (mSI (mSI M b 0 (M.1 o1 0)) b 1 ((mSI M b 0 (M.1 o1 0)).1 o1 1)) b 2 ((mSI (mSI M b 0 (M.1 o1 0)) b 1 ((mSI M b 0 (M.1 o1 0)).1 o1 1)).1 o1 2)) b 3 ((mSI (mSI (mSI M b 0 (M.1 o1 0)) b 1 ((mSI M b 0 (M.1 o1 0)).1 o1 1)) b 2 ((mSI (mSI M b 0 (M.1 o1 0)) b 1 ((mSI M b 0 (M.1 o1 0)).1 o1 1)).1 o1 2)).1 o1 3)).1 o1 4)) b 5 ((mSI (mSI (mSI (mSI (mSI M b 0 (M.1 o1 0)) b 1 ((mSI M b 0 (M.1 o1 0)).1 o1 1)) b 2 ((mSI (mSI M b 0 (M.1 o1 0)) b 1 ((mSI M b 0 (M.1 o1 0)).1 o1 1)).1 o1 2)) b 3 ((mSI (mSI (mSI M b 0 (M.1 o1 0)) b 1 ((mSI M b 0 (M.1 o1 0)).1 o1 1)) b 2 ((mSI (mSI M b 0 (M.1 o1 0)) b 1 ((mSI M b 0 (M.1 o1 0)).1 o1 1)).1 o1 2)).1 o1 3)) b 4 ((mSI (mSI (mSI (mSI M b 0 (M.1 o1 0)) b 1 ((mSI M b 0 (M.1 o1 0)).1 o1 1)) b 2 ((mSI (mSI M b 0 (M.1 o1 0)) b 1 ((mSI M b 0 (M.1 o1 0)).1 o1 1)).1 o1 2)) b 3 ((mSI (mSI (mSI M b 0 (M.1 o1 0)) b 1 ((mSI M b 0 (M.1 o1 0)).1 o1 1)) b 2 ((mSI (mSI M b 0 (M.1 o1 0)) b 1 ((mSI M b 0 (M.1 o1 0)).1 o1 1)).1 o1 2)).1 o1 3)).1 o1 4)).1 o1 5)) b 6 ((mSI (mSI (mSI (mSI (mSI (mSI M b 0 (M.1 o1 0)) b 1 ((mSI M b 0 (M.1 o1 0)).1 o1 1)) b 2 ((mSI (mSI M b 0 (M.1 o1 0)) b 1 ((mSI M b 0 (M.1 o1 0)).1 o1 1)).1 o1 2)) b 3 ((mSI (mSI (mSI M b 0 (M.1 o1 0)) b 1 ((mSI M b 0 (M.1 o1 0)).1 o1 1)) b 2 ((mSI (mSI M b 0 (M.1 o1 0)) b 1 ((mSI M b 0 (M.1 o1 0)).1 o1 1)).1 o1 2)).1 o1 3)) b 4 ((mSI (mSI (mSI (mSI M b 0 (M.1 o1 0)) b 1 ((mSI M b 0 (M.1 o1 0)).1 o1 1)) b 2 ((mSI (mSI M b 0 (M.1 o1 0)) b 1 ((mSI M b 0 (M.1 o1 0)).1 o1 1)).1 o1 2)) b 3 ((mSI (mSI (mSI M b 0 (M.1 o1 0)) b 1 ((mSI M b 0 (M.1 o1 0)).1 o1 1)) b 2 ((mSI (mSI M b 0 (M.1 o1 0)) b 1 ((mSI M b 0 (M.1 o1 0)).1 o1 1)).1 o1 2)).1 o1 3)).1 o1 4)) b 5 ((mSI (mSI (mSI (mSI (mSI M b 0 (M.1 o1 0)) b 1 ((mSI M b 0 (M.1 o1 0)).1 o1 1)) b 2 ((mSI (mSI M b 0 (M.1 o1 0)) b 1 ((mSI M b 0 (M.1 o1 0)).1 o1 1)).1 o1 2)) b 3 ((mSI (mSI (mSI M b 0 (M.1 o1 0)) b 1 ((mSI M b 0 (M.1 o1 0)).1 o1 1)) b 2 ((mSI (mSI M b 0 (M.1 o1 0)) b 1 ((mSI M b 0 (M.1 o1 0)).1 o1 1)).1 o1 2)).1 o1 3)) b 4 ((mSI (mSI (mSI (mSI M b 0 (M.1 o1 0)) b 1 ((mSI M b 0 (M.1 o1 0)).1 o1 1)) b 2 ((mSI (mSI M b 0 (M.1 o1 0)) b 1 ((mSI M b 0 (M.1 o1 0)).1 o1 1)).1 o1 2)) b 3 ((mSI (mSI (mSI M b 0 (M.1 o1 0)) b 1 ((mSI M b 0 (M.1 o1 0)).1 o1 1)) b 2 ((mSI (mSI M b 0 (M.1 o1 0)) b 1 ((mSI M b 0 (M.1 o1 0)).1 o1 1)).1 o1 2)).1 o1 3)).1 o1 4)).1 o1 5)).1 o1 6)).1 o1 7)) b 8 ((mSI (mSI (mSI (mSI (mSI (mSI (mSI (mSI M b 0 (M.1 o1 0)) b 1 ((mSI M b 0 (M.1 o1 0)).1 o1 1)) b 2 ((mSI (mSI M b 0 (M.1 o1 0)) b 1 ((mSI M b 0 (M.1 o1 0)).1 o1 1)).1 o1 2)) b 3 ((mSI (mSI (mSI M b 0 (M.1 o1 0)) b 1 ((mSI M b 0 (M.1 o1 0)).1 o1 1)) b 2 ((mSI (mSI M b 0 (M.1 o1 0)) b 1 ((mSI M b 0 (M.1 o1 0)).1 o1 1)).1 o1 2)).1 o1 3)) b 4 ((mSI (mSI (mSI (mSI M b 0 (M.1 o1 0)) b 1 ((mSI M b 0 (M.1 o1 0)).1 o1 1)) b 2 ((mSI (mSI M b 0 (M.1 o1 0)) b 1 ((mSI M b 0 (M.1 o1 0)).1 o1 1)).1 o1 2)) b 3 ((mSI (mSI (mSI M b 0 (M.1 o1 0)) b 1 ((mSI M b 0 (M.1 o1 0)).1 o1 1)) b 2 ((mSI (mSI M b 0 (M.1 o1 0)) b 1 ((mSI M b 0 (M.1 o1 0)).1 o1 1)).1 o1 2)).1 o1 3)).1 o1 4)) b 5 ((mSI (mSI (mSI (mSI (mSI M b 0 (M.1 o1 0)) b 1 ((mSI M b 0 (M.1 o1 0)).1 o1 1)) b 2 ((mSI (mSI M b 0 (M.1 o1 0)) b 1 ((mSI M b 0 (M.1 o1 0)).1 o1 1)).1 o1 2)) b 3 ((mSI (mSI (mSI M b 0 (M.1 o1 0)) b 1 ((mSI M b 0 (M.1 o1 0)).1 o1 1)) b 2 ((mSI (mSI M b 0 (M.1 o1 0)) b 1 ((mSI M b 0 (M.1 o1 0)).1 o1 1)).1 o1 2)).1 o1 3)) b 4 ((mSI (mSI (mSI (mSI M b 0 (M.1 o1 0)) b 1 ((mSI M b 0 (M.1 o1 0)).1 o1 1)) b 2 ((mSI (mSI M b 0 (M.1 o1 0)) b 1 ((mSI M b 0 (M.1 o1 0)).1 o1 1)).1 o1 2)) b 3 ((mSI (mSI (mSI M b 0 (M.1 o1 0)) b 1 ((mSI M b 0 (M.1 o1 0)).1 o1 1)) b 2 ((mSI (mSI M b 0 (M.1 o1 0)) b 1 ((mSI M b 0 (M.1 o1 0)).1 o1 1)).1 o1 2)).1 o1 3)).1 o1 4)).1 o1 5)) b 6 ((mSI (mSI (mSI (mSI (mSI (mSI M b 0 (M.1 o1 0)) b 1 ((mSI M b 0 (M.1 o1 0)).1 o1 1)) b 2 ((mSI (mSI M b 0 (M.1 o1 0)) b 1 ((mSI M b 0 (M.1 o1 0)).1 o1 1)).1 o1 2)) b 3 ((mSI (mSI (mSI M b 0 (M.1 o1 0)) b 1 ((mSI M b 0 (M.1 o1 0)).1 o1 1)) b 2 ((mSI (mSI M b 0 (M.1 o1 0)) b 1 ((mSI M b 0 (M.1 o1 0)).1 o1 1)).1 o1 2)).1 o1 3)) b 4 ((mSI (mSI (mSI (mSI M b 0 (M.1 o1 0)) b 1 ((mSI M b 0 (M.1 o1 0)).1 o1 1)) b 2 ((mSI (mSI M b 0 (M.1 o1 0)) b 1 ((mSI M b 0 (M.1 o1 0)).1 o1 1)).1 o1 2)) b 3 ((mSI (mSI (mSI M b 0 (M.1 o1 0)) b 1 ((mSI M b 0 (M.1 o1 0)).1 o1 1)) b 2 ((mSI (mSI M b 0 (M.1 o1 0)) b 1 ((mSI M b 0 (M.1 o1 0)).1 o1 1)).1 o1 2)).1 o1 3)).1 o1 4)) b 5 ((mSI (mSI (mSI (mSI (mSI M b 0 (M.1 o1 0)) b 1 ((mSI M b 0 (M.1 o1 0)).1 o1 1)) b 2 ((mSI (mSI M b 0 (M.1 o1 0)) b 1 ((mSI M b 0 (M.1 o1 0)).1 o1 1)).1 o1 2)) b 3 ((mSI (mSI (mSI M b 0 (M.1 o1 0)) b 1 ((mSI M b 0 (M.1 o1 0)).1 o1 1)) b 2 ((mSI (mSI M b 0 (M.1 o1 0)) b 1 ((mSI M b 0 (M.1 o1 0)).1 o1 1)).1 o1 2)).1 o1 3)) b 4 ((mSI (mSI (mSI (mSI M b 0 (M.1 o1 0)) b 1 ((mSI M b 0 (M.1 o1 0)).1 o1 1)) b 2 ((mSI (mSI M b 0 (M.1 o1 0)) b 1 ((mSI M b 0 (M.1 o1 0)).1 o1 1)).1 o1 2)) b 3 ((mSI (mSI (mSI M b 0 (M.1 o1 0)) b 1 ((mSI M b 0 (M.1 o1 0)).1 o1 1)) b 2 ((mSI (mSI M b 0 (M.1 o1 0)) b 1 ((mSI M b 0 (M.1 o1 0)).1 o1 1)).1 o1 2)).1 o1 3)).1 o1 4)).1 o1 5)).1 o1 6)) b 7 ((mSI (mSI (mSI (mSI (mSI (mSI (mSI M b 0 (M.1 o1 0)) b 1 ((mSI M b 0 (M.1 o1 0)).1 o1 1)) b 2 ((mSI (mSI M b 0 (M.1 o1 0)) b 1 ((mSI M b 0 (M.1 o1 0)).1 o1 1)).1 o1 2)) b 3 ((mSI (mSI (mSI M b 0 (M.1 o1 0)) b 1 ((mSI M b 0 (M.1 o1 0)).1 o1 1)) b 2 ((mSI (mSI M b 0 (M.1 o1 0)) b 1 ((mSI M b 0 (M.1 o1 0)).1 o1 1)).1 o1 2)).1 o1 3)) b 4 ((mSI (mSI (mSI (mSI M b 0 (M.1 o1 0)) b 1 ((mSI M b 0 (M.1 o1 0)).1 o1 1)) b 2 ((mSI (mSI M b 0 (M.1 o1 0)) b 1 ((mSI M b 0 (M.1 o1 0)).1 o1 1)).1 o1 2)) b 3 ((mSI (mSI (mSI M b 0 (M.1 o1 0)) b 1 ((mSI M b 0 (M.1 o1 0)).1 o1 1)) b 2 ((mSI (mSI M b 0 (M.1 o1 0)) b 1 ((mSI M b 0 (M.1 o1 0)).1 o1 1)).1 o1 2)).1 o1 3)).1 o1 4)) b 5 ((mSI (mSI (mSI (mSI (mSI M b 0 (M.1 o1 0)) b 1 ((mSI M b 0 (M.1 o1 0)).1 o1 1)) b 2 ((mSI (mSI M b 0 (M.1 o1 0)) b 1 ((mSI M b 0 (M.1 o1 0)).1 o1 1)).1 o1 2)) b 3 ((mSI (mSI (mSI M b 0 (M.1 o1 0)) b 1 ((mSI M b 0 (M.1 o1 0)).1 o1 1)) b 2 ((mSI (mSI M b 0 (M.1 o1 0)) b 1 ((mSI M b 0 (M.1 o1 0)).1 o1 1)).1 o1 2)).1 o1 3)) b 4 ((mSI (mSI (mSI (mSI M b 0 (M.1 o1 0)) b 1 ((mSI M b 0 (M.1 o1 0)).1 o1 1)) b 2 ((mSI (mSI M b 0 (M.1 o1 0)) b 1 ((mSI M b 0 (M.1 o1 0)).1 o1 1)).1 o1 2)) b 3 ((mSI (mSI (mSI M b 0 (M.1 o1 0)) b 1 ((mSI M b 0 (M.1 o1 0)).1 o1 1)) b 2 ((mSI (mSI M b 0 (M.1 o1 0)) b 1 ((mSI M b 0 (M.1 o1 0)).1 o1 1)).1 o1 2)).1 o1 3)).1 o1 4)).1 o1 5)) b 6 ((mSI (mSI (mSI (mSI (mSI (mSI M b 0 (M.1 o1 0)) b 1 ((mSI M b 0 (M.1 o1 0)).1 o1 1)) b 2 ((mSI (mSI M b 0 (M.1 o1 0)) b 1 ((mSI M b 0 (M.1 o1 0)).1 o1 1)).1 o1 2)) b 3 ((mSI (mSI (mSI M b 0 (M.1 o1 0)) b 1 ((mSI M b 0 (M.1 o1 0)).1 o1 1)) b 2 ((mSI (mSI M b 0 (M.1 o1 0)) b 1 ((mSI M b 0 (M.1 o1 0)).1 o1 1)).1 o1 2)).1 o1 3)) b 4 ((mSI (mSI (mSI (mSI M b 0 (M.1 o1 0)) b 1 ((mSI M b 0 (M.1 o1 0)).1 o1 1)) b 2 ((mSI (mSI M b 0 (M.1 o1 0)) b 1 ((mSI M b 0 (M.1 o1 0)).1 o1 1)).1 o1 2)) b 3 ((mSI (mSI (mSI M b 0 (M.1 o1 0)) b 1 ((mSI M b 0 (M.1 o1 0)).1 o1 1)) b 2 ((mSI (mSI M b 0 (M.1 o1 0)) b 1 ((mSI M b 0 (M.1 o1 0)).1 o1 1)).1 o1 2)).1 o1 3)).1 o1 4)) b 5 ((mSI (mSI (mSI (mSI (mSI M b 0 (M.1 o1 0)) b 1 ((mSI M b 0 (M.1 o1 0)).1 o1 1)) b 2 ((mSI (mSI M b 0 (M.1 o1 0)) b 1 ((mSI M b 0 (M.1 o1 0)).1 o1 1)).1 o1 2)) b 3 ((mSI (mSI (mSI M b 0 (M.1 o1 0)) b 1 ((mSI M b 0 (M.1 o1 0)).1 o1 1)) b 2 ((mSI (mSI M b 0 (M.1 o1 0)) b 1 ((mSI M b 0 (M.1 o1 0)).1 o1 1)).1 o1 2)).1 o1 3)) b 4 ((mSI (mSI (mSI (mSI M b 0 (M.1 o1 0)) b 1 ((mSI M b 0 (M.1 o1 0)).1 o1 1)) b 2 ((mSI (mSI M b 0 (M.1 o1 0)) b 1 ((mSI M b 0 (M.1 o1 0)).1 o1 1)).1 o1 2)) b 3 ((mSI (mSI (mSI M b 0 (M.1 o1 0)) b 1 ((mSI M b 0 (M.1 o1 0)).1 o1 1)) b 2 ((mSI (mSI M b 0 (M.1 o1 0)) b 1 ((mSI M b 0 (M.1 o1 0)).1 o1 1)).1 o1 2)).1 o1 3)).1 o1 4)).1 o1 5)).1 o1 6)).1 o1 7)).1 o1 8))).bind fun r1 => (F_Row_takeFrom ((b + 4)) 117 ((o1 + 4)) 117 r1).bind fun r2 => (F_Row_takeFrom ((b + 6)) 400 ((o1 + 6)) 400 r2).bind fun r3 => (F_Row_takeFrom ((b + 8)) 8 ((o1 + 8)) 8 r3).bind fun r4 => (F_Row_takeFrom ((b + 10)) 6 ((o1 + 10)) 6 r4).bind fun r5 => (F_Row_takeFrom ((b + 12)) 6 ((o1 + 12)) 6 r5).bind fun r6 => some r6
set_option maxRecDepth 100000 in
set_option maxHeartbeats 4000000 in
theorem K_Well_takeFrom (l : Launch) (g : GB) (htr : l.stackTraces = false) (b : Nat) (o1 : Nat) (hb : isWell b) (ho1 : isWell o1) (M : Mem) (MZ : Mem) (h : F_Well_takeFrom b o1 M = some MZ) : CT l g yX10_takeFrom (.code yX10_takeFrom cX10_takeFrom 2 none :: wAll) { frames := 2, cells := 0, slots := 0, locals := 43 } [.ref (g.2.1 b), .ref (g.2.1 o1)] M (.inl none) MZ := by
  refine CT.of [(0, .ref (g.2.1 b)), (1, .ref (g.2.1 o1))] (by decide +kernel) (Nat.le_of_ble_eq_true rfl) rfl htr ?_
  intro p e s m args below meth c K hr ht
  skip
  obtain ⟨PHI, hPHI, h⟩ : ∃ PHI : Mem → Prop, (∀ a, PHI a → a = MZ) ∧ wpO (F_Well_takeFrom b o1 M) PHI := ⟨fun a => a = MZ, fun _ h => h, _, h, rfl⟩
  unfold F_Well_takeFrom at h
  refine G_aload_n rfl 0 rfl K dX10_takeFrom_0 ?_
  refine G_aload_n rfl 1 rfl K dX10_takeFrom_1 ?_
  refine G_get (ci := 10) (k := 0) K rfl in_X10 wd_56 rfl dX10_takeFrom_2 ho1.1 (ho1.2.1 _ _) (Nat.le_of_ble_eq_true rfl) rfl ?_
  refine G_putI (ci := 10) (k := 0) (ty := .int) K rfl in_X10 tyX10 tyX10_ok nmX10 wd_56 rfl rfl rfl rfl rfl dX10_takeFrom_5 hb.1 (hb.2.1 _ _) (hb.2.1 _ _) (Nat.le_of_ble_eq_true rfl) (Nat.le_of_ble_eq_true rfl) (put_10_0 g _ _ _) ?_
  refine G_aload_n rfl 0 rfl K dX10_takeFrom_8 ?_
  refine G_aload_n rfl 1 rfl K dX10_takeFrom_9 ?_
  refine G_get (ci := 10) (k := 1) K rfl in_X10 wd_61 rfl dX10_takeFrom_10 ho1.1 (ho1.2.1 _ _) (Nat.le_of_ble_eq_true rfl) rfl ?_
  refine G_putI (ci := 10) (k := 1) (ty := .int) K rfl in_X10 tyX10 tyX10_ok nmX10 wd_61 rfl rfl rfl rfl rfl dX10_takeFrom_13 hb.1 (hb.2.1 _ _) (hb.2.1 _ _) (Nat.le_of_ble_eq_true rfl) (Nat.le_of_ble_eq_true rfl) (put_10_1 g _ _ _) ?_
  refine G_aload_n rfl 0 rfl K dX10_takeFrom_16 ?_
  refine G_aload_n rfl 1 rfl K dX10_takeFrom_17 ?_
  refine G_get (ci := 10) (k := 2) K rfl in_X10 wd_67 rfl dX10_takeFrom_18 ho1.1 (ho1.2.1 _ _) (Nat.le_of_ble_eq_true rfl) rfl ?_
  refine G_putI (ci := 10) (k := 2) (ty := .int) K rfl in_X10 tyX10 tyX10_ok nmX10 wd_67 rfl rfl rfl rfl rfl dX10_takeFrom_21 hb.1 (hb.2.1 _ _) (hb.2.1 _ _) (Nat.le_of_ble_eq_true rfl) (Nat.le_of_ble_eq_true rfl) (put_10_2 g _ _ _) ?_
  refine G_aload_n rfl 0 rfl K dX10_takeFrom_24 ?_
  refine G_aload_n rfl 1 rfl K dX10_takeFrom_25 ?_
  refine G_get (ci := 10) (k := 3) K rfl in_X10 wd_73 rfl dX10_takeFrom_26 ho1.1 (ho1.2.1 _ _) (Nat.le_of_ble_eq_true rfl) rfl ?_
  refine G_putI (ci := 10) (k := 3) (ty := .int) K rfl in_X10 tyX10 tyX10_ok nmX10 wd_73 rfl rfl rfl rfl rfl dX10_takeFrom_29 hb.1 (hb.2.1 _ _) (hb.2.1 _ _) (Nat.le_of_ble_eq_true rfl) (Nat.le_of_ble_eq_true rfl) (put_10_3 g _ _ _) ?_
  refine G_aload_n rfl 0 rfl K dX10_takeFrom_32 ?_
  refine G_aload_n rfl 1 rfl K dX10_takeFrom_33 ?_
  refine G_get (ci := 10) (k := 4) K rfl in_X10 wd_77 rfl dX10_takeFrom_34 ho1.1 (ho1.2.1 _ _) (Nat.le_of_ble_eq_true rfl) rfl ?_
  refine G_putI (ci := 10) (k := 4) (ty := .int) K rfl in_X10 tyX10 tyX10_ok nmX10 wd_77 rfl rfl rfl rfl rfl dX10_takeFrom_37 hb.1 (hb.2.1 _ _) (hb.2.1 _ _) (Nat.le_of_ble_eq_true rfl) (Nat.le_of_ble_eq_true rfl) (put_10_4 g _ _ _) ?_
  refine G_aload_n rfl 0 rfl K dX10_takeFrom_40 ?_
  refine G_aload_n rfl 1 rfl K dX10_takeFrom_41 ?_
  refine G_get (ci := 10) (k := 5) K rfl in_X10 wd_81 rfl dX10_takeFrom_42 ho1.1 (ho1.2.1 _ _) (Nat.le_of_ble_eq_true rfl) rfl ?_
  refine G_putI (ci := 10) (k := 5) (ty := .int) K rfl in_X10 tyX10 tyX10_ok nmX10 wd_81 rfl rfl rfl rfl rfl dX10_takeFrom_45 hb.1 (hb.2.1 _ _) (hb.2.1 _ _) (Nat.le_of_ble_eq_true rfl) (Nat.le_of_ble_eq_true rfl) (put_10_5 g _ _ _) ?_
  refine G_aload_n rfl 0 rfl K dX10_takeFrom_48 ?_
  refine G_aload_n rfl 1 rfl K dX10_takeFrom_49 ?_
  refine G_get (ci := 10) (k := 6) K rfl in_X10 wd_84 rfl dX10_takeFrom_50 ho1.1 (ho1.2.1 _ _) (Nat.le_of_ble_eq_true rfl) rfl ?_
  refine G_putI (ci := 10) (k := 6) (ty := .int) K rfl in_X10 tyX10 tyX10_ok nmX10 wd_84 rfl rfl rfl rfl rfl dX10_takeFrom_53 hb.1 (hb.2.1 _ _) (hb.2.1 _ _) (Nat.le_of_ble_eq_true rfl) (Nat.le_of_ble_eq_true rfl) (put_10_6 g _ _ _) ?_
  refine G_aload_n rfl 0 rfl K dX10_takeFrom_56 ?_
  refine G_aload_n rfl 1 rfl K dX10_takeFrom_57 ?_
  refine G_get (ci := 10) (k := 7) K rfl in_X10 wd_88 rfl dX10_takeFrom_58 ho1.1 (ho1.2.1 _ _) (Nat.le_of_ble_eq_true rfl) rfl ?_
  refine G_putI (ci := 10) (k := 7) (ty := .int) K rfl in_X10 tyX10 tyX10_ok nmX10 wd_88 rfl rfl rfl rfl rfl dX10_takeFrom_61 hb.1 (hb.2.1 _ _) (hb.2.1 _ _) (Nat.le_of_ble_eq_true rfl) (Nat.le_of_ble_eq_true rfl) (put_10_7 g _ _ _) ?_
  refine G_aload_n rfl 0 rfl K dX10_takeFrom_64 ?_
  refine G_aload_n rfl 1 rfl K dX10_takeFrom_65 ?_
  refine G_get (ci := 10) (k := 8) K rfl in_X10 wd_91 rfl dX10_takeFrom_66 ho1.1 (ho1.2.1 _ _) (Nat.le_of_ble_eq_true rfl) rfl ?_
  refine G_putI (ci := 10) (k := 8) (ty := .int) K rfl in_X10 tyX10 tyX10_ok nmX10 wd_91 rfl rfl rfl rfl rfl dX10_takeFrom_69 hb.1 (hb.2.1 _ _) (hb.2.1 _ _) (Nat.le_of_ble_eq_true rfl) (Nat.le_of_ble_eq_true rfl) (put_10_8 g _ _ _) ?_
  refine G_aload_n rfl 0 rfl K dX10_takeFrom_72 ?_
  refine G_get (ci := 10) (k := 9) K rfl in_X10 wd_94 rfl dX10_takeFrom_73 hb.1 (hb.2.1 _ _) (Nat.le_of_ble_eq_true rfl) rfl ?_
  refine G_aload_n rfl 1 rfl K dX10_takeFrom_76 ?_
  refine G_get (ci := 10) (k := 9) K rfl in_X10 wd_94 rfl dX10_takeFrom_77 ho1.1 (ho1.2.1 _ _) (Nat.le_of_ble_eq_true rfl) rfl ?_
  obtain ⟨r1, e1, h⟩ := wpO_bind h
  refine G_callVv (ci := 7) [.ref (g.2.1 ((o1 + 1)))] [] K dX10_takeFrom_80 wv_624 yd_X7_takeFrom hb.2.2.1.1 (hb.2.2.1.2.2.1 _ _) rfl (by decide) (by decide) rfl rfl (Nat.le_of_ble_eq_true rfl) (K_Row_takeFrom l g htr ((b + 1)) ((b + 2)) 18 ((o1 + 1)) ((o1 + 2)) 18 hb.2.2.1 ho1.2.2.1 (mSI (mSI (mSI (mSI (mSI (mSI (mSI (mSI (mSI M b 0 (M.1 o1 0)) b 1 ((mSI M b 0 (M.1 o1 0)).1 o1 1)) b 2 ((mSI (mSI M b 0 (M.1 o1 0)) b 1 ((mSI M b 0 (M.1 o1 0)).1 o1 1)).1 o1 2)) b 3 ((mSI (mSI (mSI M b 0 (M.1 o1 0)) b 1 ((mSI M b 0 (M.1 o1 0)).1 o1 1)) b 2 ((mSI (mSI M b 0 (M.1 o1 0)) b 1 ((mSI M b 0 (M.1 o1 0)).1 o1 1)).1 o1 2)).1 o1 3)) b 4 ((mSI (mSI (mSI (mSI M b 0 (M.1 o1 0)) b 1 ((mSI M b 0 (M.1 o1 0)).1 o1 1)) b 2 ((mSI (mSI M b 0 (M.1 o1 0)) b 1 ((mSI M b 0 (M.1 o1 0)).1 o1 1)).1 o1 2)) b 3 ((mSI (mSI (mSI M b 0 (M.1 o1 0)) b 1 ((mSI M b 0 (M.1 o1 0)).1 o1 1)) b 2 ((mSI (mSI M b 0 (M.1 o1 0)) b 1 ((mSI M b 0 (M.1 o1 0)).1 o1 1)).1 o1 2)).1 o1 3)).1 o1 4)) b 5 ((mSI (mSI (mSI (mSI (mSI M b 0 (M.1 o1 0)) b 1 ((mSI M b 0 (M.1 o1 0)).1 o1 1)) b 2 ((mSI (mSI M b 0 (M.1 o1 0)) b 1 ((mSI M b 0 (M.1 o1 0)).1 o1 1)).1 o1 2)) b 3 ((mSI (mSI (mSI M b 0 (M.1 o1 0)) b 1 ((mSI M b 0 (M.1 o1 0)).1 o1 1)) b 2 ((mSI (mSI M b 0 (M.1 o1 0)) b 1 ((mSI M b 0 (M.1 o1 0)).1 o1 1)).1 o1 2)).1 o1 3)) b 4 ((mSI (mSI (mSI (mSI M b 0 (M.1 o1 0)) b 1 ((mSI M b 0 (M.1 o1 0)).1 o1 1)) b 2 ((mSI (mSI M b 0 (M.1 o1 0)) b 1 ((mSI M b 0 (M.1 o1 0)).1 o1 1)).1 o1 2)) b 3 ((mSI (mSI (mSI M b 0 (M.1 o1 0)) b 1 ((mSI M b 0 (M.1 o1 0)).1 o1 1)) b 2 ((mSI (mSI M b 0 (M.1 o1 0)) b 1 ((mSI M b 0 (M.1 o1 0)).1 o1 1)).1 o1 2)).1 o1 3)).1 o1 4)).1 o1 5)) b 6 ((mSI (mSI (mSI (mSI (mSI (mSI M b 0 (M.1 o1 0)) b 1 ((mSI M b 0 (M.1 o1 0)).1 o1 1)) b 2 ((mSI (mSI M b 0 (M.1 o1 0)) b 1 ((mSI M b 0 (M.1 o1 0)).1 o1 1)).1 o1 2)) b 3 ((mSI (mSI (mSI M b 0 (M.1 o1 0)) b 1 ((mSI M b 0 (M.1 o1 0)).1 o1 1)) b 2 ((mSI (mSI M b 0 (M.1 o1 0)) b 1 ((mSI M b 0 (M.1 o1 0)).1 o1 1)).1 o1 2)).1 o1 3)) b 4 ((mSI (mSI (mSI (mSI M b 0 (M.1 o1 0)) b 1 ((mSI M b 0 (M.1 o1 0)).1 o1 1)) b 2 ((mSI (mSI M b 0 (M.1 o1 0)) b 1 ((mSI M b 0 (M.1 o1 0)).1 o1 1)).1 o1 2)) b 3 ((mSI (mSI (mSI M b 0 (M.1 o1 0)) b 1 ((mSI M b 0 (M.1 o1 0)).1 o1 1)) b 2 ((mSI (mSI M b 0 (M.1 o1 0)) b 1 ((mSI M b 0 (M.1 o1 0)).1 o1 1)).1 o1 2)).1 o1 3)).1 o1 4)) b 5 ((mSI (mSI (mSI (mSI (mSI M b 0 (M.1 o1 0)) b 1 ((mSI M b 0 (M.1 o1 0)).1 o1 1)) b 2 ((mSI (mSI M b 0 (M.1 o1 0)) b 1 ((mSI M b 0 (M.1 o1 0)).1 o1 1)).1 o1 2)) b 3 ((mSI (mSI (mSI M b 0 (M.1 o1 0)) b 1 ((mSI M b 0 (M.1 o1 0)).1 o1 1)) b 2 ((mSI (mSI M b 0 (M.1 o1 0)) b 1 ((mSI M b 0 (M.1 o1 0)).1 o1 1)).1 o1 2)).1 o1 3)) b 4 ((mSI (mSI (mSI (mSI M b 0 (M.1 o1 0)) b 1 ((mSI M b 0 (M.1 o1 0)).1 o1 1)) b 2 ((mSI (mSI M b 0 (M.1 o1 0)) b 1 ((mSI M b 0 (M.1 o1 0)).1 o1 1)).1 o1 2)) b 3 ((mSI (mSI (mSI M b 0 (M.1 o1 0)) b 1 ((mSI M b 0 (M.1 o1 0)).1 o1 1)) b 2 ((mSI (mSI M b 0 (M.1 o1 0)) b 1 ((mSI M b 0 (M.1 o1 0)).1 o1 1)).1 o1 2)).1 o1 3)).1 o1 4)).1 o1 5)).1 o1 6)) b 7 ((mSI (mSI (mSI (mSI (mSI (mSI (mSI M b 0 (M.1 o1 0)) b 1 ((mSI M b 0 (M.1 o1 0)).1 o1 1)) b 2 ((mSI (mSI M b 0 (M.1 o1 0)) b 1 ((mSI M b 0 (M.1 o1 0)).1 o1 1)).1 o1 2)) b 3 ((mSI (mSI (mSI M b 0 (M.1 o1 0)) b 1 ((mSI M b 0 (M.1 o1 0)).1 o1 1)) b 2 ((mSI (mSI M b 0 (M.1 o1 0)) b 1 ((mSI M b 0 (M.1 o1 0)).1 o1 1)).1 o1 2)).1 o1 3)) b 4 ((mSI (mSI (mSI (mSI M b 0 (M.1 o1 0)) b 1 ((mSI M b 0 (M.1 o1 0)).1 o1 1)) b 2 ((mSI (mSI M b 0 (M.1 o1 0)) b 1 ((mSI M b 0 (M.1 o1 0)).1 o1 1)).1 o1 2)) b 3 ((mSI (mSI (mSI M b 0 (M.1 o1 0)) b 1 ((mSI M b 0 (M.1 o1 0)).1 o1 1)) b 2 ((mSI (mSI M b 0 (M.1 o1 0)) b 1 ((mSI M b 0 (M.1 o1 0)).1 o1 1)).1 o1 2)).1 o1 3)).1 o1 4)) b 5 ((mSI (mSI (mSI (mSI (mSI M b 0 (M.1 o1 0)) b 1 ((mSI M b 0 (M.1 o1 0)).1 o1 1)) b 2 ((mSI (mSI M b 0 (M.1 o1 0)) b 1 ((mSI M b 0 (M.1 o1 0)).1 o1 1)).1 o1 2)) b 3 ((mSI (mSI (mSI M b 0 (M.1 o1 0)) b 1 ((mSI M b 0 (M.1 o1 0)).1 o1 1)) b 2 ((mSI (mSI M b 0 (M.1 o1 0)) b 1 ((mSI M b 0 (M.1 o1 0)).1 o1 1)).1 o1 2)).1 o1 3)) b 4 ((mSI (mSI (mSI (mSI M b 0 (M.1 o1 0)) b 1 ((mSI M b 0 (M.1 o1 0)).1 o1 1)) b 2 ((mSI (mSI M b 0 (M.1 o1 0)) b 1 ((mSI M b 0 (M.1 o1 0)).1 o1 1)).1 o1 2)) b 3 ((mSI (mSI (mSI M b 0 (M.1 o1 0)) b 1 ((mSI M b 0 (M.1 o1 0)).1 o1 1)) b 2 ((mSI (mSI M b 0 (M.1 o1 0)) b 1 ((mSI M b 0 (M.1 o1 0)).1 o1 1)).1 o1 2)).1 o1 3)).1 o1 4)).1 o1 5)) b 6 ((mSI (mSI (mSI (mSI (mSI (mSI M b 0 (M.1 o1 0)) b 1 ((mSI M b 0 (M.1 o1 0)).1 o1 1)) b 2 ((mSI (mSI M b 0 (M.1 o1 0)) b 1 ((mSI M b 0 (M.1 o1 0)).1 o1 1)).1 o1 2)) b 3 ((mSI (mSI (mSI M b 0 (M.1 o1 0)) b 1 ((mSI M b 0 (M.1 o1 0)).1 o1 1)) b 2 ((mSI (mSI M b 0 (M.1 o1 0)) b 1 ((mSI M b 0 (M.1 o1 0)).1 o1 1)).1 o1 2)).1 o1 3)) b 4 ((mSI (mSI (mSI (mSI M b 0 (M.1 o1 0)) b 1 ((mSI M b 0 (M.1 o1 0)).1 o1 1)) b 2 ((mSI (mSI M b 0 (M.1 o1 0)) b 1 ((mSI M b 0 (M.1 o1 0)).1 o1 1)).1 o1 2)) b 3 ((mSI (mSI (mSI M b 0 (M.1 o1 0)) b 1 ((mSI M b 0 (M.1 o1 0)).1 o1 1)) b 2 ((mSI (mSI M b 0 (M.1 o1 0)) b 1 ((mSI M b 0 (M.1 o1 0)).1 o1 1)).1 o1 2)).1 o1 3)).1 o1 4)) b 5 ((mSI (mSI (mSI (mSI (mSI M b 0 (M.1 o1 0)) b 1 ((mSI M b 0 (M.1 o1 0)).1 o1 1)) b 2 ((mSI (mSI M b 0 (M.1 o1 0)) b 1 ((mSI M b 0 (M.1 o1 0)).1 o1 1)).1 o1 2)) b 3 ((mSI (mSI (mSI M b 0 (M.1 o1 0)) b 1 ((mSI M b 0 (M.1 o1 0)).1 o1 1)) b 2 ((mSI (mSI M b 0 (M.1 o1 0)) b 1 ((mSI M b 0 (M.1 o1 0)).1 o1 1)).1 o1 2)).1 o1 3)) b 4 ((mSI (mSI (mSI (mSI M b 0 (M.1 o1 0)) b 1 ((mSI M b 0 (M.1 o1 0)).1 o1 1)) b 2 ((mSI (mSI M b 0 (M.1 o1 0)) b 1 ((mSI M b 0 (M.1 o1 0)).1 o1 1)).1 o1 2)) b 3 ((mSI (mSI (mSI M b 0 (M.1 o1 0)) b 1 ((mSI M b 0 (M.1 o1 0)).1 o1 1)) b 2 ((mSI (mSI M b 0 (M.1 o1 0)) b 1 ((mSI M b 0 (M.1 o1 0)).1 o1 1)).1 o1 2)).1 o1 3)).1 o1 4)).1 o1 5)).1 o1 6)).1 o1 7)) b 8 ((mSI (mSI (mSI (mSI (mSI (mSI (mSI (mSI M b 0 (M.1 o1 0)) b 1 ((mSI M b 0 (M.1 o1 0)).1 o1 1)) b 2 ((mSI (mSI M b 0 (M.1 o1 0)) b 1 ((mSI M b 0 (M.1 o1 0)).1 o1 1)).1 o1 2)) b 3 ((mSI (mSI (mSI M b 0 (M.1 o1 0)) b 1 ((mSI M b 0 (M.1 o1 0)).1 o1 1)) b 2 ((mSI (mSI M b 0 (M.1 o1 0)) b 1 ((mSI M b 0 (M.1 o1 0)).1 o1 1)).1 o1 2)).1 o1 3)) b 4 ((mSI (mSI (mSI (mSI M b 0 (M.1 o1 0)) b 1 ((mSI M b 0 (M.1 o1 0)).1 o1 1)) b 2 ((mSI (mSI M b 0 (M.1 o1 0)) b 1 ((mSI M b 0 (M.1 o1 0)).1 o1 1)).1 o1 2)) b 3 ((mSI (mSI (mSI M b 0 (M.1 o1 0)) b 1 ((mSI M b 0 (M.1 o1 0)).1 o1 1)) b 2 ((mSI (mSI M b 0 (M.1 o1 0)) b 1 ((mSI M b 0 (M.1 o1 0)).1 o1 1)).1 o1 2)).1 o1 3)).1 o1 4)) b 5 ((mSI (mSI (mSI (mSI (mSI M b 0 (M.1 o1 0)) b 1 ((mSI M b 0 (M.1 o1 0)).1 o1 1)) b 2 ((mSI (mSI M b 0 (M.1 o1 0)) b 1 ((mSI M b 0 (M.1 o1 0)).1 o1 1)).1 o1 2)) b 3 ((mSI (mSI (mSI M b 0 (M.1 o1 0)) b 1 ((mSI M b 0 (M.1 o1 0)).1 o1 1)) b 2 ((mSI (mSI M b 0 (M.1 o1 0)) b 1 ((mSI M b 0 (M.1 o1 0)).1 o1 1)).1 o1 2)).1 o1 3)) b 4 ((mSI (mSI (mSI (mSI M b 0 (M.1 o1 0)) b 1 ((mSI M b 0 (M.1 o1 0)).1 o1 1)) b 2 ((mSI (mSI M b 0 (M.1 o1 0)) b 1 ((mSI M b 0 (M.1 o1 0)).1 o1 1)).1 o1 2)) b 3 ((mSI (mSI (mSI M b 0 (M.1 o1 0)) b 1 ((mSI M b 0 (M.1 o1 0)).1 o1 1)) b 2 ((mSI (mSI M b 0 (M.1 o1 0)) b 1 ((mSI M b 0 (M.1 o1 0)).1 o1 1)).1 o1 2)).1 o1 3)).1 o1 4)).1 o1 5)) b 6 ((mSI (mSI (mSI (mSI (mSI (mSI M b 0 (M.1 o1 0)) b 1 ((mSI M b 0 (M.1 o1 0)).1 o1 1)) b 2 ((mSI (mSI M b 0 (M.1 o1 0)) b 1 ((mSI M b 0 (M.1 o1 0)).1 o1 1)).1 o1 2)) b 3 ((mSI (mSI (mSI M b 0 (M.1 o1 0)) b 1 ((mSI M b 0 (M.1 o1 0)).1 o1 1)) b 2 ((mSI (mSI M b 0 (M.1 o1 0)) b 1 ((mSI M b 0 (M.1 o1 0)).1 o1 1)).1 o1 2)).1 o1 3)) b 4 ((mSI (mSI (mSI (mSI M b 0 (M.1 o1 0)) b 1 ((mSI M b 0 (M.1 o1 0)).1 o1 1)) b 2 ((mSI (mSI M b 0 (M.1 o1 0)) b 1 ((mSI M b 0 (M.1 o1 0)).1 o1 1)).1 o1 2)) b 3 ((mSI (mSI (mSI M b 0 (M.1 o1 0)) b 1 ((mSI M b 0 (M.1 o1 0)).1 o1 1)) b 2 ((mSI (mSI M b 0 (M.1 o1 0)) b 1 ((mSI M b 0 (M.1 o1 0)).1 o1 1)).1 o1 2)).1 o1 3)).1 o1 4)) b 5 ((mSI (mSI (mSI (mSI (mSI M b 0 (M.1 o1 0)) b 1 ((mSI M b 0 (M.1 o1 0)).1 o1 1)) b 2 ((mSI (mSI M b 0 (M.1 o1 0)) b 1 ((mSI M b 0 (M.1 o1 0)).1 o1 1)).1 o1 2)) b 3 ((mSI (mSI (mSI M b 0 (M.1 o1 0)) b 1 ((mSI M b 0 (M.1 o1 0)).1 o1 1)) b 2 ((mSI (mSI M b 0 (M.1 o1 0)) b 1 ((mSI M b 0 (M.1 o1 0)).1 o1 1)).1 o1 2)).1 o1 3)) b 4 ((mSI (mSI (mSI (mSI M b 0 (M.1 o1 0)) b 1 ((mSI M b 0 (M.1 o1 0)).1 o1 1)) b 2 ((mSI (mSI M b 0 (M.1 o1 0)) b 1 ((mSI M b 0 (M.1 o1 0)).1 o1 1)).1 o1 2)) b 3 ((mSI (mSI (mSI M b 0 (M.1 o1 0)) b 1 ((mSI M b 0 (M.1 o1 0)).1 o1 1)) b 2 ((mSI (mSI M b 0 (M.1 o1 0)) b 1 ((mSI M b 0 (M.1 o1 0)).1 o1 1)).1 o1 2)).1 o1 3)).1 o1 4)).1 o1 5)).1 o1 6)) b 7 ((mSI (mSI (mSI (mSI (mSI (mSI (mSI M b 0 (M.1 o1 0)) b 1 ((mSI M b 0 (M.1 o1 0)).1 o1 1)) b 2 ((mSI (mSI M b 0 (M.1 o1 0)) b 1 ((mSI M b 0 (M.1 o1 0)).1 o1 1)).1 o1 2)) b 3 ((mSI (mSI (mSI M b 0 (M.1 o1 0)) b 1 ((mSI M b 0 (M.1 o1 0)).1 o1 1)) b 2 ((mSI (mSI M b 0 (M.1 o1 0)) b 1 ((mSI M b 0 (M.1 o1 0)).1 o1 1)).1 o1 2)).1 o1 3)) b 4 ((mSI (mSI (mSI (mSI M b 0 (M.1 o1 0)) b 1 ((mSI M b 0 (M.1 o1 0)).1 o1 1)) b 2 ((mSI (mSI M b 0 (M.1 o1 0)) b 1 ((mSI M b 0 (M.1 o1 0)).1 o1 1)).1 o1 2)) b 3 ((mSI (mSI (mSI M b 0 (M.1 o1 0)) b 1 ((mSI M b 0 (M.1 o1 0)).1 o1 1)) b 2 ((mSI (mSI M b 0 (M.1 o1 0)) b 1 ((mSI M b 0 (M.1 o1 0)).1 o1 1)).1 o1 2)).1 o1 3)).1 o1 4)) b 5 ((mSI (mSI (mSI (mSI (mSI M b 0 (M.1 o1 0)) b 1 ((mSI M b 0 (M.1 o1 0)).1 o1 1)) b 2 ((mSI (mSI M b 0 (M.1 o1 0)) b 1 ((mSI M b 0 (M.1 o1 0)).1 o1 1)).1 o1 2)) b 3 ((mSI (mSI (mSI M b 0 (M.1 o1 0)) b 1 ((mSI M b 0 (M.1 o1 0)).1 o1 1)) b 2 ((mSI (mSI M b 0 (M.1 o1 0)) b 1 ((mSI M b 0 (M.1 o1 0)).1 o1 1)).1 o1 2)).1 o1 3)) b 4 ((mSI (mSI (mSI (mSI M b 0 (M.1 o1 0)) b 1 ((mSI M b 0 (M.1 o1 0)).1 o1 1)) b 2 ((mSI (mSI M b 0 (M.1 o1 0)) b 1 ((mSI M b 0 (M.1 o1 0)).1 o1 1)).1 o1 2)) b 3 ((mSI (mSI (mSI M b 0 (M.1 o1 0)) b 1 ((mSI M b 0 (M.1 o1 0)).1 o1 1)) b 2 ((mSI (mSI M b 0 (M.1 o1 0)) b 1 ((mSI M b 0 (M.1 o1 0)).1 o1 1)).1 o1 2)).1 o1 3)).1 o1 4)).1 o1 5)) b 6 ((mSI (mSI (mSI (mSI (mSI (mSI M b 0 (M.1 o1 0)) b 1 ((mSI M b 0 (M.1 o1 0)).1 o1 1)) b 2 ((mSI (mSI M b 0 (M.1 o1 0)) b 1 ((mSI M b 0 (M.1 o1 0)).1 o1 1)).1 o1 2)) b 3 ((mSI (mSI (mSI M b 0 (M.1 o1 0)) b 1 ((mSI M b 0 (M.1 o1 0)).1 o1 1)) b 2 ((mSI (mSI M b 0 (M.1 o1 0)) b 1 ((mSI M b 0 (M.1 o1 0)).1 o1 1)).1 o1 2)).1 o1 3)) b 4 ((mSI (mSI (mSI (mSI M b 0 (M.1 o1 0)) b 1 ((mSI M b 0 (M.1 o1 0)).1 o1 1)) b 2 ((mSI (mSI M b 0 (M.1 o1 0)) b 1 ((mSI M b 0 (M.1 o1 0)).1 o1 1)).1 o1 2)) b 3 ((mSI (mSI (mSI M b 0 (M.1 o1 0)) b 1 ((mSI M b 0 (M.1 o1 0)).1 o1 1)) b 2 ((mSI (mSI M b 0 (M.1 o1 0)) b 1 ((mSI M b 0 (M.1 o1 0)).1 o1 1)).1 o1 2)).1 o1 3)).1 o1 4)) b 5 ((mSI (mSI (mSI (mSI (mSI M b 0 (M.1 o1 0)) b 1 ((mSI M b 0 (M.1 o1 0)).1 o1 1)) b 2 ((mSI (mSI M b 0 (M.1 o1 0)) b 1 ((mSI M b 0 (M.1 o1 0)).1 o1 1)).1 o1 2)) b 3 ((mSI (mSI (mSI M b 0 (M.1 o1 0)) b 1 ((mSI M b 0 (M.1 o1 0)).1 o1 1)) b 2 ((mSI (mSI M b 0 (M.1 o1 0)) b 1 ((mSI M b 0 (M.1 o1 0)).1 o1 1)).1 o1 2)).1 o1 3)) b 4 ((mSI (mSI (mSI (mSI M b 0 (M.1 o1 0)) b 1 ((mSI M b 0 (M.1 o1 0)).1 o1 1)) b 2 ((mSI (mSI M b 0 (M.1 o1 0)) b 1 ((mSI M b 0 (M.1 o1 0)).1 o1 1)).1 o1 2)) b 3 ((mSI (mSI (mSI M b 0 (M.1 o1 0)) b 1 ((mSI M b 0 (M.1 o1 0)).1 o1 1)) b 2 ((mSI (mSI M b 0 (M.1 o1 0)) b 1 ((mSI M b 0 (M.1 o1 0)).1 o1 1)).1 o1 2)).1 o1 3)).1 o1 4)).1 o1 5)).1 o1 6)).1 o1 7)).1 o1 8)) _ e1) ?_
  refine G_aload_n rfl 0 rfl K dX10_takeFrom_83 ?_
  refine G_get (ci := 10) (k := 10) K rfl in_X10 wd_95 rfl dX10_takeFrom_84 hb.1 (hb.2.1 _ _) (Nat.le_of_ble_eq_true rfl) rfl ?_
  refine G_aload_n rfl 1 rfl K dX10_takeFrom_87 ?_
  refine G_get (ci := 10) (k := 10) K rfl in_X10 wd_95 rfl dX10_takeFrom_88 ho1.1 (ho1.2.1 _ _) (Nat.le_of_ble_eq_true rfl) rfl ?_
  obtain ⟨r2, e2, h⟩ := wpO_bind h
  refine G_callVv (ci := 7) [.ref (g.2.1 ((o1 + 3)))] [] K dX10_takeFrom_91 wv_624 yd_X7_takeFrom hb.2.2.2.1.1 (hb.2.2.2.1.2.2.1 _ _) rfl (by decide) (by decide) rfl rfl (Nat.le_of_ble_eq_true rfl) (K_Row_takeFrom l g htr ((b + 3)) ((b + 4)) 117 ((o1 + 3)) ((o1 + 4)) 117 hb.2.2.2.1 ho1.2.2.2.1 r1 _ e2) ?_
  refine G_aload_n rfl 0 rfl K dX10_takeFrom_94 ?_
  refine G_get (ci := 10) (k := 11) K rfl in_X10 wd_96 rfl dX10_takeFrom_95 hb.1 (hb.2.1 _ _) (Nat.le_of_ble_eq_true rfl) rfl ?_
  refine G_aload_n rfl 1 rfl K dX10_takeFrom_98 ?_
  refine G_get (ci := 10) (k := 11) K rfl in_X10 wd_96 rfl dX10_takeFrom_99 ho1.1 (ho1.2.1 _ _) (Nat.le_of_ble_eq_true rfl) rfl ?_
  obtain ⟨r3, e3, h⟩ := wpO_bind h
  refine G_callVv (ci := 7) [.ref (g.2.1 ((o1 + 5)))] [] K dX10_takeFrom_102 wv_624 yd_X7_takeFrom hb.2.2.2.2.1.1 (hb.2.2.2.2.1.2.2.1 _ _) rfl (by decide) (by decide) rfl rfl (Nat.le_of_ble_eq_true rfl) (K_Row_takeFrom l g htr ((b + 5)) ((b + 6)) 400 ((o1 + 5)) ((o1 + 6)) 400 hb.2.2.2.2.1 ho1.2.2.2.2.1 r2 _ e3) ?_
  refine G_aload_n rfl 0 rfl K dX10_takeFrom_105 ?_
  refine G_get (ci := 10) (k := 12) K rfl in_X10 wd_99 rfl dX10_takeFrom_106 hb.1 (hb.2.1 _ _) (Nat.le_of_ble_eq_true rfl) rfl ?_
  refine G_aload_n rfl 1 rfl K dX10_takeFrom_109 ?_
  refine G_get (ci := 10) (k := 12) K rfl in_X10 wd_99 rfl dX10_takeFrom_110 ho1.1 (ho1.2.1 _ _) (Nat.le_of_ble_eq_true rfl) rfl ?_
  obtain ⟨r4, e4, h⟩ := wpO_bind h
  refine G_callVv (ci := 7) [.ref (g.2.1 ((o1 + 7)))] [] K dX10_takeFrom_113 wv_624 yd_X7_takeFrom hb.2.2.2.2.2.1.1 (hb.2.2.2.2.2.1.2.2.1 _ _) rfl (by decide) (by decide) rfl rfl (Nat.le_of_ble_eq_true rfl) (K_Row_takeFrom l g htr ((b + 7)) ((b + 8)) 8 ((o1 + 7)) ((o1 + 8)) 8 hb.2.2.2.2.2.1 ho1.2.2.2.2.2.1 r3 _ e4) ?_
  refine G_aload_n rfl 0 rfl K dX10_takeFrom_116 ?_
  refine G_get (ci := 10) (k := 13) K rfl in_X10 wd_102 rfl dX10_takeFrom_117 hb.1 (hb.2.1 _ _) (Nat.le_of_ble_eq_true rfl) rfl ?_
  refine G_aload_n rfl 1 rfl K dX10_takeFrom_120 ?_
  refine G_get (ci := 10) (k := 13) K rfl in_X10 wd_102 rfl dX10_takeFrom_121 ho1.1 (ho1.2.1 _ _) (Nat.le_of_ble_eq_true rfl) rfl ?_
  obtain ⟨r5, e5, h⟩ := wpO_bind h
  refine G_callVv (ci := 7) [.ref (g.2.1 ((o1 + 9)))] [] K dX10_takeFrom_124 wv_624 yd_X7_takeFrom hb.2.2.2.2.2.2.1.1 (hb.2.2.2.2.2.2.1.2.2.1 _ _) rfl (by decide) (by decide) rfl rfl (Nat.le_of_ble_eq_true rfl) (K_Row_takeFrom l g htr ((b + 9)) ((b + 10)) 6 ((o1 + 9)) ((o1 + 10)) 6 hb.2.2.2.2.2.2.1 ho1.2.2.2.2.2.2.1 r4 _ e5) ?_
  refine G_aload_n rfl 0 rfl K dX10_takeFrom_127 ?_
  refine G_get (ci := 10) (k := 14) K rfl in_X10 wd_105 rfl dX10_takeFrom_128 hb.1 (hb.2.1 _ _) (Nat.le_of_ble_eq_true rfl) rfl ?_
  refine G_aload_n rfl 1 rfl K dX10_takeFrom_131 ?_
  refine G_get (ci := 10) (k := 14) K rfl in_X10 wd_105 rfl dX10_takeFrom_132 ho1.1 (ho1.2.1 _ _) (Nat.le_of_ble_eq_true rfl) rfl ?_
  obtain ⟨r6, e6, h⟩ := wpO_bind h
  refine G_callVv (ci := 7) [.ref (g.2.1 ((o1 + 11)))] [] K dX10_takeFrom_135 wv_624 yd_X7_takeFrom hb.2.2.2.2.2.2.2.1 (hb.2.2.2.2.2.2.2.2.2.1 _ _) rfl (by decide) (by decide) rfl rfl (Nat.le_of_ble_eq_true rfl) (K_Row_takeFrom l g htr ((b + 11)) ((b + 12)) 6 ((o1 + 11)) ((o1 + 12)) 6 hb.2.2.2.2.2.2.2 ho1.2.2.2.2.2.2.2 r5 _ e6) ?_
  cases hPHI _ (wpO_some h)
  exact G_vret K hr dX10_takeFrom_138 (Nat.le_of_ble_eq_true rfl) (Nat.le_of_ble_eq_true rfl) ⟨rfl, rfl⟩
theorem wv_754 : wdV "KeptWell$Well" 67 yX7_put cX7_put 4 none := ⟨wd_754, wd_452, wd_453, wd_3, wd_454⟩
def on_X10_setBrings : Nat := 0xb14300b6850415600468601c681b06052a00b42a4300b6851d68601c681b06052a00b42a
theorem ob_X10_setBrings : OKB cX10_setBrings on_X10_setBrings 36 := ⟨by decide +kernel, by decide +kernel⟩
theorem dX10_setBrings_0 : dc cX10_setBrings 0 1 (.aload_n 0) 1 := o_42 ob_X10_setBrings rfl rfl rfl
theorem dX10_setBrings_1 : dc cX10_setBrings 1 4 (.getfield 42) 3 := o_180 ob_X10_setBrings rfl rfl rfl rfl
theorem dX10_setBrings_4 : dc cX10_setBrings 4 5 (.iconst 2) 1 := o_5 ob_X10_setBrings rfl rfl rfl
theorem dX10_setBrings_5 : dc cX10_setBrings 5 6 (.iconst 3) 1 := o_6 ob_X10_setBrings rfl rfl rfl
theorem dX10_setBrings_6 : dc cX10_setBrings 6 7 (.iload_n 1) 1 := o_27 ob_X10_setBrings rfl rfl rfl
theorem dX10_setBrings_7 : dc cX10_setBrings 7 8 .imul 1 := o_104 ob_X10_setBrings rfl rfl rfl
theorem dX10_setBrings_8 : dc cX10_setBrings 8 9 (.iload_n 2) 1 := o_28 ob_X10_setBrings rfl rfl rfl
theorem dX10_setBrings_9 : dc cX10_setBrings 9 10 .iadd 1 := o_96 ob_X10_setBrings rfl rfl rfl
theorem dX10_setBrings_10 : dc cX10_setBrings 10 11 .imul 1 := o_104 ob_X10_setBrings rfl rfl rfl
theorem dX10_setBrings_11 : dc cX10_setBrings 11 12 (.iload_n 3) 1 := o_29 ob_X10_setBrings rfl rfl rfl
theorem dX10_setBrings_12 : dc cX10_setBrings 12 13 .i2l 1 := o_133 ob_X10_setBrings rfl rfl rfl
theorem dX10_setBrings_13 : dc cX10_setBrings 13 16 (.invokevirtual 67) 3 := o_182 ob_X10_setBrings rfl rfl rfl rfl
theorem dX10_setBrings_16 : dc cX10_setBrings 16 17 (.aload_n 0) 1 := o_42 ob_X10_setBrings rfl rfl rfl
theorem dX10_setBrings_17 : dc cX10_setBrings 17 20 (.getfield 42) 3 := o_180 ob_X10_setBrings rfl rfl rfl rfl
theorem dX10_setBrings_20 : dc cX10_setBrings 20 21 (.iconst 2) 1 := o_5 ob_X10_setBrings rfl rfl rfl
theorem dX10_setBrings_21 : dc cX10_setBrings 21 22 (.iconst 3) 1 := o_6 ob_X10_setBrings rfl rfl rfl
theorem dX10_setBrings_22 : dc cX10_setBrings 22 23 (.iload_n 1) 1 := o_27 ob_X10_setBrings rfl rfl rfl
theorem dX10_setBrings_23 : dc cX10_setBrings 23 24 .imul 1 := o_104 ob_X10_setBrings rfl rfl rfl
theorem dX10_setBrings_24 : dc cX10_setBrings 24 25 (.iload_n 2) 1 := o_28 ob_X10_setBrings rfl rfl rfl
theorem dX10_setBrings_25 : dc cX10_setBrings 25 26 .iadd 1 := o_96 ob_X10_setBrings rfl rfl rfl
theorem dX10_setBrings_26 : dc cX10_setBrings 26 27 .imul 1 := o_104 ob_X10_setBrings rfl rfl rfl
theorem dX10_setBrings_27 : dc cX10_setBrings 27 28 (.iconst 1) 1 := o_4 ob_X10_setBrings rfl rfl rfl
theorem dX10_setBrings_28 : dc cX10_setBrings 28 29 .iadd 1 := o_96 ob_X10_setBrings rfl rfl rfl
theorem dX10_setBrings_29 : dc cX10_setBrings 29 31 (.iload 4) 2 := o_21 ob_X10_setBrings rfl rfl rfl rfl
theorem dX10_setBrings_31 : dc cX10_setBrings 31 32 .i2l 1 := o_133 ob_X10_setBrings rfl rfl rfl
theorem dX10_setBrings_32 : dc cX10_setBrings 32 35 (.invokevirtual 67) 3 := o_182 ob_X10_setBrings rfl rfl rfl rfl
theorem dX10_setBrings_35 : dc cX10_setBrings 35 36 .return_ 1 := o_177 ob_X10_setBrings rfl rfl rfl
def F_Well_setBrings (x1 : Int32) (x2 : Int32) (x3 : Int32) (x4 : Int32) (M : Mem) : Option (Mem) :=
  (F_Row_put 3 18 (2 * ((3 * x1) + x2)) x3.toInt64 M).bind fun r1 => (F_Row_put 3 18 ((2 * ((3 * x1) + x2)) + 1) x4.toInt64 r1).bind fun r2 => some r2
set_option maxRecDepth 100000 in
set_option maxHeartbeats 4000000 in
theorem K_Well_setBrings (l : Launch) (g : GB) (htr : l.stackTraces = false) (x1 : Int32) (x2 : Int32) (x3 : Int32) (x4 : Int32) (M : Mem) (MZ : Mem) (h : F_Well_setBrings x1 x2 x3 x4 M = some MZ) : CT l g yX10_setBrings (.code yX10_setBrings cX10_setBrings 5 none :: wAll) { frames := 1, cells := 0, slots := 0, locals := 23 } [.ref (g.2.1 1), .int x1, .int x2, .int x3, .int x4] M (.inl none) MZ := by
  refine CT.of [(0, .ref (g.2.1 1)), (1, .int x1), (2, .int x2), (3, .int x3), (4, .int x4)] (by decide +kernel) (Nat.le_of_ble_eq_true rfl) rfl htr ?_
  intro p e s m args below meth c K hr ht
  skip
  obtain ⟨PHI, hPHI, h⟩ : ∃ PHI : Mem → Prop, (∀ a, PHI a → a = MZ) ∧ wpO (F_Well_setBrings x1 x2 x3 x4 M) PHI := ⟨fun a => a = MZ, fun _ h => h, _, h, rfl⟩
  unfold F_Well_setBrings at h
  refine G_aload_n rfl 0 rfl K dX10_setBrings_0 ?_
  refine G_get (ci := 10) (k := 9) K rfl in_X10 wd_94 rfl dX10_setBrings_1 (Nat.le_of_ble_eq_true rfl) (sh_1 _ _) (Nat.le_of_ble_eq_true rfl) rfl ?_
  refine G_iconst (v := 2) rfl K dX10_setBrings_4 ?_
  refine G_iconst (v := 3) rfl K dX10_setBrings_5 ?_
  refine G_iload_n rfl 1 rfl K dX10_setBrings_6 ?_
  refine G_imul K dX10_setBrings_7 ?_
  refine G_iload_n rfl 2 rfl K dX10_setBrings_8 ?_
  refine G_iadd K dX10_setBrings_9 ?_
  refine G_imul K dX10_setBrings_10 ?_
  refine G_iload_n rfl 3 rfl K dX10_setBrings_11 ?_
  refine G_i2l K dX10_setBrings_12 ?_
  obtain ⟨r1, e1, h⟩ := wpO_bind h
  refine G_callVv (ci := 7) [.int (2 * ((3 * x1) + x2)), .long x3.toInt64] [] K dX10_setBrings_13 wv_754 yd_X7_put (Nat.le_of_ble_eq_true rfl) (sh_2 _ _) rfl (by decide) (by decide) rfl rfl (Nat.le_of_ble_eq_true rfl) (K_Row_put l g htr 2 3 18 isRow_2 (2 * ((3 * x1) + x2)) x3.toInt64 M _ e1) ?_
  refine G_aload_n rfl 0 rfl K dX10_setBrings_16 ?_
  refine G_get (ci := 10) (k := 9) K rfl in_X10 wd_94 rfl dX10_setBrings_17 (Nat.le_of_ble_eq_true rfl) (sh_1 _ _) (Nat.le_of_ble_eq_true rfl) rfl ?_
  refine G_iconst (v := 2) rfl K dX10_setBrings_20 ?_
  refine G_iconst (v := 3) rfl K dX10_setBrings_21 ?_
  refine G_iload_n rfl 1 rfl K dX10_setBrings_22 ?_
  refine G_imul K dX10_setBrings_23 ?_
  refine G_iload_n rfl 2 rfl K dX10_setBrings_24 ?_
  refine G_iadd K dX10_setBrings_25 ?_
  refine G_imul K dX10_setBrings_26 ?_
  refine G_iconst (v := 1) rfl K dX10_setBrings_27 ?_
  refine G_iadd K dX10_setBrings_28 ?_
  refine G_iload 4 rfl K dX10_setBrings_29 ?_
  refine G_i2l K dX10_setBrings_31 ?_
  obtain ⟨r2, e2, h⟩ := wpO_bind h
  refine G_callVv (ci := 7) [.int ((2 * ((3 * x1) + x2)) + 1), .long x4.toInt64] [] K dX10_setBrings_32 wv_754 yd_X7_put (Nat.le_of_ble_eq_true rfl) (sh_2 _ _) rfl (by decide) (by decide) rfl rfl (Nat.le_of_ble_eq_true rfl) (K_Row_put l g htr 2 3 18 isRow_2 ((2 * ((3 * x1) + x2)) + 1) x4.toInt64 r1 _ e2) ?_
  cases hPHI _ (wpO_some h)
  exact G_vret K hr dX10_setBrings_35 (Nat.le_of_ble_eq_true rfl) (Nat.le_of_ble_eq_true rfl) ⟨rfl, rfl⟩
theorem yd_X7_small : ydN yX7_small 1 := ⟨by decide, by decide, by decide +kernel⟩
theorem wv_479 : wdV "KeptWell$Well" 71 yX7_small cX7_small 2 (some .int) := ⟨wd_479, wd_480, wd_481, wd_3, wd_482⟩
def on_X10_bringsTo : Nat := 0xac4700b6601b68601d681c06052a00b42a
theorem ob_X10_bringsTo : OKB cX10_bringsTo on_X10_bringsTo 17 := ⟨by decide +kernel, by decide +kernel⟩
theorem dX10_bringsTo_0 : dc cX10_bringsTo 0 1 (.aload_n 0) 1 := o_42 ob_X10_bringsTo rfl rfl rfl
theorem dX10_bringsTo_1 : dc cX10_bringsTo 1 4 (.getfield 42) 3 := o_180 ob_X10_bringsTo rfl rfl rfl rfl
theorem dX10_bringsTo_4 : dc cX10_bringsTo 4 5 (.iconst 2) 1 := o_5 ob_X10_bringsTo rfl rfl rfl
theorem dX10_bringsTo_5 : dc cX10_bringsTo 5 6 (.iconst 3) 1 := o_6 ob_X10_bringsTo rfl rfl rfl
theorem dX10_bringsTo_6 : dc cX10_bringsTo 6 7 (.iload_n 2) 1 := o_28 ob_X10_bringsTo rfl rfl rfl
theorem dX10_bringsTo_7 : dc cX10_bringsTo 7 8 .imul 1 := o_104 ob_X10_bringsTo rfl rfl rfl
theorem dX10_bringsTo_8 : dc cX10_bringsTo 8 9 (.iload_n 3) 1 := o_29 ob_X10_bringsTo rfl rfl rfl
theorem dX10_bringsTo_9 : dc cX10_bringsTo 9 10 .iadd 1 := o_96 ob_X10_bringsTo rfl rfl rfl
theorem dX10_bringsTo_10 : dc cX10_bringsTo 10 11 .imul 1 := o_104 ob_X10_bringsTo rfl rfl rfl
theorem dX10_bringsTo_11 : dc cX10_bringsTo 11 12 (.iload_n 1) 1 := o_27 ob_X10_bringsTo rfl rfl rfl
theorem dX10_bringsTo_12 : dc cX10_bringsTo 12 13 .iadd 1 := o_96 ob_X10_bringsTo rfl rfl rfl
theorem dX10_bringsTo_13 : dc cX10_bringsTo 13 16 (.invokevirtual 71) 3 := o_182 ob_X10_bringsTo rfl rfl rfl rfl
theorem dX10_bringsTo_16 : dc cX10_bringsTo 16 17 .ireturn 1 := o_172 ob_X10_bringsTo rfl rfl rfl
def F_Well_bringsTo (x1 : Int32) (x2 : Int32) (x3 : Int32) (M : Mem) : Option (Int32) :=
  (F_Row_small 3 18 ((2 * ((3 * x2) + x3)) + x1) M).bind fun r1 => some r1
set_option maxRecDepth 100000 in
set_option maxHeartbeats 4000000 in
theorem K_Well_bringsTo (l : Launch) (g : GB) (htr : l.stackTraces = false) (x1 : Int32) (x2 : Int32) (x3 : Int32) (M : Mem) (rr : Int32) (h : F_Well_bringsTo x1 x2 x3 M = some rr) : CT l g yX10_bringsTo (.code yX10_bringsTo cX10_bringsTo 4 (some .int) :: wAll) { frames := 1, cells := 0, slots := 0, locals := 21 } [.ref (g.2.1 1), .int x1, .int x2, .int x3] M (.inl (some (.int rr))) M := by
  refine CT.of [(0, .ref (g.2.1 1)), (1, .int x1), (2, .int x2), (3, .int x3)] (by decide +kernel) (Nat.le_of_ble_eq_true rfl) rfl htr ?_
  intro p e s m args below meth c K hr ht
  skip
  obtain ⟨PHI, hPHI, h⟩ : ∃ PHI : Int32 → Prop, (∀ a, PHI a → a = rr) ∧ wpO (F_Well_bringsTo x1 x2 x3 M) PHI := ⟨fun a => a = rr, fun _ h => h, _, h, rfl⟩
  unfold F_Well_bringsTo at h
  refine G_aload_n rfl 0 rfl K dX10_bringsTo_0 ?_
  refine G_get (ci := 10) (k := 9) K rfl in_X10 wd_94 rfl dX10_bringsTo_1 (Nat.le_of_ble_eq_true rfl) (sh_1 _ _) (Nat.le_of_ble_eq_true rfl) rfl ?_
  refine G_iconst (v := 2) rfl K dX10_bringsTo_4 ?_
  refine G_iconst (v := 3) rfl K dX10_bringsTo_5 ?_
  refine G_iload_n rfl 2 rfl K dX10_bringsTo_6 ?_
  refine G_imul K dX10_bringsTo_7 ?_
  refine G_iload_n rfl 3 rfl K dX10_bringsTo_8 ?_
  refine G_iadd K dX10_bringsTo_9 ?_
  refine G_imul K dX10_bringsTo_10 ?_
  refine G_iload_n rfl 1 rfl K dX10_bringsTo_11 ?_
  refine G_iadd K dX10_bringsTo_12 ?_
  obtain ⟨r1, e1, h⟩ := wpO_bind h
  refine G_callVi (ci := 7) [.int ((2 * ((3 * x2) + x3)) + x1)] [] K dX10_bringsTo_13 wv_479 yd_X7_small (Nat.le_of_ble_eq_true rfl) (sh_2 _ _) rfl (by decide) (by decide) rfl rfl (Nat.le_of_ble_eq_true rfl) (K_Row_small l g htr 2 3 18 isRow_2 ((2 * ((3 * x2) + x3)) + x1) M _ e1) ?_
  cases hPHI _ (wpO_some h)
  exact G_iret K hr rfl dX10_bringsTo_16 (Nat.le_of_ble_eq_true rfl) (Nat.le_of_ble_eq_true rfl) ⟨rfl, rfl⟩
def on_X10_bringsOwn : Nat := 0xac4700b6600468601c681d06050c00a768601d681c06050d009a1b2a00b42a
theorem ob_X10_bringsOwn : OKB cX10_bringsOwn on_X10_bringsOwn 31 := ⟨by decide +kernel, by decide +kernel⟩
theorem dX10_bringsOwn_0 : dc cX10_bringsOwn 0 1 (.aload_n 0) 1 := o_42 ob_X10_bringsOwn rfl rfl rfl
theorem dX10_bringsOwn_1 : dc cX10_bringsOwn 1 4 (.getfield 42) 3 := o_180 ob_X10_bringsOwn rfl rfl rfl rfl
theorem dX10_bringsOwn_4 : dc cX10_bringsOwn 4 5 (.iload_n 1) 1 := o_27 ob_X10_bringsOwn rfl rfl rfl
theorem dX10_bringsOwn_5 : dc cX10_bringsOwn 5 8 (.ifCond .ne 13) 3 := o_154 ob_X10_bringsOwn rfl rfl rfl rfl
theorem dX10_bringsOwn_8 : dc cX10_bringsOwn 8 9 (.iconst 2) 1 := o_5 ob_X10_bringsOwn rfl rfl rfl
theorem dX10_bringsOwn_9 : dc cX10_bringsOwn 9 10 (.iconst 3) 1 := o_6 ob_X10_bringsOwn rfl rfl rfl
theorem dX10_bringsOwn_10 : dc cX10_bringsOwn 10 11 (.iload_n 2) 1 := o_28 ob_X10_bringsOwn rfl rfl rfl
theorem dX10_bringsOwn_11 : dc cX10_bringsOwn 11 12 .imul 1 := o_104 ob_X10_bringsOwn rfl rfl rfl
theorem dX10_bringsOwn_12 : dc cX10_bringsOwn 12 13 (.iload_n 3) 1 := o_29 ob_X10_bringsOwn rfl rfl rfl
theorem dX10_bringsOwn_13 : dc cX10_bringsOwn 13 14 .iadd 1 := o_96 ob_X10_bringsOwn rfl rfl rfl
theorem dX10_bringsOwn_14 : dc cX10_bringsOwn 14 15 .imul 1 := o_104 ob_X10_bringsOwn rfl rfl rfl
theorem dX10_bringsOwn_15 : dc cX10_bringsOwn 15 18 (.goto 12) 3 := o_167 ob_X10_bringsOwn rfl rfl rfl rfl
theorem dX10_bringsOwn_18 : dc cX10_bringsOwn 18 19 (.iconst 2) 1 := o_5 ob_X10_bringsOwn rfl rfl rfl
theorem dX10_bringsOwn_19 : dc cX10_bringsOwn 19 20 (.iconst 3) 1 := o_6 ob_X10_bringsOwn rfl rfl rfl
theorem dX10_bringsOwn_20 : dc cX10_bringsOwn 20 21 (.iload_n 3) 1 := o_29 ob_X10_bringsOwn rfl rfl rfl
theorem dX10_bringsOwn_21 : dc cX10_bringsOwn 21 22 .imul 1 := o_104 ob_X10_bringsOwn rfl rfl rfl
theorem dX10_bringsOwn_22 : dc cX10_bringsOwn 22 23 (.iload_n 2) 1 := o_28 ob_X10_bringsOwn rfl rfl rfl
theorem dX10_bringsOwn_23 : dc cX10_bringsOwn 23 24 .iadd 1 := o_96 ob_X10_bringsOwn rfl rfl rfl
theorem dX10_bringsOwn_24 : dc cX10_bringsOwn 24 25 .imul 1 := o_104 ob_X10_bringsOwn rfl rfl rfl
theorem dX10_bringsOwn_25 : dc cX10_bringsOwn 25 26 (.iconst 1) 1 := o_4 ob_X10_bringsOwn rfl rfl rfl
theorem dX10_bringsOwn_26 : dc cX10_bringsOwn 26 27 .iadd 1 := o_96 ob_X10_bringsOwn rfl rfl rfl
theorem dX10_bringsOwn_27 : dc cX10_bringsOwn 27 30 (.invokevirtual 71) 3 := o_182 ob_X10_bringsOwn rfl rfl rfl rfl
theorem dX10_bringsOwn_30 : dc cX10_bringsOwn 30 31 .ireturn 1 := o_172 ob_X10_bringsOwn rfl rfl rfl
def F_Well_bringsOwn_j27 (s1 : Int32) (M : Mem) : Option (Int32) :=
  (F_Row_small 3 18 s1 M).bind fun r1 => some r1
def F_Well_bringsOwn (x1 : Int32) (x2 : Int32) (x3 : Int32) (M : Mem) : Option (Int32) :=
  if x1 = 0 then F_Well_bringsOwn_j27 (2 * ((3 * x2) + x3)) M else F_Well_bringsOwn_j27 ((2 * ((3 * x3) + x2)) + 1) M
set_option maxRecDepth 100000 in
set_option maxHeartbeats 4000000 in
theorem K_Well_bringsOwn (l : Launch) (g : GB) (htr : l.stackTraces = false) (x1 : Int32) (x2 : Int32) (x3 : Int32) (M : Mem) (rr : Int32) (h : F_Well_bringsOwn x1 x2 x3 M = some rr) : CT l g yX10_bringsOwn (.code yX10_bringsOwn cX10_bringsOwn 4 (some .int) :: wAll) { frames := 1, cells := 0, slots := 0, locals := 21 } [.ref (g.2.1 1), .int x1, .int x2, .int x3] M (.inl (some (.int rr))) M := by
  refine CT.of [(0, .ref (g.2.1 1)), (1, .int x1), (2, .int x2), (3, .int x3)] (by decide +kernel) (Nat.le_of_ble_eq_true rfl) rfl htr ?_
  intro p e s m args below meth c K hr ht
  skip
  obtain ⟨PHI, hPHI, h⟩ : ∃ PHI : Int32 → Prop, (∀ a, PHI a → a = rr) ∧ wpO (F_Well_bringsOwn x1 x2 x3 M) PHI := ⟨fun a => a = rr, fun _ h => h, _, h, rfl⟩
  have J27 : ∀ (s1 : Int32), wpO (F_Well_bringsOwn_j27 s1 M) PHI → GG p l e { frames := 1, cells := 0, slots := 0, locals := 21 } s m args below meth c g 4 (vx_MQ below (Qn g s.heap.size (.inl (some (.int rr))) M) (QX g s.heap.size (.inl (some (.int rr))) M) args s 0 0 (AS g s.heap.size)) 0 0 27 [] [.int s1, .ref (g.2.1 2)] M := by
    intro s1 h
    unfold F_Well_bringsOwn_j27 at h
    obtain ⟨r1, e1, h⟩ := wpO_bind h
    refine G_callVi (ci := 7) [.int s1] [] K dX10_bringsOwn_27 wv_479 yd_X7_small (Nat.le_of_ble_eq_true rfl) (sh_2 _ _) rfl (by decide) (by decide) rfl rfl (Nat.le_of_ble_eq_true rfl) (K_Row_small l g htr 2 3 18 isRow_2 s1 M _ e1) ?_
    cases hPHI _ (wpO_some h)
    exact G_iret K hr rfl dX10_bringsOwn_30 (Nat.le_of_ble_eq_true rfl) (Nat.le_of_ble_eq_true rfl) ⟨rfl, rfl⟩
  unfold F_Well_bringsOwn at h
  refine G_aload_n rfl 0 rfl K dX10_bringsOwn_0 ?_
  refine G_get (ci := 10) (k := 9) K rfl in_X10 wd_94 rfl dX10_bringsOwn_1 (Nat.le_of_ble_eq_true rfl) (sh_1 _ _) (Nat.le_of_ble_eq_true rfl) rfl ?_
  refine G_iload_n rfl 1 rfl K dX10_bringsOwn_4 ?_
  refine G_if_ne (tgt := 18) K dX10_bringsOwn_5 (by decide) (fun hc => ?_) (fun hc => ?_)
  · have h := wpO_f h hc
    refine G_iconst (v := 2) rfl K dX10_bringsOwn_18 ?_
    refine G_iconst (v := 3) rfl K dX10_bringsOwn_19 ?_
    refine G_iload_n rfl 3 rfl K dX10_bringsOwn_20 ?_
    refine G_imul K dX10_bringsOwn_21 ?_
    refine G_iload_n rfl 2 rfl K dX10_bringsOwn_22 ?_
    refine G_iadd K dX10_bringsOwn_23 ?_
    refine G_imul K dX10_bringsOwn_24 ?_
    refine G_iconst (v := 1) rfl K dX10_bringsOwn_25 ?_
    refine G_iadd K dX10_bringsOwn_26 ?_
    exact G_lv (lv' := []) [] rfl (J27 ((2 * ((3 * x3) + x2)) + 1) h)
  · have h := wpO_t h hc
    refine G_iconst (v := 2) rfl K dX10_bringsOwn_8 ?_
    refine G_iconst (v := 3) rfl K dX10_bringsOwn_9 ?_
    refine G_iload_n rfl 2 rfl K dX10_bringsOwn_10 ?_
    refine G_imul K dX10_bringsOwn_11 ?_
    refine G_iload_n rfl 3 rfl K dX10_bringsOwn_12 ?_
    refine G_iadd K dX10_bringsOwn_13 ?_
    refine G_imul K dX10_bringsOwn_14 ?_
    refine G_goto (tgt := 27) K dX10_bringsOwn_15 (by decide) ?_
    exact G_lv (lv' := []) [] rfl (J27 (2 * ((3 * x2) + x3)) h)
theorem wv_889 : wdV "KeptWell$Well" 75 yX7_at cX7_at 2 (some .long) := ⟨wd_889, wd_528, wd_529, wd_3, wd_530⟩
def on_X10_putWay : Nat := 0xb1e5ffa70103844300b64b00b61d2c601d680d101b2e00b42a1b00a20d101d3e03
theorem ob_X10_putWay : OKB cX10_putWay on_X10_putWay 33 := ⟨by decide +kernel, by decide +kernel⟩
theorem dX10_putWay_0 : dc cX10_putWay 0 1 (.iconst 0) 1 := o_3 ob_X10_putWay rfl rfl rfl
theorem dX10_putWay_1 : dc cX10_putWay 1 2 (.istore_n 3) 1 := o_62 ob_X10_putWay rfl rfl rfl
theorem dX10_putWay_2 : dc cX10_putWay 2 3 (.iload_n 3) 1 := o_29 ob_X10_putWay rfl rfl rfl
theorem dX10_putWay_3 : dc cX10_putWay 3 5 (.bipush 13) 2 := o_16 ob_X10_putWay rfl rfl rfl rfl
theorem dX10_putWay_5 : dc cX10_putWay 5 8 (.if_icmp .ge 27) 3 := o_162 ob_X10_putWay rfl rfl rfl rfl
theorem dX10_putWay_8 : dc cX10_putWay 8 9 (.aload_n 0) 1 := o_42 ob_X10_putWay rfl rfl rfl
theorem dX10_putWay_9 : dc cX10_putWay 9 12 (.getfield 46) 3 := o_180 ob_X10_putWay rfl rfl rfl rfl
theorem dX10_putWay_12 : dc cX10_putWay 12 13 (.iload_n 1) 1 := o_27 ob_X10_putWay rfl rfl rfl
theorem dX10_putWay_13 : dc cX10_putWay 13 15 (.bipush 13) 2 := o_16 ob_X10_putWay rfl rfl rfl rfl
theorem dX10_putWay_15 : dc cX10_putWay 15 16 .imul 1 := o_104 ob_X10_putWay rfl rfl rfl
theorem dX10_putWay_16 : dc cX10_putWay 16 17 (.iload_n 3) 1 := o_29 ob_X10_putWay rfl rfl rfl
theorem dX10_putWay_17 : dc cX10_putWay 17 18 .iadd 1 := o_96 ob_X10_putWay rfl rfl rfl
theorem dX10_putWay_18 : dc cX10_putWay 18 19 (.aload_n 2) 1 := o_44 ob_X10_putWay rfl rfl rfl
theorem dX10_putWay_19 : dc cX10_putWay 19 20 (.iload_n 3) 1 := o_29 ob_X10_putWay rfl rfl rfl
theorem dX10_putWay_20 : dc cX10_putWay 20 23 (.invokevirtual 75) 3 := o_182 ob_X10_putWay rfl rfl rfl rfl
theorem dX10_putWay_23 : dc cX10_putWay 23 26 (.invokevirtual 67) 3 := o_182 ob_X10_putWay rfl rfl rfl rfl
theorem dX10_putWay_26 : dc cX10_putWay 26 29 (.iinc 3 1) 3 := o_132 ob_X10_putWay rfl rfl rfl rfl rfl
theorem dX10_putWay_29 : dc cX10_putWay 29 32 (.goto (-27)) 3 := o_167 ob_X10_putWay rfl rfl rfl rfl
theorem dX10_putWay_32 : dc cX10_putWay 32 33 .return_ 1 := o_177 ob_X10_putWay rfl rfl rfl
def F_Well_putWay_b2 (o2a : Nat) (o2n : Nat) (x1 : Int32) (z : Int32 × Mem) : Option ((Int32 × Mem) ⊕ ((Mem))) :=
  if 13 ≤ z.1 then some (.inr z.2) else (F_Row_at o2a o2n z.1 z.2).bind fun r1 => (F_Row_put 5 117 ((x1 * 13) + z.1) r1 z.2).bind fun r2 => some (.inl ((z.1 + 1, r2)))
def F_Well_putWay_l2 (o2a : Nat) (o2n : Nat) (x1 : Int32) (x3 : Int32) (M : Mem) : Option (Mem) :=
  (iter (F_Well_putWay_b2 o2a o2n x1) FUEL (x3, M)).bind fun r => some r
def F_Well_putWay (o2a : Nat) (o2n : Nat) (x1 : Int32) (M : Mem) : Option (Mem) :=
  F_Well_putWay_l2 o2a o2n x1 0 M
set_option maxRecDepth 100000 in
set_option maxHeartbeats 4000000 in
theorem K_Well_putWay (l : Launch) (g : GB) (htr : l.stackTraces = false) (o2 o2a o2n : Nat) (ho2 : isRow o2 o2a o2n) (x1 : Int32) (M : Mem) (MZ : Mem) (h : F_Well_putWay o2a o2n x1 M = some MZ) : CT l g yX10_putWay (.code yX10_putWay cX10_putWay 4 none :: wAll) { frames := 1, cells := 0, slots := 0, locals := 23 } [.ref (g.2.1 1), .int x1, .ref (g.2.1 o2)] M (.inl none) MZ := by
  refine CT.of [(0, .ref (g.2.1 1)), (1, .int x1), (2, .ref (g.2.1 o2))] (by decide +kernel) (Nat.le_of_ble_eq_true rfl) rfl htr ?_
  intro p e s m args below meth c K hr ht
  skip
  obtain ⟨PHI, hPHI, h⟩ : ∃ PHI : Mem → Prop, (∀ a, PHI a → a = MZ) ∧ wpO (F_Well_putWay o2a o2n x1 M) PHI := ⟨fun a => a = MZ, fun _ h => h, _, h, rfl⟩
  have J2 : ∀ (x1 : Int32) (x3 : Int32) (M : Mem), wpO (F_Well_putWay_l2 o2a o2n x1 x3 M) PHI → GG p l e { frames := 1, cells := 0, slots := 0, locals := 23 } s m args below meth c g 4 (vx_MQ below (Qn g s.heap.size (.inl none) MZ) (QX g s.heap.size (.inl none) MZ) args s 0 0 (AS g s.heap.size)) 0 0 2 [(0, .ref (g.2.1 1)), (1, .int x1), (2, .ref (g.2.1 o2)), (3, .int x3)] [] M := by
    intro x1 x3 M h
    unfold F_Well_putWay_l2 at h
    refine loop_C2 (G := fun (x3 : Int32) (M : Mem) => GG p l e { frames := 1, cells := 0, slots := 0, locals := 23 } s m args below meth c g 4 (vx_MQ below (Qn g s.heap.size (.inl none) MZ) (QX g s.heap.size (.inl none) MZ) args s 0 0 (AS g s.heap.size)) 0 0 2 [(0, .ref (g.2.1 1)), (1, .int x1), (2, .ref (g.2.1 o2)), (3, .int x3)] [] M) (body := F_Well_putWay_b2 o2a o2n x1) ?_ FUEL _ _ (wpO_bind h)
    intro P2 E2 X2
    intro z h
    unfold F_Well_putWay_b2 at h
    refine G_iload_n rfl 3 rfl K dX10_putWay_2 ?_
    refine G_bipush (v := 13) rfl K dX10_putWay_3 ?_
    refine G_icmp_ge (tgt := 32) K dX10_putWay_5 (by decide) (fun hc => ?_) (fun hc => ?_)
    · have h := wpO_t h hc
      have h := X2 _ (wpO_some h)
      try dsimp only at h
      cases hPHI _ (wpO_some h)
      exact G_vret K hr dX10_putWay_32 (Nat.le_of_ble_eq_true rfl) (Nat.le_of_ble_eq_true rfl) ⟨rfl, rfl⟩
    · have h := wpO_f h hc
      refine G_aload_n rfl 0 rfl K dX10_putWay_8 ?_
      refine G_get (ci := 10) (k := 10) K rfl in_X10 wd_95 rfl dX10_putWay_9 (Nat.le_of_ble_eq_true rfl) (sh_1 _ _) (Nat.le_of_ble_eq_true rfl) rfl ?_
      refine G_iload_n rfl 1 rfl K dX10_putWay_12 ?_
      refine G_bipush (v := 13) rfl K dX10_putWay_13 ?_
      refine G_imul K dX10_putWay_15 ?_
      refine G_iload_n rfl 3 rfl K dX10_putWay_16 ?_
      refine G_iadd K dX10_putWay_17 ?_
      refine G_aload_n rfl 2 rfl K dX10_putWay_18 ?_
      refine G_iload_n rfl 3 rfl K dX10_putWay_19 ?_
      obtain ⟨r1, e1, h⟩ := wpO_bind h
      refine G_callVl (ci := 7) [.int z.1] [.int ((x1 * 13) + z.1), .ref (g.2.1 4)] K dX10_putWay_20 wv_889 yd_X7_at ho2.1 (ho2.2.2.1 _ _) rfl (by decide) (by decide) rfl rfl (Nat.le_of_ble_eq_true rfl) (K_Row_at l g htr o2 o2a o2n ho2 z.1 z.2 _ e1) ?_
      obtain ⟨r2, e2, h⟩ := wpO_bind h
      refine G_callVv (ci := 7) [.int ((x1 * 13) + z.1), .long r1] [] K dX10_putWay_23 wv_754 yd_X7_put (Nat.le_of_ble_eq_true rfl) (sh_4 _ _) rfl (by decide) (by decide) rfl rfl (Nat.le_of_ble_eq_true rfl) (K_Row_put l g htr 4 5 117 isRow_4 ((x1 * 13) + z.1) r1 z.2 _ e2) ?_
      refine G_iinc (v := z.1 + 1) 3 rfl K dX10_putWay_26 rfl (Nat.le_of_ble_eq_true rfl) rfl ?_
      refine G_goto (tgt := 2) K dX10_putWay_29 (by decide) ?_
      exact G_lv (lv' := [(0, .ref (g.2.1 1)), (1, .int x1), (2, .ref (g.2.1 o2)), (3, .int (z.1 + 1))]) [1, 2, 3, 0] rfl (E2 (z.1 + 1) r2 (wpO_some h))
  unfold F_Well_putWay at h
  refine G_iconst (v := 0) rfl K dX10_putWay_0 ?_
  refine G_istore_n rfl K dX10_putWay_1 (Nat.le_of_ble_eq_true rfl) rfl ?_
  exact G_lv (lv' := [(0, .ref (g.2.1 1)), (1, .int x1), (2, .ref (g.2.1 o2)), (3, .int 0)]) [1, 2, 3, 0] rfl (J2 x1 0 M h)
def on_X10_putSpareWay : Nat := 0xb1a9ffa70103844300b6851d600604152e00b42a4300b6857e047a60681d05061b600504152e00b42a4300b6857e047a60681d05051b600404152e00b42a4300b6857e047a1d1b04152e00b42a043660681d0760041c5800a2051d3e034300b64f00141c2e00b42a3d6810
theorem ob_X10_putSpareWay : OKB cX10_putSpareWay on_X10_putSpareWay 107 := ⟨by decide +kernel, by decide +kernel⟩
theorem dX10_putSpareWay_0 : dc cX10_putSpareWay 0 2 (.bipush 104) 2 := o_16 ob_X10_putSpareWay rfl rfl rfl rfl
theorem dX10_putSpareWay_2 : dc cX10_putSpareWay 2 3 (.istore_n 2) 1 := o_61 ob_X10_putSpareWay rfl rfl rfl
theorem dX10_putSpareWay_3 : dc cX10_putSpareWay 3 4 (.aload_n 0) 1 := o_42 ob_X10_putSpareWay rfl rfl rfl
theorem dX10_putSpareWay_4 : dc cX10_putSpareWay 4 7 (.getfield 46) 3 := o_180 ob_X10_putSpareWay rfl rfl rfl rfl
theorem dX10_putSpareWay_7 : dc cX10_putSpareWay 7 8 (.iload_n 2) 1 := o_28 ob_X10_putSpareWay rfl rfl rfl
theorem dX10_putSpareWay_8 : dc cX10_putSpareWay 8 11 (.ldc2_w 79) 3 := o_20 ob_X10_putSpareWay rfl rfl rfl rfl
theorem dX10_putSpareWay_11 : dc cX10_putSpareWay 11 14 (.invokevirtual 67) 3 := o_182 ob_X10_putSpareWay rfl rfl rfl rfl
theorem dX10_putSpareWay_14 : dc cX10_putSpareWay 14 15 (.iconst 0) 1 := o_3 ob_X10_putSpareWay rfl rfl rfl
theorem dX10_putSpareWay_15 : dc cX10_putSpareWay 15 16 (.istore_n 3) 1 := o_62 ob_X10_putSpareWay rfl rfl rfl
theorem dX10_putSpareWay_16 : dc cX10_putSpareWay 16 17 (.iload_n 3) 1 := o_29 ob_X10_putSpareWay rfl rfl rfl
theorem dX10_putSpareWay_17 : dc cX10_putSpareWay 17 18 (.iconst 2) 1 := o_5 ob_X10_putSpareWay rfl rfl rfl
theorem dX10_putSpareWay_18 : dc cX10_putSpareWay 18 21 (.if_icmp .ge 88) 3 := o_162 ob_X10_putSpareWay rfl rfl rfl rfl
theorem dX10_putSpareWay_21 : dc cX10_putSpareWay 21 22 (.iload_n 2) 1 := o_28 ob_X10_putSpareWay rfl rfl rfl
theorem dX10_putSpareWay_22 : dc cX10_putSpareWay 22 23 (.iconst 1) 1 := o_4 ob_X10_putSpareWay rfl rfl rfl
theorem dX10_putSpareWay_23 : dc cX10_putSpareWay 23 24 .iadd 1 := o_96 ob_X10_putSpareWay rfl rfl rfl
theorem dX10_putSpareWay_24 : dc cX10_putSpareWay 24 25 (.iconst 4) 1 := o_7 ob_X10_putSpareWay rfl rfl rfl
theorem dX10_putSpareWay_25 : dc cX10_putSpareWay 25 26 (.iload_n 3) 1 := o_29 ob_X10_putSpareWay rfl rfl rfl
theorem dX10_putSpareWay_26 : dc cX10_putSpareWay 26 27 .imul 1 := o_104 ob_X10_putSpareWay rfl rfl rfl
theorem dX10_putSpareWay_27 : dc cX10_putSpareWay 27 28 .iadd 1 := o_96 ob_X10_putSpareWay rfl rfl rfl
theorem dX10_putSpareWay_28 : dc cX10_putSpareWay 28 30 (.istore 4) 2 := o_54 ob_X10_putSpareWay rfl rfl rfl rfl
theorem dX10_putSpareWay_30 : dc cX10_putSpareWay 30 31 (.aload_n 0) 1 := o_42 ob_X10_putSpareWay rfl rfl rfl
theorem dX10_putSpareWay_31 : dc cX10_putSpareWay 31 34 (.getfield 46) 3 := o_180 ob_X10_putSpareWay rfl rfl rfl rfl
theorem dX10_putSpareWay_34 : dc cX10_putSpareWay 34 36 (.iload 4) 2 := o_21 ob_X10_putSpareWay rfl rfl rfl rfl
theorem dX10_putSpareWay_36 : dc cX10_putSpareWay 36 37 (.iload_n 1) 1 := o_27 ob_X10_putSpareWay rfl rfl rfl
theorem dX10_putSpareWay_37 : dc cX10_putSpareWay 37 38 (.iload_n 3) 1 := o_29 ob_X10_putSpareWay rfl rfl rfl
theorem dX10_putSpareWay_38 : dc cX10_putSpareWay 38 39 .ishr 1 := o_122 ob_X10_putSpareWay rfl rfl rfl
theorem dX10_putSpareWay_39 : dc cX10_putSpareWay 39 40 (.iconst 1) 1 := o_4 ob_X10_putSpareWay rfl rfl rfl
theorem dX10_putSpareWay_40 : dc cX10_putSpareWay 40 41 .iand 1 := o_126 ob_X10_putSpareWay rfl rfl rfl
theorem dX10_putSpareWay_41 : dc cX10_putSpareWay 41 42 .i2l 1 := o_133 ob_X10_putSpareWay rfl rfl rfl
theorem dX10_putSpareWay_42 : dc cX10_putSpareWay 42 45 (.invokevirtual 67) 3 := o_182 ob_X10_putSpareWay rfl rfl rfl rfl
theorem dX10_putSpareWay_45 : dc cX10_putSpareWay 45 46 (.aload_n 0) 1 := o_42 ob_X10_putSpareWay rfl rfl rfl
theorem dX10_putSpareWay_46 : dc cX10_putSpareWay 46 49 (.getfield 46) 3 := o_180 ob_X10_putSpareWay rfl rfl rfl rfl
theorem dX10_putSpareWay_49 : dc cX10_putSpareWay 49 51 (.iload 4) 2 := o_21 ob_X10_putSpareWay rfl rfl rfl rfl
theorem dX10_putSpareWay_51 : dc cX10_putSpareWay 51 52 (.iconst 1) 1 := o_4 ob_X10_putSpareWay rfl rfl rfl
theorem dX10_putSpareWay_52 : dc cX10_putSpareWay 52 53 .iadd 1 := o_96 ob_X10_putSpareWay rfl rfl rfl
theorem dX10_putSpareWay_53 : dc cX10_putSpareWay 53 54 (.iload_n 1) 1 := o_27 ob_X10_putSpareWay rfl rfl rfl
theorem dX10_putSpareWay_54 : dc cX10_putSpareWay 54 55 (.iconst 2) 1 := o_5 ob_X10_putSpareWay rfl rfl rfl
theorem dX10_putSpareWay_55 : dc cX10_putSpareWay 55 56 (.iconst 2) 1 := o_5 ob_X10_putSpareWay rfl rfl rfl
theorem dX10_putSpareWay_56 : dc cX10_putSpareWay 56 57 (.iload_n 3) 1 := o_29 ob_X10_putSpareWay rfl rfl rfl
theorem dX10_putSpareWay_57 : dc cX10_putSpareWay 57 58 .imul 1 := o_104 ob_X10_putSpareWay rfl rfl rfl
theorem dX10_putSpareWay_58 : dc cX10_putSpareWay 58 59 .iadd 1 := o_96 ob_X10_putSpareWay rfl rfl rfl
theorem dX10_putSpareWay_59 : dc cX10_putSpareWay 59 60 .ishr 1 := o_122 ob_X10_putSpareWay rfl rfl rfl
theorem dX10_putSpareWay_60 : dc cX10_putSpareWay 60 61 (.iconst 1) 1 := o_4 ob_X10_putSpareWay rfl rfl rfl
theorem dX10_putSpareWay_61 : dc cX10_putSpareWay 61 62 .iand 1 := o_126 ob_X10_putSpareWay rfl rfl rfl
theorem dX10_putSpareWay_62 : dc cX10_putSpareWay 62 63 .i2l 1 := o_133 ob_X10_putSpareWay rfl rfl rfl
theorem dX10_putSpareWay_63 : dc cX10_putSpareWay 63 66 (.invokevirtual 67) 3 := o_182 ob_X10_putSpareWay rfl rfl rfl rfl
theorem dX10_putSpareWay_66 : dc cX10_putSpareWay 66 67 (.aload_n 0) 1 := o_42 ob_X10_putSpareWay rfl rfl rfl
theorem dX10_putSpareWay_67 : dc cX10_putSpareWay 67 70 (.getfield 46) 3 := o_180 ob_X10_putSpareWay rfl rfl rfl rfl
theorem dX10_putSpareWay_70 : dc cX10_putSpareWay 70 72 (.iload 4) 2 := o_21 ob_X10_putSpareWay rfl rfl rfl rfl
theorem dX10_putSpareWay_72 : dc cX10_putSpareWay 72 73 (.iconst 2) 1 := o_5 ob_X10_putSpareWay rfl rfl rfl
theorem dX10_putSpareWay_73 : dc cX10_putSpareWay 73 74 .iadd 1 := o_96 ob_X10_putSpareWay rfl rfl rfl
theorem dX10_putSpareWay_74 : dc cX10_putSpareWay 74 75 (.iload_n 1) 1 := o_27 ob_X10_putSpareWay rfl rfl rfl
theorem dX10_putSpareWay_75 : dc cX10_putSpareWay 75 76 (.iconst 3) 1 := o_6 ob_X10_putSpareWay rfl rfl rfl
theorem dX10_putSpareWay_76 : dc cX10_putSpareWay 76 77 (.iconst 2) 1 := o_5 ob_X10_putSpareWay rfl rfl rfl
theorem dX10_putSpareWay_77 : dc cX10_putSpareWay 77 78 (.iload_n 3) 1 := o_29 ob_X10_putSpareWay rfl rfl rfl
theorem dX10_putSpareWay_78 : dc cX10_putSpareWay 78 79 .imul 1 := o_104 ob_X10_putSpareWay rfl rfl rfl
theorem dX10_putSpareWay_79 : dc cX10_putSpareWay 79 80 .iadd 1 := o_96 ob_X10_putSpareWay rfl rfl rfl
theorem dX10_putSpareWay_80 : dc cX10_putSpareWay 80 81 .ishr 1 := o_122 ob_X10_putSpareWay rfl rfl rfl
theorem dX10_putSpareWay_81 : dc cX10_putSpareWay 81 82 (.iconst 1) 1 := o_4 ob_X10_putSpareWay rfl rfl rfl
theorem dX10_putSpareWay_82 : dc cX10_putSpareWay 82 83 .iand 1 := o_126 ob_X10_putSpareWay rfl rfl rfl
theorem dX10_putSpareWay_83 : dc cX10_putSpareWay 83 84 .i2l 1 := o_133 ob_X10_putSpareWay rfl rfl rfl
theorem dX10_putSpareWay_84 : dc cX10_putSpareWay 84 87 (.invokevirtual 67) 3 := o_182 ob_X10_putSpareWay rfl rfl rfl rfl
theorem dX10_putSpareWay_87 : dc cX10_putSpareWay 87 88 (.aload_n 0) 1 := o_42 ob_X10_putSpareWay rfl rfl rfl
theorem dX10_putSpareWay_88 : dc cX10_putSpareWay 88 91 (.getfield 46) 3 := o_180 ob_X10_putSpareWay rfl rfl rfl rfl
theorem dX10_putSpareWay_91 : dc cX10_putSpareWay 91 93 (.iload 4) 2 := o_21 ob_X10_putSpareWay rfl rfl rfl rfl
theorem dX10_putSpareWay_93 : dc cX10_putSpareWay 93 94 (.iconst 3) 1 := o_6 ob_X10_putSpareWay rfl rfl rfl
theorem dX10_putSpareWay_94 : dc cX10_putSpareWay 94 95 .iadd 1 := o_96 ob_X10_putSpareWay rfl rfl rfl
theorem dX10_putSpareWay_95 : dc cX10_putSpareWay 95 96 (.iload_n 3) 1 := o_29 ob_X10_putSpareWay rfl rfl rfl
theorem dX10_putSpareWay_96 : dc cX10_putSpareWay 96 97 .i2l 1 := o_133 ob_X10_putSpareWay rfl rfl rfl
theorem dX10_putSpareWay_97 : dc cX10_putSpareWay 97 100 (.invokevirtual 67) 3 := o_182 ob_X10_putSpareWay rfl rfl rfl rfl
theorem dX10_putSpareWay_100 : dc cX10_putSpareWay 100 103 (.iinc 3 1) 3 := o_132 ob_X10_putSpareWay rfl rfl rfl rfl rfl
theorem dX10_putSpareWay_103 : dc cX10_putSpareWay 103 106 (.goto (-87)) 3 := o_167 ob_X10_putSpareWay rfl rfl rfl rfl
theorem dX10_putSpareWay_106 : dc cX10_putSpareWay 106 107 .return_ 1 := o_177 ob_X10_putSpareWay rfl rfl rfl
def F_Well_putSpareWay_b16 (x1 : Int32) (x2 : Int32) (z : Int32 × Mem) : Option ((Int32 × Mem) ⊕ ((Mem))) :=
  if 2 ≤ z.1 then some (.inr z.2) else (F_Row_put 5 117 ((x2 + 1) + (4 * z.1)) (((x1 >>> (z.1 &&& 31)) &&& 1).toInt64) z.2).bind fun r2 => (F_Row_put 5 117 (((x2 + 1) + (4 * z.1)) + 1) (((x1 >>> ((2 + (2 * z.1)) &&& 31)) &&& 1).toInt64) r2).bind fun r3 => (F_Row_put 5 117 (((x2 + 1) + (4 * z.1)) + 2) (((x1 >>> ((3 + (2 * z.1)) &&& 31)) &&& 1).toInt64) r3).bind fun r4 => (F_Row_put 5 117 (((x2 + 1) + (4 * z.1)) + 3) z.1.toInt64 r4).bind fun r5 => some (.inl ((z.1 + 1, r5)))
def F_Well_putSpareWay_l16 (x1 : Int32) (x2 : Int32) (x3 : Int32) (M : Mem) : Option (Mem) :=
  (iter (F_Well_putSpareWay_b16 x1 x2) FUEL (x3, M)).bind fun r => some r
def F_Well_putSpareWay (x1 : Int32) (M : Mem) : Option (Mem) :=
  (F_Row_put 5 117 104 2 M).bind fun r1 => F_Well_putSpareWay_l16 x1 104 0 r1
set_option maxRecDepth 100000 in
set_option maxHeartbeats 4000000 in
theorem K_Well_putSpareWay (l : Launch) (g : GB) (htr : l.stackTraces = false) (x1 : Int32) (M : Mem) (MZ : Mem) (h : F_Well_putSpareWay x1 M = some MZ) : CT l g yX10_putSpareWay (.code yX10_putSpareWay cX10_putSpareWay 5 none :: wAll) { frames := 1, cells := 0, slots := 0, locals := 23 } [.ref (g.2.1 1), .int x1] M (.inl none) MZ := by
  refine CT.of [(0, .ref (g.2.1 1)), (1, .int x1)] (by decide +kernel) (Nat.le_of_ble_eq_true rfl) rfl htr ?_
  intro p e s m args below meth c K hr ht
  skip
  obtain ⟨PHI, hPHI, h⟩ : ∃ PHI : Mem → Prop, (∀ a, PHI a → a = MZ) ∧ wpO (F_Well_putSpareWay x1 M) PHI := ⟨fun a => a = MZ, fun _ h => h, _, h, rfl⟩
  have J16 : ∀ (x1 : Int32) (x2 : Int32) (x3 : Int32) (M : Mem), wpO (F_Well_putSpareWay_l16 x1 x2 x3 M) PHI → GG p l e { frames := 1, cells := 0, slots := 0, locals := 23 } s m args below meth c g 5 (vx_MQ below (Qn g s.heap.size (.inl none) MZ) (QX g s.heap.size (.inl none) MZ) args s 0 0 (AS g s.heap.size)) 0 0 16 [(0, .ref (g.2.1 1)), (1, .int x1), (2, .int x2), (3, .int x3)] [] M := by
    intro x1 x2 x3 M h
    unfold F_Well_putSpareWay_l16 at h
    refine loop_C2 (G := fun (x3 : Int32) (M : Mem) => GG p l e { frames := 1, cells := 0, slots := 0, locals := 23 } s m args below meth c g 5 (vx_MQ below (Qn g s.heap.size (.inl none) MZ) (QX g s.heap.size (.inl none) MZ) args s 0 0 (AS g s.heap.size)) 0 0 16 [(0, .ref (g.2.1 1)), (1, .int x1), (2, .int x2), (3, .int x3)] [] M) (body := F_Well_putSpareWay_b16 x1 x2) ?_ FUEL _ _ (wpO_bind h)
    intro P16 E16 X16
    intro z h
    unfold F_Well_putSpareWay_b16 at h
    refine G_iload_n rfl 3 rfl K dX10_putSpareWay_16 ?_
    refine G_iconst (v := 2) rfl K dX10_putSpareWay_17 ?_
    refine G_icmp_ge (tgt := 106) K dX10_putSpareWay_18 (by decide) (fun hc => ?_) (fun hc => ?_)
    · have h := wpO_t h hc
      have h := X16 _ (wpO_some h)
      try dsimp only at h
      cases hPHI _ (wpO_some h)
      exact G_vret K hr dX10_putSpareWay_106 (Nat.le_of_ble_eq_true rfl) (Nat.le_of_ble_eq_true rfl) ⟨rfl, rfl⟩
    · have h := wpO_f h hc
      refine G_iload_n rfl 2 rfl K dX10_putSpareWay_21 ?_
      refine G_iconst (v := 1) rfl K dX10_putSpareWay_22 ?_
      refine G_iadd K dX10_putSpareWay_23 ?_
      refine G_iconst (v := 4) rfl K dX10_putSpareWay_24 ?_
      refine G_iload_n rfl 3 rfl K dX10_putSpareWay_25 ?_
      refine G_imul K dX10_putSpareWay_26 ?_
      refine G_iadd K dX10_putSpareWay_27 ?_
      refine G_istore K dX10_putSpareWay_28 (Nat.le_of_ble_eq_true rfl) rfl ?_
      refine G_aload_n rfl 1 rfl K dX10_putSpareWay_30 ?_
      refine G_get (ci := 10) (k := 10) K rfl in_X10 wd_95 rfl dX10_putSpareWay_31 (Nat.le_of_ble_eq_true rfl) (sh_1 _ _) (Nat.le_of_ble_eq_true rfl) rfl ?_
      refine G_iload 0 rfl K dX10_putSpareWay_34 ?_
      refine G_iload_n rfl 2 rfl K dX10_putSpareWay_36 ?_
      refine G_iload_n rfl 4 rfl K dX10_putSpareWay_37 ?_
      refine G_ishr K dX10_putSpareWay_38 ?_
      refine G_iconst (v := 1) rfl K dX10_putSpareWay_39 ?_
      refine G_iand K dX10_putSpareWay_40 ?_
      refine G_i2l K dX10_putSpareWay_41 ?_
      obtain ⟨r2, e2, h⟩ := wpO_bind h
      refine G_callVv (ci := 7) [.int ((x2 + 1) + (4 * z.1)), .long (((x1 >>> (z.1 &&& 31)) &&& 1).toInt64)] [] K dX10_putSpareWay_42 wv_754 yd_X7_put (Nat.le_of_ble_eq_true rfl) (sh_4 _ _) rfl (by decide) (by decide) rfl rfl (Nat.le_of_ble_eq_true rfl) (K_Row_put l g htr 4 5 117 isRow_4 ((x2 + 1) + (4 * z.1)) (((x1 >>> (z.1 &&& 31)) &&& 1).toInt64) z.2 _ e2) ?_
      refine G_aload_n rfl 1 rfl K dX10_putSpareWay_45 ?_
      refine G_get (ci := 10) (k := 10) K rfl in_X10 wd_95 rfl dX10_putSpareWay_46 (Nat.le_of_ble_eq_true rfl) (sh_1 _ _) (Nat.le_of_ble_eq_true rfl) rfl ?_
      refine G_iload 0 rfl K dX10_putSpareWay_49 ?_
      refine G_iconst (v := 1) rfl K dX10_putSpareWay_51 ?_
      refine G_iadd K dX10_putSpareWay_52 ?_
      refine G_iload_n rfl 2 rfl K dX10_putSpareWay_53 ?_
      refine G_iconst (v := 2) rfl K dX10_putSpareWay_54 ?_
      refine G_iconst (v := 2) rfl K dX10_putSpareWay_55 ?_
      refine G_iload_n rfl 4 rfl K dX10_putSpareWay_56 ?_
      refine G_imul K dX10_putSpareWay_57 ?_
      refine G_iadd K dX10_putSpareWay_58 ?_
      refine G_ishr K dX10_putSpareWay_59 ?_
      refine G_iconst (v := 1) rfl K dX10_putSpareWay_60 ?_
      refine G_iand K dX10_putSpareWay_61 ?_
      refine G_i2l K dX10_putSpareWay_62 ?_
      obtain ⟨r3, e3, h⟩ := wpO_bind h
      refine G_callVv (ci := 7) [.int (((x2 + 1) + (4 * z.1)) + 1), .long (((x1 >>> ((2 + (2 * z.1)) &&& 31)) &&& 1).toInt64)] [] K dX10_putSpareWay_63 wv_754 yd_X7_put (Nat.le_of_ble_eq_true rfl) (sh_4 _ _) rfl (by decide) (by decide) rfl rfl (Nat.le_of_ble_eq_true rfl) (K_Row_put l g htr 4 5 117 isRow_4 (((x2 + 1) + (4 * z.1)) + 1) (((x1 >>> ((2 + (2 * z.1)) &&& 31)) &&& 1).toInt64) r2 _ e3) ?_
      refine G_aload_n rfl 1 rfl K dX10_putSpareWay_66 ?_
      refine G_get (ci := 10) (k := 10) K rfl in_X10 wd_95 rfl dX10_putSpareWay_67 (Nat.le_of_ble_eq_true rfl) (sh_1 _ _) (Nat.le_of_ble_eq_true rfl) rfl ?_
      refine G_iload 0 rfl K dX10_putSpareWay_70 ?_
      refine G_iconst (v := 2) rfl K dX10_putSpareWay_72 ?_
      refine G_iadd K dX10_putSpareWay_73 ?_
      refine G_iload_n rfl 2 rfl K dX10_putSpareWay_74 ?_
      refine G_iconst (v := 3) rfl K dX10_putSpareWay_75 ?_
      refine G_iconst (v := 2) rfl K dX10_putSpareWay_76 ?_
      refine G_iload_n rfl 4 rfl K dX10_putSpareWay_77 ?_
      refine G_imul K dX10_putSpareWay_78 ?_
      refine G_iadd K dX10_putSpareWay_79 ?_
      refine G_ishr K dX10_putSpareWay_80 ?_
      refine G_iconst (v := 1) rfl K dX10_putSpareWay_81 ?_
      refine G_iand K dX10_putSpareWay_82 ?_
      refine G_i2l K dX10_putSpareWay_83 ?_
      obtain ⟨r4, e4, h⟩ := wpO_bind h
      refine G_callVv (ci := 7) [.int (((x2 + 1) + (4 * z.1)) + 2), .long (((x1 >>> ((3 + (2 * z.1)) &&& 31)) &&& 1).toInt64)] [] K dX10_putSpareWay_84 wv_754 yd_X7_put (Nat.le_of_ble_eq_true rfl) (sh_4 _ _) rfl (by decide) (by decide) rfl rfl (Nat.le_of_ble_eq_true rfl) (K_Row_put l g htr 4 5 117 isRow_4 (((x2 + 1) + (4 * z.1)) + 2) (((x1 >>> ((3 + (2 * z.1)) &&& 31)) &&& 1).toInt64) r3 _ e4) ?_
      refine G_aload_n rfl 1 rfl K dX10_putSpareWay_87 ?_
      refine G_get (ci := 10) (k := 10) K rfl in_X10 wd_95 rfl dX10_putSpareWay_88 (Nat.le_of_ble_eq_true rfl) (sh_1 _ _) (Nat.le_of_ble_eq_true rfl) rfl ?_
      refine G_iload 0 rfl K dX10_putSpareWay_91 ?_
      refine G_iconst (v := 3) rfl K dX10_putSpareWay_93 ?_
      refine G_iadd K dX10_putSpareWay_94 ?_
      refine G_iload_n rfl 4 rfl K dX10_putSpareWay_95 ?_
      refine G_i2l K dX10_putSpareWay_96 ?_
      obtain ⟨r5, e5, h⟩ := wpO_bind h
      refine G_callVv (ci := 7) [.int (((x2 + 1) + (4 * z.1)) + 3), .long z.1.toInt64] [] K dX10_putSpareWay_97 wv_754 yd_X7_put (Nat.le_of_ble_eq_true rfl) (sh_4 _ _) rfl (by decide) (by decide) rfl rfl (Nat.le_of_ble_eq_true rfl) (K_Row_put l g htr 4 5 117 isRow_4 (((x2 + 1) + (4 * z.1)) + 3) z.1.toInt64 r4 _ e5) ?_
      refine G_iinc (v := z.1 + 1) 4 rfl K dX10_putSpareWay_100 rfl (Nat.le_of_ble_eq_true rfl) rfl ?_
      refine G_goto (tgt := 16) K dX10_putSpareWay_103 (by decide) ?_
      exact G_lv (lv' := [(0, .ref (g.2.1 1)), (1, .int x1), (2, .int x2), (3, .int (z.1 + 1))]) [2, 3, 4, 0] rfl (E16 (z.1 + 1) r5 (wpO_some h))
  unfold F_Well_putSpareWay at h
  refine G_bipush (v := 104) rfl K dX10_putSpareWay_0 ?_
  refine G_istore_n rfl K dX10_putSpareWay_2 (Nat.le_of_ble_eq_true rfl) rfl ?_
  refine G_aload_n rfl 1 rfl K dX10_putSpareWay_3 ?_
  refine G_get (ci := 10) (k := 10) K rfl in_X10 wd_95 rfl dX10_putSpareWay_4 (Nat.le_of_ble_eq_true rfl) (sh_1 _ _) (Nat.le_of_ble_eq_true rfl) rfl ?_
  refine G_iload_n rfl 0 rfl K dX10_putSpareWay_7 ?_
  refine G_ldc2 (v := 2) K dX10_putSpareWay_8 wd_1400 ?_
  obtain ⟨r1, e1, h⟩ := wpO_bind h
  refine G_callVv (ci := 7) [.int 104, .long 2] [] K dX10_putSpareWay_11 wv_754 yd_X7_put (Nat.le_of_ble_eq_true rfl) (sh_4 _ _) rfl (by decide) (by decide) rfl rfl (Nat.le_of_ble_eq_true rfl) (K_Row_put l g htr 4 5 117 isRow_4 104 2 M _ e1) ?_
  refine G_iconst (v := 0) rfl K dX10_putSpareWay_14 ?_
  refine G_istore_n rfl K dX10_putSpareWay_15 (Nat.le_of_ble_eq_true rfl) rfl ?_
  exact G_lv (lv' := [(0, .ref (g.2.1 1)), (1, .int x1), (2, .int 104), (3, .int 0)]) [2, 3, 1, 0] rfl (J16 x1 104 0 r1 h)
def on_X10_moodsOf : Nat := 0xac4700b6680d101b2e00b42a
theorem ob_X10_moodsOf : OKB cX10_moodsOf on_X10_moodsOf 12 := ⟨by decide +kernel, by decide +kernel⟩
theorem dX10_moodsOf_0 : dc cX10_moodsOf 0 1 (.aload_n 0) 1 := o_42 ob_X10_moodsOf rfl rfl rfl
theorem dX10_moodsOf_1 : dc cX10_moodsOf 1 4 (.getfield 46) 3 := o_180 ob_X10_moodsOf rfl rfl rfl rfl
theorem dX10_moodsOf_4 : dc cX10_moodsOf 4 5 (.iload_n 1) 1 := o_27 ob_X10_moodsOf rfl rfl rfl
theorem dX10_moodsOf_5 : dc cX10_moodsOf 5 7 (.bipush 13) 2 := o_16 ob_X10_moodsOf rfl rfl rfl rfl
theorem dX10_moodsOf_7 : dc cX10_moodsOf 7 8 .imul 1 := o_104 ob_X10_moodsOf rfl rfl rfl
theorem dX10_moodsOf_8 : dc cX10_moodsOf 8 11 (.invokevirtual 71) 3 := o_182 ob_X10_moodsOf rfl rfl rfl rfl
theorem dX10_moodsOf_11 : dc cX10_moodsOf 11 12 .ireturn 1 := o_172 ob_X10_moodsOf rfl rfl rfl
def F_Well_moodsOf (x1 : Int32) (M : Mem) : Option (Int32) :=
  (F_Row_small 5 117 (x1 * 13) M).bind fun r1 => some r1
set_option maxRecDepth 100000 in
set_option maxHeartbeats 4000000 in
theorem K_Well_moodsOf (l : Launch) (g : GB) (htr : l.stackTraces = false) (x1 : Int32) (M : Mem) (rr : Int32) (h : F_Well_moodsOf x1 M = some rr) : CT l g yX10_moodsOf (.code yX10_moodsOf cX10_moodsOf 2 (some .int) :: wAll) { frames := 1, cells := 0, slots := 0, locals := 21 } [.ref (g.2.1 1), .int x1] M (.inl (some (.int rr))) M := by
  refine CT.of [(0, .ref (g.2.1 1)), (1, .int x1)] (by decide +kernel) (Nat.le_of_ble_eq_true rfl) rfl htr ?_
  intro p e s m args below meth c K hr ht
  skip
  obtain ⟨PHI, hPHI, h⟩ : ∃ PHI : Int32 → Prop, (∀ a, PHI a → a = rr) ∧ wpO (F_Well_moodsOf x1 M) PHI := ⟨fun a => a = rr, fun _ h => h, _, h, rfl⟩
  unfold F_Well_moodsOf at h
  refine G_aload_n rfl 0 rfl K dX10_moodsOf_0 ?_
  refine G_get (ci := 10) (k := 10) K rfl in_X10 wd_95 rfl dX10_moodsOf_1 (Nat.le_of_ble_eq_true rfl) (sh_1 _ _) (Nat.le_of_ble_eq_true rfl) rfl ?_
  refine G_iload_n rfl 1 rfl K dX10_moodsOf_4 ?_
  refine G_bipush (v := 13) rfl K dX10_moodsOf_5 ?_
  refine G_imul K dX10_moodsOf_7 ?_
  obtain ⟨r1, e1, h⟩ := wpO_bind h
  refine G_callVi (ci := 7) [.int (x1 * 13)] [] K dX10_moodsOf_8 wv_479 yd_X7_small (Nat.le_of_ble_eq_true rfl) (sh_4 _ _) rfl (by decide) (by decide) rfl rfl (Nat.le_of_ble_eq_true rfl) (K_Row_small l g htr 4 5 117 isRow_4 (x1 * 13) M _ e1) ?_
  cases hPHI _ (wpO_some h)
  exact G_iret K hr rfl dX10_moodsOf_11 (Nat.le_of_ble_eq_true rfl) (Nat.le_of_ble_eq_true rfl) ⟨rfl, rfl⟩
def on_X10_actOf : Nat := 0xac4700b660681c076004680d101b2e00b42a
theorem ob_X10_actOf : OKB cX10_actOf on_X10_actOf 18 := ⟨by decide +kernel, by decide +kernel⟩
theorem dX10_actOf_0 : dc cX10_actOf 0 1 (.aload_n 0) 1 := o_42 ob_X10_actOf rfl rfl rfl
theorem dX10_actOf_1 : dc cX10_actOf 1 4 (.getfield 46) 3 := o_180 ob_X10_actOf rfl rfl rfl rfl
theorem dX10_actOf_4 : dc cX10_actOf 4 5 (.iload_n 1) 1 := o_27 ob_X10_actOf rfl rfl rfl
theorem dX10_actOf_5 : dc cX10_actOf 5 7 (.bipush 13) 2 := o_16 ob_X10_actOf rfl rfl rfl rfl
theorem dX10_actOf_7 : dc cX10_actOf 7 8 .imul 1 := o_104 ob_X10_actOf rfl rfl rfl
theorem dX10_actOf_8 : dc cX10_actOf 8 9 (.iconst 1) 1 := o_4 ob_X10_actOf rfl rfl rfl
theorem dX10_actOf_9 : dc cX10_actOf 9 10 .iadd 1 := o_96 ob_X10_actOf rfl rfl rfl
theorem dX10_actOf_10 : dc cX10_actOf 10 11 (.iconst 4) 1 := o_7 ob_X10_actOf rfl rfl rfl
theorem dX10_actOf_11 : dc cX10_actOf 11 12 (.iload_n 2) 1 := o_28 ob_X10_actOf rfl rfl rfl
theorem dX10_actOf_12 : dc cX10_actOf 12 13 .imul 1 := o_104 ob_X10_actOf rfl rfl rfl
theorem dX10_actOf_13 : dc cX10_actOf 13 14 .iadd 1 := o_96 ob_X10_actOf rfl rfl rfl
theorem dX10_actOf_14 : dc cX10_actOf 14 17 (.invokevirtual 71) 3 := o_182 ob_X10_actOf rfl rfl rfl rfl
theorem dX10_actOf_17 : dc cX10_actOf 17 18 .ireturn 1 := o_172 ob_X10_actOf rfl rfl rfl
def F_Well_actOf (x1 : Int32) (x2 : Int32) (M : Mem) : Option (Int32) :=
  (F_Row_small 5 117 (((x1 * 13) + 1) + (4 * x2)) M).bind fun r1 => some r1
set_option maxRecDepth 100000 in
set_option maxHeartbeats 4000000 in
theorem K_Well_actOf (l : Launch) (g : GB) (htr : l.stackTraces = false) (x1 : Int32) (x2 : Int32) (M : Mem) (rr : Int32) (h : F_Well_actOf x1 x2 M = some rr) : CT l g yX10_actOf (.code yX10_actOf cX10_actOf 3 (some .int) :: wAll) { frames := 1, cells := 0, slots := 0, locals := 21 } [.ref (g.2.1 1), .int x1, .int x2] M (.inl (some (.int rr))) M := by
  refine CT.of [(0, .ref (g.2.1 1)), (1, .int x1), (2, .int x2)] (by decide +kernel) (Nat.le_of_ble_eq_true rfl) rfl htr ?_
  intro p e s m args below meth c K hr ht
  skip
  obtain ⟨PHI, hPHI, h⟩ : ∃ PHI : Int32 → Prop, (∀ a, PHI a → a = rr) ∧ wpO (F_Well_actOf x1 x2 M) PHI := ⟨fun a => a = rr, fun _ h => h, _, h, rfl⟩
  unfold F_Well_actOf at h
  refine G_aload_n rfl 0 rfl K dX10_actOf_0 ?_
  refine G_get (ci := 10) (k := 10) K rfl in_X10 wd_95 rfl dX10_actOf_1 (Nat.le_of_ble_eq_true rfl) (sh_1 _ _) (Nat.le_of_ble_eq_true rfl) rfl ?_
  refine G_iload_n rfl 1 rfl K dX10_actOf_4 ?_
  refine G_bipush (v := 13) rfl K dX10_actOf_5 ?_
  refine G_imul K dX10_actOf_7 ?_
  refine G_iconst (v := 1) rfl K dX10_actOf_8 ?_
  refine G_iadd K dX10_actOf_9 ?_
  refine G_iconst (v := 4) rfl K dX10_actOf_10 ?_
  refine G_iload_n rfl 2 rfl K dX10_actOf_11 ?_
  refine G_imul K dX10_actOf_12 ?_
  refine G_iadd K dX10_actOf_13 ?_
  obtain ⟨r1, e1, h⟩ := wpO_bind h
  refine G_callVi (ci := 7) [.int (((x1 * 13) + 1) + (4 * x2))] [] K dX10_actOf_14 wv_479 yd_X7_small (Nat.le_of_ble_eq_true rfl) (sh_4 _ _) rfl (by decide) (by decide) rfl rfl (Nat.le_of_ble_eq_true rfl) (K_Row_small l g htr 4 5 117 isRow_4 (((x1 * 13) + 1) + (4 * x2)) M _ e1) ?_
  cases hPHI _ (wpO_some h)
  exact G_iret K hr rfl dX10_actOf_17 (Nat.le_of_ble_eq_true rfl) (Nat.le_of_ble_eq_true rfl) ⟨rfl, rfl⟩
def on_X10_nextOf : Nat := 0xac4700b6601d60681c076005680d101b2e00b42a
theorem ob_X10_nextOf : OKB cX10_nextOf on_X10_nextOf 20 := ⟨by decide +kernel, by decide +kernel⟩
theorem dX10_nextOf_0 : dc cX10_nextOf 0 1 (.aload_n 0) 1 := o_42 ob_X10_nextOf rfl rfl rfl
theorem dX10_nextOf_1 : dc cX10_nextOf 1 4 (.getfield 46) 3 := o_180 ob_X10_nextOf rfl rfl rfl rfl
theorem dX10_nextOf_4 : dc cX10_nextOf 4 5 (.iload_n 1) 1 := o_27 ob_X10_nextOf rfl rfl rfl
theorem dX10_nextOf_5 : dc cX10_nextOf 5 7 (.bipush 13) 2 := o_16 ob_X10_nextOf rfl rfl rfl rfl
theorem dX10_nextOf_7 : dc cX10_nextOf 7 8 .imul 1 := o_104 ob_X10_nextOf rfl rfl rfl
theorem dX10_nextOf_8 : dc cX10_nextOf 8 9 (.iconst 2) 1 := o_5 ob_X10_nextOf rfl rfl rfl
theorem dX10_nextOf_9 : dc cX10_nextOf 9 10 .iadd 1 := o_96 ob_X10_nextOf rfl rfl rfl
theorem dX10_nextOf_10 : dc cX10_nextOf 10 11 (.iconst 4) 1 := o_7 ob_X10_nextOf rfl rfl rfl
theorem dX10_nextOf_11 : dc cX10_nextOf 11 12 (.iload_n 2) 1 := o_28 ob_X10_nextOf rfl rfl rfl
theorem dX10_nextOf_12 : dc cX10_nextOf 12 13 .imul 1 := o_104 ob_X10_nextOf rfl rfl rfl
theorem dX10_nextOf_13 : dc cX10_nextOf 13 14 .iadd 1 := o_96 ob_X10_nextOf rfl rfl rfl
theorem dX10_nextOf_14 : dc cX10_nextOf 14 15 (.iload_n 3) 1 := o_29 ob_X10_nextOf rfl rfl rfl
theorem dX10_nextOf_15 : dc cX10_nextOf 15 16 .iadd 1 := o_96 ob_X10_nextOf rfl rfl rfl
theorem dX10_nextOf_16 : dc cX10_nextOf 16 19 (.invokevirtual 71) 3 := o_182 ob_X10_nextOf rfl rfl rfl rfl
theorem dX10_nextOf_19 : dc cX10_nextOf 19 20 .ireturn 1 := o_172 ob_X10_nextOf rfl rfl rfl
def F_Well_nextOf (x1 : Int32) (x2 : Int32) (x3 : Int32) (M : Mem) : Option (Int32) :=
  (F_Row_small 5 117 ((((x1 * 13) + 2) + (4 * x2)) + x3) M).bind fun r1 => some r1
set_option maxRecDepth 100000 in
set_option maxHeartbeats 4000000 in
theorem K_Well_nextOf (l : Launch) (g : GB) (htr : l.stackTraces = false) (x1 : Int32) (x2 : Int32) (x3 : Int32) (M : Mem) (rr : Int32) (h : F_Well_nextOf x1 x2 x3 M = some rr) : CT l g yX10_nextOf (.code yX10_nextOf cX10_nextOf 4 (some .int) :: wAll) { frames := 1, cells := 0, slots := 0, locals := 21 } [.ref (g.2.1 1), .int x1, .int x2, .int x3] M (.inl (some (.int rr))) M := by
  refine CT.of [(0, .ref (g.2.1 1)), (1, .int x1), (2, .int x2), (3, .int x3)] (by decide +kernel) (Nat.le_of_ble_eq_true rfl) rfl htr ?_
  intro p e s m args below meth c K hr ht
  skip
  obtain ⟨PHI, hPHI, h⟩ : ∃ PHI : Int32 → Prop, (∀ a, PHI a → a = rr) ∧ wpO (F_Well_nextOf x1 x2 x3 M) PHI := ⟨fun a => a = rr, fun _ h => h, _, h, rfl⟩
  unfold F_Well_nextOf at h
  refine G_aload_n rfl 0 rfl K dX10_nextOf_0 ?_
  refine G_get (ci := 10) (k := 10) K rfl in_X10 wd_95 rfl dX10_nextOf_1 (Nat.le_of_ble_eq_true rfl) (sh_1 _ _) (Nat.le_of_ble_eq_true rfl) rfl ?_
  refine G_iload_n rfl 1 rfl K dX10_nextOf_4 ?_
  refine G_bipush (v := 13) rfl K dX10_nextOf_5 ?_
  refine G_imul K dX10_nextOf_7 ?_
  refine G_iconst (v := 2) rfl K dX10_nextOf_8 ?_
  refine G_iadd K dX10_nextOf_9 ?_
  refine G_iconst (v := 4) rfl K dX10_nextOf_10 ?_
  refine G_iload_n rfl 2 rfl K dX10_nextOf_11 ?_
  refine G_imul K dX10_nextOf_12 ?_
  refine G_iadd K dX10_nextOf_13 ?_
  refine G_iload_n rfl 3 rfl K dX10_nextOf_14 ?_
  refine G_iadd K dX10_nextOf_15 ?_
  obtain ⟨r1, e1, h⟩ := wpO_bind h
  refine G_callVi (ci := 7) [.int ((((x1 * 13) + 2) + (4 * x2)) + x3)] [] K dX10_nextOf_16 wv_479 yd_X7_small (Nat.le_of_ble_eq_true rfl) (sh_4 _ _) rfl (by decide) (by decide) rfl rfl (Nat.le_of_ble_eq_true rfl) (K_Row_small l g htr 4 5 117 isRow_4 ((((x1 * 13) + 2) + (4 * x2)) + x3) M _ e1) ?_
  cases hPHI _ (wpO_some h)
  exact G_iret K hr rfl dX10_nextOf_19 (Nat.le_of_ble_eq_true rfl) (Nat.le_of_ble_eq_true rfl) ⟨rfl, rfl⟩
def on_J9_min_7cf53 : Nat := 0xac1b0400a71a0700a31b1a
theorem ob_J9_min_7cf53 : OKB cJ9_min_7cf53 on_J9_min_7cf53 11 := ⟨by decide +kernel, by decide +kernel⟩
theorem dJ9_min_7cf53_0 : dc cJ9_min_7cf53 0 1 (.iload_n 0) 1 := o_26 ob_J9_min_7cf53 rfl rfl rfl
theorem dJ9_min_7cf53_1 : dc cJ9_min_7cf53 1 2 (.iload_n 1) 1 := o_27 ob_J9_min_7cf53 rfl rfl rfl
theorem dJ9_min_7cf53_2 : dc cJ9_min_7cf53 2 5 (.if_icmp .gt 7) 3 := o_163 ob_J9_min_7cf53 rfl rfl rfl rfl
theorem dJ9_min_7cf53_5 : dc cJ9_min_7cf53 5 6 (.iload_n 0) 1 := o_26 ob_J9_min_7cf53 rfl rfl rfl
theorem dJ9_min_7cf53_6 : dc cJ9_min_7cf53 6 9 (.goto 4) 3 := o_167 ob_J9_min_7cf53 rfl rfl rfl rfl
theorem dJ9_min_7cf53_9 : dc cJ9_min_7cf53 9 10 (.iload_n 1) 1 := o_27 ob_J9_min_7cf53 rfl rfl rfl
theorem dJ9_min_7cf53_10 : dc cJ9_min_7cf53 10 11 .ireturn 1 := o_172 ob_J9_min_7cf53 rfl rfl rfl
def F_Math_min_III (x0 : Int32) (x1 : Int32) (M : Mem) : Option (Int32) :=
  if x1 < x0 then some x1 else some x0
set_option maxRecDepth 100000 in
set_option maxHeartbeats 4000000 in
theorem K_Math_min_III (l : Launch) (g : GB) (htr : l.stackTraces = false) (x0 : Int32) (x1 : Int32) (M : Mem) (rr : Int32) (h : F_Math_min_III x0 x1 M = some rr) : CT l g yJ9_min_7cf53 (.code yJ9_min_7cf53 cJ9_min_7cf53 2 (some .int) :: wAll) { frames := 0, cells := 0, slots := 0, locals := 0 } [.int x0, .int x1] M (.inl (some (.int rr))) M := by
  refine CT.of [(0, .int x0), (1, .int x1)] pf_J9_min_7cf53 (Nat.le_of_ble_eq_true rfl) rfl htr ?_
  intro p e s m args below meth c K hr ht
  skip
  obtain ⟨PHI, hPHI, h⟩ : ∃ PHI : Int32 → Prop, (∀ a, PHI a → a = rr) ∧ wpO (F_Math_min_III x0 x1 M) PHI := ⟨fun a => a = rr, fun _ h => h, _, h, rfl⟩
  unfold F_Math_min_III at h
  refine G_iload_n rfl 0 rfl K dJ9_min_7cf53_0 ?_
  refine G_iload_n rfl 1 rfl K dJ9_min_7cf53_1 ?_
  refine G_icmp_gt (tgt := 9) K dJ9_min_7cf53_2 (by decide) (fun hc => ?_) (fun hc => ?_)
  · have h := wpO_t h hc
    refine G_iload_n rfl 1 rfl K dJ9_min_7cf53_9 ?_
    cases hPHI _ (wpO_some h)
    exact G_iret K hr rfl dJ9_min_7cf53_10 (Nat.le_of_ble_eq_true rfl) (Nat.le_of_ble_eq_true rfl) ⟨rfl, rfl⟩
  · have h := wpO_f h hc
    refine G_iload_n rfl 0 rfl K dJ9_min_7cf53_5 ?_
    refine G_goto (tgt := 10) K dJ9_min_7cf53_6 (by decide) ?_
    cases hPHI _ (wpO_some h)
    exact G_iret K hr rfl dJ9_min_7cf53_10 (Nat.le_of_ble_eq_true rfl) (Nat.le_of_ble_eq_true rfl) ⟨rfl, rfl⟩
theorem yd_X10_moodsOf : ydN yX10_moodsOf 1 := ⟨by decide, by decide, by decide +kernel⟩
theorem yd_J9_min_7cf53 : ydN yJ9_min_7cf53 2 := ⟨by decide, by decide, by decide +kernel⟩
theorem yd_X10_actOf : ydN yX10_actOf 2 := ⟨by decide, by decide, by decide +kernel⟩
theorem wv_475 : wdV "KeptWell$Well" 81 yX10_moodsOf cX10_moodsOf 2 (some .int) := ⟨wd_475, wd_476, wd_477, wd_2, wd_478⟩
theorem wv_483 : wdS "KeptWell$Well" 84 yJ9_min_7cf53 cJ9_min_7cf53 2 (some .int) := ⟨wd_483, wd_484, wd_4, wd_485⟩
theorem wv_486 : wdV "KeptWell$Well" 90 yX10_actOf cX10_actOf 3 (some .int) := ⟨wd_486, wd_487, wd_488, wd_2, wd_489⟩
def on_X10_isBarred : Nat := 0xac03e9ffa7010384ac040500a10700b42a5a00b61d1b2a1800a21c1d3e033d5400b8065100b61b2a
theorem ob_X10_isBarred : OKB cX10_isBarred on_X10_isBarred 40 := ⟨by decide +kernel, by decide +kernel⟩
theorem dX10_isBarred_0 : dc cX10_isBarred 0 1 (.aload_n 0) 1 := o_42 ob_X10_isBarred rfl rfl rfl
theorem dX10_isBarred_1 : dc cX10_isBarred 1 2 (.iload_n 1) 1 := o_27 ob_X10_isBarred rfl rfl rfl
theorem dX10_isBarred_2 : dc cX10_isBarred 2 5 (.invokevirtual 81) 3 := o_182 ob_X10_isBarred rfl rfl rfl rfl
theorem dX10_isBarred_5 : dc cX10_isBarred 5 6 (.iconst 3) 1 := o_6 ob_X10_isBarred rfl rfl rfl
theorem dX10_isBarred_6 : dc cX10_isBarred 6 9 (.invokestatic 84) 3 := o_184 ob_X10_isBarred rfl rfl rfl rfl
theorem dX10_isBarred_9 : dc cX10_isBarred 9 10 (.istore_n 2) 1 := o_61 ob_X10_isBarred rfl rfl rfl
theorem dX10_isBarred_10 : dc cX10_isBarred 10 11 (.iconst 0) 1 := o_3 ob_X10_isBarred rfl rfl rfl
theorem dX10_isBarred_11 : dc cX10_isBarred 11 12 (.istore_n 3) 1 := o_62 ob_X10_isBarred rfl rfl rfl
theorem dX10_isBarred_12 : dc cX10_isBarred 12 13 (.iload_n 3) 1 := o_29 ob_X10_isBarred rfl rfl rfl
theorem dX10_isBarred_13 : dc cX10_isBarred 13 14 (.iload_n 2) 1 := o_28 ob_X10_isBarred rfl rfl rfl
theorem dX10_isBarred_14 : dc cX10_isBarred 14 17 (.if_icmp .ge 24) 3 := o_162 ob_X10_isBarred rfl rfl rfl rfl
theorem dX10_isBarred_17 : dc cX10_isBarred 17 18 (.aload_n 0) 1 := o_42 ob_X10_isBarred rfl rfl rfl
theorem dX10_isBarred_18 : dc cX10_isBarred 18 19 (.iload_n 1) 1 := o_27 ob_X10_isBarred rfl rfl rfl
theorem dX10_isBarred_19 : dc cX10_isBarred 19 20 (.iload_n 3) 1 := o_29 ob_X10_isBarred rfl rfl rfl
theorem dX10_isBarred_20 : dc cX10_isBarred 20 23 (.invokevirtual 90) 3 := o_182 ob_X10_isBarred rfl rfl rfl rfl
theorem dX10_isBarred_23 : dc cX10_isBarred 23 24 (.aload_n 0) 1 := o_42 ob_X10_isBarred rfl rfl rfl
theorem dX10_isBarred_24 : dc cX10_isBarred 24 27 (.getfield 7) 3 := o_180 ob_X10_isBarred rfl rfl rfl rfl
theorem dX10_isBarred_27 : dc cX10_isBarred 27 30 (.if_icmp .lt 5) 3 := o_161 ob_X10_isBarred rfl rfl rfl rfl
theorem dX10_isBarred_30 : dc cX10_isBarred 30 31 (.iconst 1) 1 := o_4 ob_X10_isBarred rfl rfl rfl
theorem dX10_isBarred_31 : dc cX10_isBarred 31 32 .ireturn 1 := o_172 ob_X10_isBarred rfl rfl rfl
theorem dX10_isBarred_32 : dc cX10_isBarred 32 35 (.iinc 3 1) 3 := o_132 ob_X10_isBarred rfl rfl rfl rfl rfl
theorem dX10_isBarred_35 : dc cX10_isBarred 35 38 (.goto (-23)) 3 := o_167 ob_X10_isBarred rfl rfl rfl rfl
theorem dX10_isBarred_38 : dc cX10_isBarred 38 39 (.iconst 0) 1 := o_3 ob_X10_isBarred rfl rfl rfl
theorem dX10_isBarred_39 : dc cX10_isBarred 39 40 .ireturn 1 := o_172 ob_X10_isBarred rfl rfl rfl
def F_Well_isBarred_b12 (x1 : Int32) (x2 : Int32) (M : Mem) (z : Int32) : Option ((Int32) ⊕ ((Unit) ⊕ ((Unit)))) :=
  if x2 ≤ z then some (.inr (.inr (()))) else (F_Well_actOf x1 z M).bind fun r3 => if r3 < (M.1 1 0) then some (.inl (z + 1)) else some (.inr (.inl (())))
def F_Well_isBarred_l12 (x1 : Int32) (x2 : Int32) (x3 : Int32) (M : Mem) : Option (Bool) :=
  (iter (F_Well_isBarred_b12 x1 x2 M) FUEL x3).bind fun q => match q with
    | .inl r => some true
    | .inr r => some false
def F_Well_isBarred (x1 : Int32) (M : Mem) : Option (Bool) :=
  (F_Well_moodsOf x1 M).bind fun r1 => (F_Math_min_III r1 3 M).bind fun r2 => F_Well_isBarred_l12 x1 r2 0 M
set_option maxRecDepth 100000 in
set_option maxHeartbeats 4000000 in
theorem K_Well_isBarred (l : Launch) (g : GB) (htr : l.stackTraces = false) (x1 : Int32) (M : Mem) (rr : Bool) (h : F_Well_isBarred x1 M = some rr) : CT l g yX10_isBarred (.code yX10_isBarred cX10_isBarred 4 (some .boolean) :: wAll) { frames := 2, cells := 0, slots := 0, locals := 43 } [.ref (g.2.1 1), .int x1] M (.inl (some (.int (b2i rr)))) M := by
  refine CT.of [(0, .ref (g.2.1 1)), (1, .int x1)] (by decide +kernel) (Nat.le_of_ble_eq_true rfl) rfl htr ?_
  intro p e s m args below meth c K hr ht
  skip
  obtain ⟨PHI, hPHI, h⟩ : ∃ PHI : Bool → Prop, (∀ a, PHI a → a = rr) ∧ wpO (F_Well_isBarred x1 M) PHI := ⟨fun a => a = rr, fun _ h => h, _, h, rfl⟩
  have J12 : ∀ (x1 : Int32) (x2 : Int32) (x3 : Int32), wpO (F_Well_isBarred_l12 x1 x2 x3 M) PHI → GG p l e { frames := 2, cells := 0, slots := 0, locals := 43 } s m args below meth c g 4 (vx_MQ below (Qn g s.heap.size (.inl (some (.int (b2i rr)))) M) (QX g s.heap.size (.inl (some (.int (b2i rr)))) M) args s 0 0 (AS g s.heap.size)) 0 0 12 [(0, .ref (g.2.1 1)), (1, .int x1), (2, .int x2), (3, .int x3)] [] M := by
    intro x1 x2 x3 h
    unfold F_Well_isBarred_l12 at h
    refine loop_C1 (G := fun (x3 : Int32) => GG p l e { frames := 2, cells := 0, slots := 0, locals := 43 } s m args below meth c g 4 (vx_MQ below (Qn g s.heap.size (.inl (some (.int (b2i rr)))) M) (QX g s.heap.size (.inl (some (.int (b2i rr)))) M) args s 0 0 (AS g s.heap.size)) 0 0 12 [(0, .ref (g.2.1 1)), (1, .int x1), (2, .int x2), (3, .int x3)] [] M) (body := F_Well_isBarred_b12 x1 x2 M) ?_ FUEL _ (wpO_bind h)
    intro P12 E12 X12
    intro z h
    unfold F_Well_isBarred_b12 at h
    refine G_iload_n rfl 3 rfl K dX10_isBarred_12 ?_
    refine G_iload_n rfl 2 rfl K dX10_isBarred_13 ?_
    refine G_icmp_ge (tgt := 38) K dX10_isBarred_14 (by decide) (fun hc => ?_) (fun hc => ?_)
    · have h := wpO_t h hc
      have h := X12 _ (wpO_some h)
      try dsimp only at h
      refine G_iconst (v := 0) rfl K dX10_isBarred_38 ?_
      cases hPHI _ (wpO_some h)
      exact G_iret K hr rfl dX10_isBarred_39 (Nat.le_of_ble_eq_true rfl) (Nat.le_of_ble_eq_true rfl) ⟨rfl, rfl⟩
    · have h := wpO_f h hc
      refine G_aload_n rfl 0 rfl K dX10_isBarred_17 ?_
      refine G_iload_n rfl 1 rfl K dX10_isBarred_18 ?_
      refine G_iload_n rfl 3 rfl K dX10_isBarred_19 ?_
      obtain ⟨r3, e3, h⟩ := wpO_bind h
      refine G_callVi (ci := 10) [.int x1, .int z] [] K dX10_isBarred_20 wv_486 yd_X10_actOf (Nat.le_of_ble_eq_true rfl) (sh_1 _ _) rfl (by decide) (by decide) rfl rfl (Nat.le_of_ble_eq_true rfl) (K_Well_actOf l g htr x1 z M _ e3) ?_
      refine G_aload_n rfl 0 rfl K dX10_isBarred_23 ?_
      refine G_get (ci := 10) (k := 0) K rfl in_X10 wd_56 rfl dX10_isBarred_24 (Nat.le_of_ble_eq_true rfl) (sh_1 _ _) (Nat.le_of_ble_eq_true rfl) rfl ?_
      refine G_icmp_lt (tgt := 32) K dX10_isBarred_27 (by decide) (fun hc => ?_) (fun hc => ?_)
      · have h := wpO_t h hc
        refine G_iinc (v := z + 1) 3 rfl K dX10_isBarred_32 rfl (Nat.le_of_ble_eq_true rfl) rfl ?_
        refine G_goto (tgt := 12) K dX10_isBarred_35 (by decide) ?_
        exact G_lv (lv' := [(0, .ref (g.2.1 1)), (1, .int x1), (2, .int x2), (3, .int (z + 1))]) [1, 2, 3, 0] rfl (E12 (z + 1) (wpO_some h))
      · have h := wpO_f h hc
        have h := X12 _ (wpO_some h)
        try dsimp only at h
        refine G_iconst (v := 1) rfl K dX10_isBarred_30 ?_
        cases hPHI _ (wpO_some h)
        exact G_iret K hr rfl dX10_isBarred_31 (Nat.le_of_ble_eq_true rfl) (Nat.le_of_ble_eq_true rfl) ⟨rfl, rfl⟩
  unfold F_Well_isBarred at h
  refine G_aload_n rfl 0 rfl K dX10_isBarred_0 ?_
  refine G_iload_n rfl 1 rfl K dX10_isBarred_1 ?_
  obtain ⟨r1, e1, h⟩ := wpO_bind h
  refine G_callVi (ci := 10) [.int x1] [] K dX10_isBarred_2 wv_475 yd_X10_moodsOf (Nat.le_of_ble_eq_true rfl) (sh_1 _ _) rfl (by decide) (by decide) rfl rfl (Nat.le_of_ble_eq_true rfl) (K_Well_moodsOf l g htr x1 M _ e1) ?_
  refine G_iconst (v := 3) rfl K dX10_isBarred_5 ?_
  obtain ⟨r2, e2, h⟩ := wpO_bind h
  refine G_callSi [.int r1, .int 3] [] K dX10_isBarred_6 wv_483 yd_J9_min_7cf53 (by decide) (by decide) rfl rfl (Nat.le_of_ble_eq_true rfl) (K_Math_min_III l g htr r1 3 M _ e2) ?_
  refine G_istore_n rfl K dX10_isBarred_9 (Nat.le_of_ble_eq_true rfl) rfl ?_
  refine G_iconst (v := 0) rfl K dX10_isBarred_10 ?_
  refine G_istore_n rfl K dX10_isBarred_11 (Nat.le_of_ble_eq_true rfl) rfl ?_
  exact G_lv (lv' := [(0, .ref (g.2.1 1)), (1, .int x1), (2, .int r2), (3, .int 0)]) [2, 3, 1, 0] rfl (J12 x1 r2 0 h)
theorem yd_X10_isBarred : ydN yX10_isBarred 1 := ⟨by decide, by decide, by decide +kernel⟩
theorem wv_641 : wdV "KeptWell$Well" 93 yX10_isBarred cX10_isBarred 4 (some .boolean) := ⟨wd_641, wd_472, wd_473, wd_2, wd_474⟩
def on_X10_barredWays : Nat := 0xac1bdfffa70102843c60030400a7040700995d00b61c2a1b1900a21c00b42a1c2100a208101c3d033c03
theorem ob_X10_barredWays : OKB cX10_barredWays on_X10_barredWays 42 := ⟨by decide +kernel, by decide +kernel⟩
theorem dX10_barredWays_0 : dc cX10_barredWays 0 1 (.iconst 0) 1 := o_3 ob_X10_barredWays rfl rfl rfl
theorem dX10_barredWays_1 : dc cX10_barredWays 1 2 (.istore_n 1) 1 := o_60 ob_X10_barredWays rfl rfl rfl
theorem dX10_barredWays_2 : dc cX10_barredWays 2 3 (.iconst 0) 1 := o_3 ob_X10_barredWays rfl rfl rfl
theorem dX10_barredWays_3 : dc cX10_barredWays 3 4 (.istore_n 2) 1 := o_61 ob_X10_barredWays rfl rfl rfl
theorem dX10_barredWays_4 : dc cX10_barredWays 4 5 (.iload_n 2) 1 := o_28 ob_X10_barredWays rfl rfl rfl
theorem dX10_barredWays_5 : dc cX10_barredWays 5 7 (.bipush 8) 2 := o_16 ob_X10_barredWays rfl rfl rfl rfl
theorem dX10_barredWays_7 : dc cX10_barredWays 7 10 (.if_icmp .ge 33) 3 := o_162 ob_X10_barredWays rfl rfl rfl rfl
theorem dX10_barredWays_10 : dc cX10_barredWays 10 11 (.iload_n 2) 1 := o_28 ob_X10_barredWays rfl rfl rfl
theorem dX10_barredWays_11 : dc cX10_barredWays 11 12 (.aload_n 0) 1 := o_42 ob_X10_barredWays rfl rfl rfl
theorem dX10_barredWays_12 : dc cX10_barredWays 12 15 (.getfield 28) 3 := o_180 ob_X10_barredWays rfl rfl rfl rfl
theorem dX10_barredWays_15 : dc cX10_barredWays 15 18 (.if_icmp .ge 25) 3 := o_162 ob_X10_barredWays rfl rfl rfl rfl
theorem dX10_barredWays_18 : dc cX10_barredWays 18 19 (.iload_n 1) 1 := o_27 ob_X10_barredWays rfl rfl rfl
theorem dX10_barredWays_19 : dc cX10_barredWays 19 20 (.aload_n 0) 1 := o_42 ob_X10_barredWays rfl rfl rfl
theorem dX10_barredWays_20 : dc cX10_barredWays 20 21 (.iload_n 2) 1 := o_28 ob_X10_barredWays rfl rfl rfl
theorem dX10_barredWays_21 : dc cX10_barredWays 21 24 (.invokevirtual 93) 3 := o_182 ob_X10_barredWays rfl rfl rfl rfl
theorem dX10_barredWays_24 : dc cX10_barredWays 24 27 (.ifCond .eq 7) 3 := o_153 ob_X10_barredWays rfl rfl rfl rfl
theorem dX10_barredWays_27 : dc cX10_barredWays 27 28 (.iconst 1) 1 := o_4 ob_X10_barredWays rfl rfl rfl
theorem dX10_barredWays_28 : dc cX10_barredWays 28 31 (.goto 4) 3 := o_167 ob_X10_barredWays rfl rfl rfl rfl
theorem dX10_barredWays_31 : dc cX10_barredWays 31 32 (.iconst 0) 1 := o_3 ob_X10_barredWays rfl rfl rfl
theorem dX10_barredWays_32 : dc cX10_barredWays 32 33 .iadd 1 := o_96 ob_X10_barredWays rfl rfl rfl
theorem dX10_barredWays_33 : dc cX10_barredWays 33 34 (.istore_n 1) 1 := o_60 ob_X10_barredWays rfl rfl rfl
theorem dX10_barredWays_34 : dc cX10_barredWays 34 37 (.iinc 2 1) 3 := o_132 ob_X10_barredWays rfl rfl rfl rfl rfl
theorem dX10_barredWays_37 : dc cX10_barredWays 37 40 (.goto (-33)) 3 := o_167 ob_X10_barredWays rfl rfl rfl rfl
theorem dX10_barredWays_40 : dc cX10_barredWays 40 41 (.iload_n 1) 1 := o_27 ob_X10_barredWays rfl rfl rfl
theorem dX10_barredWays_41 : dc cX10_barredWays 41 42 .ireturn 1 := o_172 ob_X10_barredWays rfl rfl rfl
def F_Well_barredWays_b4 (M : Mem) (z : Int32 × Int32) : Option ((Int32 × Int32) ⊕ ((Int32))) :=
  if 8 ≤ z.2 then some (.inr z.1) else if (M.1 1 6) ≤ z.2 then some (.inr z.1) else (F_Well_isBarred z.2 M).bind fun r1 => if r1 = true then some (.inl ((z.1 + 1, z.2 + 1))) else some (.inl ((z.1 + 0, z.2 + 1)))
def F_Well_barredWays_l4 (x1 : Int32) (x2 : Int32) (M : Mem) : Option (Int32) :=
  (iter (F_Well_barredWays_b4 M) FUEL (x1, x2)).bind fun r => some r
def F_Well_barredWays (M : Mem) : Option (Int32) :=
  F_Well_barredWays_l4 0 0 M
set_option maxRecDepth 100000 in
set_option maxHeartbeats 4000000 in
theorem K_Well_barredWays (l : Launch) (g : GB) (htr : l.stackTraces = false) (M : Mem) (rr : Int32) (h : F_Well_barredWays M = some rr) : CT l g yX10_barredWays (.code yX10_barredWays cX10_barredWays 3 (some .int) :: wAll) { frames := 3, cells := 0, slots := 0, locals := 66 } [.ref (g.2.1 1)] M (.inl (some (.int rr))) M := by
  refine CT.of [(0, .ref (g.2.1 1))] (by decide +kernel) (Nat.le_of_ble_eq_true rfl) rfl htr ?_
  intro p e s m args below meth c K hr ht
  skip
  obtain ⟨PHI, hPHI, h⟩ : ∃ PHI : Int32 → Prop, (∀ a, PHI a → a = rr) ∧ wpO (F_Well_barredWays M) PHI := ⟨fun a => a = rr, fun _ h => h, _, h, rfl⟩
  have J4 : ∀ (x1 : Int32) (x2 : Int32), wpO (F_Well_barredWays_l4 x1 x2 M) PHI → GG p l e { frames := 3, cells := 0, slots := 0, locals := 66 } s m args below meth c g 3 (vx_MQ below (Qn g s.heap.size (.inl (some (.int rr))) M) (QX g s.heap.size (.inl (some (.int rr))) M) args s 0 0 (AS g s.heap.size)) 0 0 4 [(0, .ref (g.2.1 1)), (1, .int x1), (2, .int x2)] [] M := by
    intro x1 x2 h
    unfold F_Well_barredWays_l4 at h
    refine loop_C2 (G := fun (x1 : Int32) (x2 : Int32) => GG p l e { frames := 3, cells := 0, slots := 0, locals := 66 } s m args below meth c g 3 (vx_MQ below (Qn g s.heap.size (.inl (some (.int rr))) M) (QX g s.heap.size (.inl (some (.int rr))) M) args s 0 0 (AS g s.heap.size)) 0 0 4 [(0, .ref (g.2.1 1)), (1, .int x1), (2, .int x2)] [] M) (body := F_Well_barredWays_b4 M) ?_ FUEL _ _ (wpO_bind h)
    intro P4 E4 X4
    intro z h
    unfold F_Well_barredWays_b4 at h
    refine G_iload_n rfl 2 rfl K dX10_barredWays_4 ?_
    refine G_bipush (v := 8) rfl K dX10_barredWays_5 ?_
    refine G_icmp_ge (tgt := 40) K dX10_barredWays_7 (by decide) (fun hc => ?_) (fun hc => ?_)
    · have h := wpO_t h hc
      have h := X4 _ (wpO_some h)
      try dsimp only at h
      refine G_iload_n rfl 1 rfl K dX10_barredWays_40 ?_
      cases hPHI _ (wpO_some h)
      exact G_iret K hr rfl dX10_barredWays_41 (Nat.le_of_ble_eq_true rfl) (Nat.le_of_ble_eq_true rfl) ⟨rfl, rfl⟩
    · have h := wpO_f h hc
      refine G_iload_n rfl 2 rfl K dX10_barredWays_10 ?_
      refine G_aload_n rfl 0 rfl K dX10_barredWays_11 ?_
      refine G_get (ci := 10) (k := 6) K rfl in_X10 wd_84 rfl dX10_barredWays_12 (Nat.le_of_ble_eq_true rfl) (sh_1 _ _) (Nat.le_of_ble_eq_true rfl) rfl ?_
      refine G_icmp_ge (tgt := 40) K dX10_barredWays_15 (by decide) (fun hc => ?_) (fun hc => ?_)
      · have h := wpO_t h hc
        have h := X4 _ (wpO_some h)
        try dsimp only at h
        refine G_iload_n rfl 1 rfl K dX10_barredWays_40 ?_
        cases hPHI _ (wpO_some h)
        exact G_iret K hr rfl dX10_barredWays_41 (Nat.le_of_ble_eq_true rfl) (Nat.le_of_ble_eq_true rfl) ⟨rfl, rfl⟩
      · have h := wpO_f h hc
        refine G_iload_n rfl 1 rfl K dX10_barredWays_18 ?_
        refine G_aload_n rfl 0 rfl K dX10_barredWays_19 ?_
        refine G_iload_n rfl 2 rfl K dX10_barredWays_20 ?_
        obtain ⟨r1, e1, h⟩ := wpO_bind h
        refine G_callVi (ci := 10) [.int z.2] [.int z.1] K dX10_barredWays_21 wv_641 yd_X10_isBarred (Nat.le_of_ble_eq_true rfl) (sh_1 _ _) rfl (by decide) (by decide) rfl rfl (Nat.le_of_ble_eq_true rfl) (K_Well_isBarred l g htr z.2 M _ e1) ?_
        refine G_ifb_eq (tgt := 31) K dX10_barredWays_24 (by decide) (fun hc => ?_) (fun hc => ?_)
        · have h := wpO_bf h hc
          refine G_iconst (v := 0) rfl K dX10_barredWays_31 ?_
          refine G_iadd K dX10_barredWays_32 ?_
          refine G_istore_n rfl K dX10_barredWays_33 (Nat.le_of_ble_eq_true rfl) rfl ?_
          refine G_iinc (v := z.2 + 1) 2 rfl K dX10_barredWays_34 rfl (Nat.le_of_ble_eq_true rfl) rfl ?_
          refine G_goto (tgt := 4) K dX10_barredWays_37 (by decide) ?_
          exact G_lv (lv' := [(0, .ref (g.2.1 1)), (1, .int (z.1 + 0)), (2, .int (z.2 + 1))]) [2, 1, 0] rfl (E4 (z.1 + 0) (z.2 + 1) (wpO_some h))
        · have h := wpO_t h hc
          refine G_iconst (v := 1) rfl K dX10_barredWays_27 ?_
          refine G_goto (tgt := 32) K dX10_barredWays_28 (by decide) ?_
          refine G_iadd K dX10_barredWays_32 ?_
          refine G_istore_n rfl K dX10_barredWays_33 (Nat.le_of_ble_eq_true rfl) rfl ?_
          refine G_iinc (v := z.2 + 1) 2 rfl K dX10_barredWays_34 rfl (Nat.le_of_ble_eq_true rfl) rfl ?_
          refine G_goto (tgt := 4) K dX10_barredWays_37 (by decide) ?_
          exact G_lv (lv' := [(0, .ref (g.2.1 1)), (1, .int (z.1 + 1)), (2, .int (z.2 + 1))]) [2, 1, 0] rfl (E4 (z.1 + 1) (z.2 + 1) (wpO_some h))
  unfold F_Well_barredWays at h
  refine G_iconst (v := 0) rfl K dX10_barredWays_0 ?_
  refine G_istore_n rfl K dX10_barredWays_1 (Nat.le_of_ble_eq_true rfl) rfl ?_
  refine G_iconst (v := 0) rfl K dX10_barredWays_2 ?_
  refine G_istore_n rfl K dX10_barredWays_3 (Nat.le_of_ble_eq_true rfl) rfl ?_
  exact G_lv (lv' := [(0, .ref (g.2.1 1)), (1, .int 0), (2, .int 0)]) [2, 1, 0] rfl (J4 0 0 h)
def on_X10_allBeings : Nat := 0xac1becffa70102843c604700b61c3600b42a1b1400a208101c3d033c03
theorem ob_X10_allBeings : OKB cX10_allBeings on_X10_allBeings 29 := ⟨by decide +kernel, by decide +kernel⟩
theorem dX10_allBeings_0 : dc cX10_allBeings 0 1 (.iconst 0) 1 := o_3 ob_X10_allBeings rfl rfl rfl
theorem dX10_allBeings_1 : dc cX10_allBeings 1 2 (.istore_n 1) 1 := o_60 ob_X10_allBeings rfl rfl rfl
theorem dX10_allBeings_2 : dc cX10_allBeings 2 3 (.iconst 0) 1 := o_3 ob_X10_allBeings rfl rfl rfl
theorem dX10_allBeings_3 : dc cX10_allBeings 3 4 (.istore_n 2) 1 := o_61 ob_X10_allBeings rfl rfl rfl
theorem dX10_allBeings_4 : dc cX10_allBeings 4 5 (.iload_n 2) 1 := o_28 ob_X10_allBeings rfl rfl rfl
theorem dX10_allBeings_5 : dc cX10_allBeings 5 7 (.bipush 8) 2 := o_16 ob_X10_allBeings rfl rfl rfl rfl
theorem dX10_allBeings_7 : dc cX10_allBeings 7 10 (.if_icmp .ge 20) 3 := o_162 ob_X10_allBeings rfl rfl rfl rfl
theorem dX10_allBeings_10 : dc cX10_allBeings 10 11 (.iload_n 1) 1 := o_27 ob_X10_allBeings rfl rfl rfl
theorem dX10_allBeings_11 : dc cX10_allBeings 11 12 (.aload_n 0) 1 := o_42 ob_X10_allBeings rfl rfl rfl
theorem dX10_allBeings_12 : dc cX10_allBeings 12 15 (.getfield 54) 3 := o_180 ob_X10_allBeings rfl rfl rfl rfl
theorem dX10_allBeings_15 : dc cX10_allBeings 15 16 (.iload_n 2) 1 := o_28 ob_X10_allBeings rfl rfl rfl
theorem dX10_allBeings_16 : dc cX10_allBeings 16 19 (.invokevirtual 71) 3 := o_182 ob_X10_allBeings rfl rfl rfl rfl
theorem dX10_allBeings_19 : dc cX10_allBeings 19 20 .iadd 1 := o_96 ob_X10_allBeings rfl rfl rfl
theorem dX10_allBeings_20 : dc cX10_allBeings 20 21 (.istore_n 1) 1 := o_60 ob_X10_allBeings rfl rfl rfl
theorem dX10_allBeings_21 : dc cX10_allBeings 21 24 (.iinc 2 1) 3 := o_132 ob_X10_allBeings rfl rfl rfl rfl rfl
theorem dX10_allBeings_24 : dc cX10_allBeings 24 27 (.goto (-20)) 3 := o_167 ob_X10_allBeings rfl rfl rfl rfl
theorem dX10_allBeings_27 : dc cX10_allBeings 27 28 (.iload_n 1) 1 := o_27 ob_X10_allBeings rfl rfl rfl
theorem dX10_allBeings_28 : dc cX10_allBeings 28 29 .ireturn 1 := o_172 ob_X10_allBeings rfl rfl rfl
def F_Well_allBeings_b4 (M : Mem) (z : Int32 × Int32) : Option ((Int32 × Int32) ⊕ ((Int32))) :=
  if 8 ≤ z.2 then some (.inr z.1) else (F_Row_small 9 8 z.2 M).bind fun r1 => some (.inl ((z.1 + r1, z.2 + 1)))
def F_Well_allBeings_l4 (x1 : Int32) (x2 : Int32) (M : Mem) : Option (Int32) :=
  (iter (F_Well_allBeings_b4 M) FUEL (x1, x2)).bind fun r => some r
def F_Well_allBeings (M : Mem) : Option (Int32) :=
  F_Well_allBeings_l4 0 0 M
set_option maxRecDepth 100000 in
set_option maxHeartbeats 4000000 in
theorem K_Well_allBeings (l : Launch) (g : GB) (htr : l.stackTraces = false) (M : Mem) (rr : Int32) (h : F_Well_allBeings M = some rr) : CT l g yX10_allBeings (.code yX10_allBeings cX10_allBeings 3 (some .int) :: wAll) { frames := 1, cells := 0, slots := 0, locals := 21 } [.ref (g.2.1 1)] M (.inl (some (.int rr))) M := by
  refine CT.of [(0, .ref (g.2.1 1))] (by decide +kernel) (Nat.le_of_ble_eq_true rfl) rfl htr ?_
  intro p e s m args below meth c K hr ht
  skip
  obtain ⟨PHI, hPHI, h⟩ : ∃ PHI : Int32 → Prop, (∀ a, PHI a → a = rr) ∧ wpO (F_Well_allBeings M) PHI := ⟨fun a => a = rr, fun _ h => h, _, h, rfl⟩
  have J4 : ∀ (x1 : Int32) (x2 : Int32), wpO (F_Well_allBeings_l4 x1 x2 M) PHI → GG p l e { frames := 1, cells := 0, slots := 0, locals := 21 } s m args below meth c g 3 (vx_MQ below (Qn g s.heap.size (.inl (some (.int rr))) M) (QX g s.heap.size (.inl (some (.int rr))) M) args s 0 0 (AS g s.heap.size)) 0 0 4 [(0, .ref (g.2.1 1)), (1, .int x1), (2, .int x2)] [] M := by
    intro x1 x2 h
    unfold F_Well_allBeings_l4 at h
    refine loop_C2 (G := fun (x1 : Int32) (x2 : Int32) => GG p l e { frames := 1, cells := 0, slots := 0, locals := 21 } s m args below meth c g 3 (vx_MQ below (Qn g s.heap.size (.inl (some (.int rr))) M) (QX g s.heap.size (.inl (some (.int rr))) M) args s 0 0 (AS g s.heap.size)) 0 0 4 [(0, .ref (g.2.1 1)), (1, .int x1), (2, .int x2)] [] M) (body := F_Well_allBeings_b4 M) ?_ FUEL _ _ (wpO_bind h)
    intro P4 E4 X4
    intro z h
    unfold F_Well_allBeings_b4 at h
    refine G_iload_n rfl 2 rfl K dX10_allBeings_4 ?_
    refine G_bipush (v := 8) rfl K dX10_allBeings_5 ?_
    refine G_icmp_ge (tgt := 27) K dX10_allBeings_7 (by decide) (fun hc => ?_) (fun hc => ?_)
    · have h := wpO_t h hc
      have h := X4 _ (wpO_some h)
      try dsimp only at h
      refine G_iload_n rfl 1 rfl K dX10_allBeings_27 ?_
      cases hPHI _ (wpO_some h)
      exact G_iret K hr rfl dX10_allBeings_28 (Nat.le_of_ble_eq_true rfl) (Nat.le_of_ble_eq_true rfl) ⟨rfl, rfl⟩
    · have h := wpO_f h hc
      refine G_iload_n rfl 1 rfl K dX10_allBeings_10 ?_
      refine G_aload_n rfl 0 rfl K dX10_allBeings_11 ?_
      refine G_get (ci := 10) (k := 12) K rfl in_X10 wd_99 rfl dX10_allBeings_12 (Nat.le_of_ble_eq_true rfl) (sh_1 _ _) (Nat.le_of_ble_eq_true rfl) rfl ?_
      refine G_iload_n rfl 2 rfl K dX10_allBeings_15 ?_
      obtain ⟨r1, e1, h⟩ := wpO_bind h
      refine G_callVi (ci := 7) [.int z.2] [.int z.1] K dX10_allBeings_16 wv_479 yd_X7_small (Nat.le_of_ble_eq_true rfl) (sh_8 _ _) rfl (by decide) (by decide) rfl rfl (Nat.le_of_ble_eq_true rfl) (K_Row_small l g htr 8 9 8 isRow_8 z.2 M _ e1) ?_
      refine G_iadd K dX10_allBeings_19 ?_
      refine G_istore_n rfl K dX10_allBeings_20 (Nat.le_of_ble_eq_true rfl) rfl ?_
      refine G_iinc (v := z.2 + 1) 2 rfl K dX10_allBeings_21 rfl (Nat.le_of_ble_eq_true rfl) rfl ?_
      refine G_goto (tgt := 4) K dX10_allBeings_24 (by decide) ?_
      exact G_lv (lv' := [(0, .ref (g.2.1 1)), (1, .int (z.1 + r1)), (2, .int (z.2 + 1))]) [2, 1, 0] rfl (E4 (z.1 + r1) (z.2 + 1) (wpO_some h))
  unfold F_Well_allBeings at h
  refine G_iconst (v := 0) rfl K dX10_allBeings_0 ?_
  refine G_istore_n rfl K dX10_allBeings_1 (Nat.le_of_ble_eq_true rfl) rfl ?_
  refine G_iconst (v := 0) rfl K dX10_allBeings_2 ?_
  refine G_istore_n rfl K dX10_allBeings_3 (Nat.le_of_ble_eq_true rfl) rfl ?_
  exact G_lv (lv' := [(0, .ref (g.2.1 1)), (1, .int 0), (2, .int 0)]) [2, 1, 0] rfl (J4 0 0 h)
def on_X10_doesUnknownAct : Nat := 0xac03d9ffa7010184ac0405009b94850700b42a4b00b61b3300b42a1c00a2681f00b42a051b2600a29001111b3c03
theorem ob_X10_doesUnknownAct : OKB cX10_doesUnknownAct on_X10_doesUnknownAct 46 := ⟨by decide +kernel, by decide +kernel⟩
theorem dX10_doesUnknownAct_0 : dc cX10_doesUnknownAct 0 1 (.iconst 0) 1 := o_3 ob_X10_doesUnknownAct rfl rfl rfl
theorem dX10_doesUnknownAct_1 : dc cX10_doesUnknownAct 1 2 (.istore_n 1) 1 := o_60 ob_X10_doesUnknownAct rfl rfl rfl
theorem dX10_doesUnknownAct_2 : dc cX10_doesUnknownAct 2 3 (.iload_n 1) 1 := o_27 ob_X10_doesUnknownAct rfl rfl rfl
theorem dX10_doesUnknownAct_3 : dc cX10_doesUnknownAct 3 6 (.sipush 400) 3 := o_17 ob_X10_doesUnknownAct rfl rfl rfl rfl
theorem dX10_doesUnknownAct_6 : dc cX10_doesUnknownAct 6 9 (.if_icmp .ge 38) 3 := o_162 ob_X10_doesUnknownAct rfl rfl rfl rfl
theorem dX10_doesUnknownAct_9 : dc cX10_doesUnknownAct 9 10 (.iload_n 1) 1 := o_27 ob_X10_doesUnknownAct rfl rfl rfl
theorem dX10_doesUnknownAct_10 : dc cX10_doesUnknownAct 10 11 (.iconst 2) 1 := o_5 ob_X10_doesUnknownAct rfl rfl rfl
theorem dX10_doesUnknownAct_11 : dc cX10_doesUnknownAct 11 12 (.aload_n 0) 1 := o_42 ob_X10_doesUnknownAct rfl rfl rfl
theorem dX10_doesUnknownAct_12 : dc cX10_doesUnknownAct 12 15 (.getfield 31) 3 := o_180 ob_X10_doesUnknownAct rfl rfl rfl rfl
theorem dX10_doesUnknownAct_15 : dc cX10_doesUnknownAct 15 16 .imul 1 := o_104 ob_X10_doesUnknownAct rfl rfl rfl
theorem dX10_doesUnknownAct_16 : dc cX10_doesUnknownAct 16 19 (.if_icmp .ge 28) 3 := o_162 ob_X10_doesUnknownAct rfl rfl rfl rfl
theorem dX10_doesUnknownAct_19 : dc cX10_doesUnknownAct 19 20 (.aload_n 0) 1 := o_42 ob_X10_doesUnknownAct rfl rfl rfl
theorem dX10_doesUnknownAct_20 : dc cX10_doesUnknownAct 20 23 (.getfield 51) 3 := o_180 ob_X10_doesUnknownAct rfl rfl rfl rfl
theorem dX10_doesUnknownAct_23 : dc cX10_doesUnknownAct 23 24 (.iload_n 1) 1 := o_27 ob_X10_doesUnknownAct rfl rfl rfl
theorem dX10_doesUnknownAct_24 : dc cX10_doesUnknownAct 24 27 (.invokevirtual 75) 3 := o_182 ob_X10_doesUnknownAct rfl rfl rfl rfl
theorem dX10_doesUnknownAct_27 : dc cX10_doesUnknownAct 27 28 (.aload_n 0) 1 := o_42 ob_X10_doesUnknownAct rfl rfl rfl
theorem dX10_doesUnknownAct_28 : dc cX10_doesUnknownAct 28 31 (.getfield 7) 3 := o_180 ob_X10_doesUnknownAct rfl rfl rfl rfl
theorem dX10_doesUnknownAct_31 : dc cX10_doesUnknownAct 31 32 .i2l 1 := o_133 ob_X10_doesUnknownAct rfl rfl rfl
theorem dX10_doesUnknownAct_32 : dc cX10_doesUnknownAct 32 33 .lcmp 1 := o_148 ob_X10_doesUnknownAct rfl rfl rfl
theorem dX10_doesUnknownAct_33 : dc cX10_doesUnknownAct 33 36 (.ifCond .lt 5) 3 := o_155 ob_X10_doesUnknownAct rfl rfl rfl rfl
theorem dX10_doesUnknownAct_36 : dc cX10_doesUnknownAct 36 37 (.iconst 1) 1 := o_4 ob_X10_doesUnknownAct rfl rfl rfl
theorem dX10_doesUnknownAct_37 : dc cX10_doesUnknownAct 37 38 .ireturn 1 := o_172 ob_X10_doesUnknownAct rfl rfl rfl
theorem dX10_doesUnknownAct_38 : dc cX10_doesUnknownAct 38 41 (.iinc 1 1) 3 := o_132 ob_X10_doesUnknownAct rfl rfl rfl rfl rfl
theorem dX10_doesUnknownAct_41 : dc cX10_doesUnknownAct 41 44 (.goto (-39)) 3 := o_167 ob_X10_doesUnknownAct rfl rfl rfl rfl
theorem dX10_doesUnknownAct_44 : dc cX10_doesUnknownAct 44 45 (.iconst 0) 1 := o_3 ob_X10_doesUnknownAct rfl rfl rfl
theorem dX10_doesUnknownAct_45 : dc cX10_doesUnknownAct 45 46 .ireturn 1 := o_172 ob_X10_doesUnknownAct rfl rfl rfl
def F_Well_doesUnknownAct_b2 (M : Mem) (z : Int32) : Option ((Int32) ⊕ ((Unit) ⊕ ((Unit)))) :=
  if 400 ≤ z then some (.inr (.inr (()))) else if (2 * (M.1 1 7)) ≤ z then some (.inr (.inr (()))) else (F_Row_at 7 400 z M).bind fun r1 => if r1 < ((M.1 1 0).toInt64) then some (.inl (z + 1)) else some (.inr (.inl (())))
def F_Well_doesUnknownAct_l2 (x1 : Int32) (M : Mem) : Option (Bool) :=
  (iter (F_Well_doesUnknownAct_b2 M) FUEL x1).bind fun q => match q with
    | .inl r => some true
    | .inr r => some false
def F_Well_doesUnknownAct (M : Mem) : Option (Bool) :=
  F_Well_doesUnknownAct_l2 0 M
set_option maxRecDepth 100000 in
set_option maxHeartbeats 4000000 in
theorem K_Well_doesUnknownAct (l : Launch) (g : GB) (htr : l.stackTraces = false) (M : Mem) (rr : Bool) (h : F_Well_doesUnknownAct M = some rr) : CT l g yX10_doesUnknownAct (.code yX10_doesUnknownAct cX10_doesUnknownAct 2 (some .boolean) :: wAll) { frames := 1, cells := 0, slots := 0, locals := 21 } [.ref (g.2.1 1)] M (.inl (some (.int (b2i rr)))) M := by
  refine CT.of [(0, .ref (g.2.1 1))] (by decide +kernel) (Nat.le_of_ble_eq_true rfl) rfl htr ?_
  intro p e s m args below meth c K hr ht
  skip
  obtain ⟨PHI, hPHI, h⟩ : ∃ PHI : Bool → Prop, (∀ a, PHI a → a = rr) ∧ wpO (F_Well_doesUnknownAct M) PHI := ⟨fun a => a = rr, fun _ h => h, _, h, rfl⟩
  have J2 : ∀ (x1 : Int32), wpO (F_Well_doesUnknownAct_l2 x1 M) PHI → GG p l e { frames := 1, cells := 0, slots := 0, locals := 21 } s m args below meth c g 2 (vx_MQ below (Qn g s.heap.size (.inl (some (.int (b2i rr)))) M) (QX g s.heap.size (.inl (some (.int (b2i rr)))) M) args s 0 0 (AS g s.heap.size)) 0 0 2 [(0, .ref (g.2.1 1)), (1, .int x1)] [] M := by
    intro x1 h
    unfold F_Well_doesUnknownAct_l2 at h
    refine loop_C1 (G := fun (x1 : Int32) => GG p l e { frames := 1, cells := 0, slots := 0, locals := 21 } s m args below meth c g 2 (vx_MQ below (Qn g s.heap.size (.inl (some (.int (b2i rr)))) M) (QX g s.heap.size (.inl (some (.int (b2i rr)))) M) args s 0 0 (AS g s.heap.size)) 0 0 2 [(0, .ref (g.2.1 1)), (1, .int x1)] [] M) (body := F_Well_doesUnknownAct_b2 M) ?_ FUEL _ (wpO_bind h)
    intro P2 E2 X2
    intro z h
    unfold F_Well_doesUnknownAct_b2 at h
    refine G_iload_n rfl 1 rfl K dX10_doesUnknownAct_2 ?_
    refine G_sipush (v := 400) rfl K dX10_doesUnknownAct_3 ?_
    refine G_icmp_ge (tgt := 44) K dX10_doesUnknownAct_6 (by decide) (fun hc => ?_) (fun hc => ?_)
    · have h := wpO_t h hc
      have h := X2 _ (wpO_some h)
      try dsimp only at h
      refine G_iconst (v := 0) rfl K dX10_doesUnknownAct_44 ?_
      cases hPHI _ (wpO_some h)
      exact G_iret K hr rfl dX10_doesUnknownAct_45 (Nat.le_of_ble_eq_true rfl) (Nat.le_of_ble_eq_true rfl) ⟨rfl, rfl⟩
    · have h := wpO_f h hc
      refine G_iload_n rfl 1 rfl K dX10_doesUnknownAct_9 ?_
      refine G_iconst (v := 2) rfl K dX10_doesUnknownAct_10 ?_
      refine G_aload_n rfl 0 rfl K dX10_doesUnknownAct_11 ?_
      refine G_get (ci := 10) (k := 7) K rfl in_X10 wd_88 rfl dX10_doesUnknownAct_12 (Nat.le_of_ble_eq_true rfl) (sh_1 _ _) (Nat.le_of_ble_eq_true rfl) rfl ?_
      refine G_imul K dX10_doesUnknownAct_15 ?_
      refine G_icmp_ge (tgt := 44) K dX10_doesUnknownAct_16 (by decide) (fun hc => ?_) (fun hc => ?_)
      · have h := wpO_t h hc
        have h := X2 _ (wpO_some h)
        try dsimp only at h
        refine G_iconst (v := 0) rfl K dX10_doesUnknownAct_44 ?_
        cases hPHI _ (wpO_some h)
        exact G_iret K hr rfl dX10_doesUnknownAct_45 (Nat.le_of_ble_eq_true rfl) (Nat.le_of_ble_eq_true rfl) ⟨rfl, rfl⟩
      · have h := wpO_f h hc
        refine G_aload_n rfl 0 rfl K dX10_doesUnknownAct_19 ?_
        refine G_get (ci := 10) (k := 11) K rfl in_X10 wd_96 rfl dX10_doesUnknownAct_20 (Nat.le_of_ble_eq_true rfl) (sh_1 _ _) (Nat.le_of_ble_eq_true rfl) rfl ?_
        refine G_iload_n rfl 1 rfl K dX10_doesUnknownAct_23 ?_
        obtain ⟨r1, e1, h⟩ := wpO_bind h
        refine G_callVl (ci := 7) [.int z] [] K dX10_doesUnknownAct_24 wv_889 yd_X7_at (Nat.le_of_ble_eq_true rfl) (sh_6 _ _) rfl (by decide) (by decide) rfl rfl (Nat.le_of_ble_eq_true rfl) (K_Row_at l g htr 6 7 400 isRow_6 z M _ e1) ?_
        refine G_aload_n rfl 0 rfl K dX10_doesUnknownAct_27 ?_
        refine G_get (ci := 10) (k := 0) K rfl in_X10 wd_56 rfl dX10_doesUnknownAct_28 (Nat.le_of_ble_eq_true rfl) (sh_1 _ _) (Nat.le_of_ble_eq_true rfl) rfl ?_
        refine G_i2l K dX10_doesUnknownAct_31 ?_
        refine G_lcmp_lt (tgt := 38) K dX10_doesUnknownAct_32 dX10_doesUnknownAct_33 (by decide) (fun hc => ?_) (fun hc => ?_)
        · have h := wpO_t h hc
          refine G_iinc (v := z + 1) 1 rfl K dX10_doesUnknownAct_38 rfl (Nat.le_of_ble_eq_true rfl) rfl ?_
          refine G_goto (tgt := 2) K dX10_doesUnknownAct_41 (by decide) ?_
          exact G_lv (lv' := [(0, .ref (g.2.1 1)), (1, .int (z + 1))]) [1, 0] rfl (E2 (z + 1) (wpO_some h))
        · have h := wpO_f h hc
          have h := X2 _ (wpO_some h)
          try dsimp only at h
          refine G_iconst (v := 1) rfl K dX10_doesUnknownAct_36 ?_
          cases hPHI _ (wpO_some h)
          exact G_iret K hr rfl dX10_doesUnknownAct_37 (Nat.le_of_ble_eq_true rfl) (Nat.le_of_ble_eq_true rfl) ⟨rfl, rfl⟩
  unfold F_Well_doesUnknownAct at h
  refine G_iconst (v := 0) rfl K dX10_doesUnknownAct_0 ?_
  refine G_istore_n rfl K dX10_doesUnknownAct_1 (Nat.le_of_ble_eq_true rfl) rfl ?_
  exact G_lv (lv' := [(0, .ref (g.2.1 1)), (1, .int 0)]) [1, 0] rfl (J2 0 h)
