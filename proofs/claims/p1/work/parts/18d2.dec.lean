theorem drL_law_829 : ([(829, (.iconst 2), 1), (830, .iadd, 1), (831, .iaload, 1), (832, (.aload_n 3), 1), (833, (.invokestatic 181), 3), (836, (.istore 5), 2), (838, (.aload_n 2), 1), (839, (.aload_n 0), 1), (840, (.iload 4), 2), (842, (.iconst 1), 1), (843, .iadd, 1), (844, .iaload, 1), (845, (.aload_n 0), 1), (846, (.iload 4), 2), (848, (.iconst 2), 1), (849, .iadd, 1), (850, .iaload, 1), (851, (.invokevirtual 183), 3), (854, (.istore 6), 2), (856, (.aload_n 2), 1), (857, (.invokevirtual 150), 3), (860, (.iload 5), 2), (862, (.if_icmp .eq 5), 3), (865, (.iconst 0), 1), (867, (.iload 5), 2), (869, (.ifCond .ne 15), 3), (872, (.aload_n 3), 1), (873, (.iconst 0), 1), (874, .laload, 1), (875, (.iload 6), 2), (877, .i2l, 1), (878, .lcmp, 1), (879, (.ifCond .eq 5), 3), (882, (.iconst 0), 1), (884, (.goto 1898), 3), (887, (.aload_n 1), 1), (888, (.aload_n 0), 1), (889, (.iload 4), 2), (891, (.iconst 1), 1), (892, .iadd, 1), (893, .iaload, 1), (894, (.aload_n 0), 1), (895, (.iload 4), 2), (897, (.iconst 2), 1), (898, .iadd, 1), (899, .iaload, 1), (900, (.aload_n 0), 1), (901, (.iload 4), 2), (903, (.iconst 3), 1), (904, .iadd, 1), (905, .iaload, 1), (906, (.aload_n 3), 1), (907, (.invokestatic 184), 3), (910, (.istore 5), 2), (912, (.aload_n 2), 1), (913, (.aload_n 0), 1), (914, (.iload 4), 2), (916, (.iconst 1), 1), (917, .iadd, 1), (918, .iaload, 1), (919, (.aload_n 0), 1), (920, (.iload 4), 2), (922, (.iconst 2), 1), (923, .iadd, 1), (924, .iaload, 1), (925, (.aload_n 0), 1), (926, (.iload 4), 2), (928, (.iconst 3), 1), (929, .iadd, 1), (930, .iaload, 1), (931, (.invokevirtual 186), 3), (934, (.istore 6), 2), (936, (.aload_n 2), 1), (937, (.invokevirtual 150), 3), (940, (.iload 5), 2), (942, (.if_icmp .eq 5), 3), (945, (.iconst 0), 1), (947, (.iload 5), 2), (949, (.ifCond .ne 15), 3), (952, (.aload_n 3), 1), (953, (.iconst 0), 1), (954, .laload, 1), (955, (.iload 6), 2), (957, .i2l, 1), (958, .lcmp, 1), (959, (.ifCond .eq 5), 3), (962, (.iconst 0), 1), (964, (.goto 1818), 3), (967, (.aload_n 1), 1), (968, (.aload_n 0), 1), (969, (.iload 4), 2), (971, (.iconst 1), 1), (972, .iadd, 1), (973, .iaload, 1), (974, (.aload_n 0), 1), (975, (.iload 4), 2)] : List (Nat × Instr × Nat)).all (fun q => decide (decode code q.1 = .ok q.2)) = true := by decide +kernel
theorem dL_829 : dc code 829 830 (.iconst 2) 1 := ⟨dr_at drL_law_829 (i := 0) rfl, rfl⟩
theorem dL_830 : dc code 830 831 .iadd 1 := ⟨dr_at drL_law_829 (i := 1) rfl, rfl⟩
theorem dL_831 : dc code 831 832 .iaload 1 := ⟨dr_at drL_law_829 (i := 2) rfl, rfl⟩
theorem dL_832 : dc code 832 833 (.aload_n 3) 1 := ⟨dr_at drL_law_829 (i := 3) rfl, rfl⟩
theorem dL_833 : dc code 833 836 (.invokestatic 181) 3 := ⟨dr_at drL_law_829 (i := 4) rfl, rfl⟩
theorem dL_836 : dc code 836 838 (.istore 5) 2 := ⟨dr_at drL_law_829 (i := 5) rfl, rfl⟩
theorem dL_838 : dc code 838 839 (.aload_n 2) 1 := ⟨dr_at drL_law_829 (i := 6) rfl, rfl⟩
theorem dL_839 : dc code 839 840 (.aload_n 0) 1 := ⟨dr_at drL_law_829 (i := 7) rfl, rfl⟩
theorem dL_840 : dc code 840 842 (.iload 4) 2 := ⟨dr_at drL_law_829 (i := 8) rfl, rfl⟩
theorem dL_842 : dc code 842 843 (.iconst 1) 1 := ⟨dr_at drL_law_829 (i := 9) rfl, rfl⟩
theorem dL_843 : dc code 843 844 .iadd 1 := ⟨dr_at drL_law_829 (i := 10) rfl, rfl⟩
theorem dL_844 : dc code 844 845 .iaload 1 := ⟨dr_at drL_law_829 (i := 11) rfl, rfl⟩
theorem dL_845 : dc code 845 846 (.aload_n 0) 1 := ⟨dr_at drL_law_829 (i := 12) rfl, rfl⟩
theorem dL_846 : dc code 846 848 (.iload 4) 2 := ⟨dr_at drL_law_829 (i := 13) rfl, rfl⟩
theorem dL_848 : dc code 848 849 (.iconst 2) 1 := ⟨dr_at drL_law_829 (i := 14) rfl, rfl⟩
theorem dL_849 : dc code 849 850 .iadd 1 := ⟨dr_at drL_law_829 (i := 15) rfl, rfl⟩
theorem dL_850 : dc code 850 851 .iaload 1 := ⟨dr_at drL_law_829 (i := 16) rfl, rfl⟩
theorem dL_851 : dc code 851 854 (.invokevirtual 183) 3 := ⟨dr_at drL_law_829 (i := 17) rfl, rfl⟩
theorem dL_854 : dc code 854 856 (.istore 6) 2 := ⟨dr_at drL_law_829 (i := 18) rfl, rfl⟩
theorem dL_856 : dc code 856 857 (.aload_n 2) 1 := ⟨dr_at drL_law_829 (i := 19) rfl, rfl⟩
theorem dL_857 : dc code 857 860 (.invokevirtual 150) 3 := ⟨dr_at drL_law_829 (i := 20) rfl, rfl⟩
theorem dL_860 : dc code 860 862 (.iload 5) 2 := ⟨dr_at drL_law_829 (i := 21) rfl, rfl⟩
theorem dL_862 : dc code 862 865 (.if_icmp .eq 5) 3 := ⟨dr_at drL_law_829 (i := 22) rfl, rfl⟩
theorem dL_865 : dc code 865 866 (.iconst 0) 1 := ⟨dr_at drL_law_829 (i := 23) rfl, rfl⟩
theorem dL_867 : dc code 867 869 (.iload 5) 2 := ⟨dr_at drL_law_829 (i := 24) rfl, rfl⟩
theorem dL_869 : dc code 869 872 (.ifCond .ne 15) 3 := ⟨dr_at drL_law_829 (i := 25) rfl, rfl⟩
theorem dL_872 : dc code 872 873 (.aload_n 3) 1 := ⟨dr_at drL_law_829 (i := 26) rfl, rfl⟩
theorem dL_873 : dc code 873 874 (.iconst 0) 1 := ⟨dr_at drL_law_829 (i := 27) rfl, rfl⟩
theorem dL_874 : dc code 874 875 .laload 1 := ⟨dr_at drL_law_829 (i := 28) rfl, rfl⟩
theorem dL_875 : dc code 875 877 (.iload 6) 2 := ⟨dr_at drL_law_829 (i := 29) rfl, rfl⟩
theorem dL_877 : dc code 877 878 .i2l 1 := ⟨dr_at drL_law_829 (i := 30) rfl, rfl⟩
theorem dL_878 : dc code 878 879 .lcmp 1 := ⟨dr_at drL_law_829 (i := 31) rfl, rfl⟩
theorem dL_879 : dc code 879 882 (.ifCond .eq 5) 3 := ⟨dr_at drL_law_829 (i := 32) rfl, rfl⟩
theorem dL_882 : dc code 882 883 (.iconst 0) 1 := ⟨dr_at drL_law_829 (i := 33) rfl, rfl⟩
theorem dL_884 : dc code 884 887 (.goto 1898) 3 := ⟨dr_at drL_law_829 (i := 34) rfl, rfl⟩
theorem dL_887 : dc code 887 888 (.aload_n 1) 1 := ⟨dr_at drL_law_829 (i := 35) rfl, rfl⟩
theorem dL_888 : dc code 888 889 (.aload_n 0) 1 := ⟨dr_at drL_law_829 (i := 36) rfl, rfl⟩
theorem dL_889 : dc code 889 891 (.iload 4) 2 := ⟨dr_at drL_law_829 (i := 37) rfl, rfl⟩
theorem dL_891 : dc code 891 892 (.iconst 1) 1 := ⟨dr_at drL_law_829 (i := 38) rfl, rfl⟩
theorem dL_892 : dc code 892 893 .iadd 1 := ⟨dr_at drL_law_829 (i := 39) rfl, rfl⟩
theorem dL_893 : dc code 893 894 .iaload 1 := ⟨dr_at drL_law_829 (i := 40) rfl, rfl⟩
theorem dL_894 : dc code 894 895 (.aload_n 0) 1 := ⟨dr_at drL_law_829 (i := 41) rfl, rfl⟩
theorem dL_895 : dc code 895 897 (.iload 4) 2 := ⟨dr_at drL_law_829 (i := 42) rfl, rfl⟩
theorem dL_897 : dc code 897 898 (.iconst 2) 1 := ⟨dr_at drL_law_829 (i := 43) rfl, rfl⟩
theorem dL_898 : dc code 898 899 .iadd 1 := ⟨dr_at drL_law_829 (i := 44) rfl, rfl⟩
theorem dL_899 : dc code 899 900 .iaload 1 := ⟨dr_at drL_law_829 (i := 45) rfl, rfl⟩
theorem dL_900 : dc code 900 901 (.aload_n 0) 1 := ⟨dr_at drL_law_829 (i := 46) rfl, rfl⟩
theorem dL_901 : dc code 901 903 (.iload 4) 2 := ⟨dr_at drL_law_829 (i := 47) rfl, rfl⟩
theorem dL_903 : dc code 903 904 (.iconst 3) 1 := ⟨dr_at drL_law_829 (i := 48) rfl, rfl⟩
theorem dL_904 : dc code 904 905 .iadd 1 := ⟨dr_at drL_law_829 (i := 49) rfl, rfl⟩
theorem dL_905 : dc code 905 906 .iaload 1 := ⟨dr_at drL_law_829 (i := 50) rfl, rfl⟩
theorem dL_906 : dc code 906 907 (.aload_n 3) 1 := ⟨dr_at drL_law_829 (i := 51) rfl, rfl⟩
theorem dL_907 : dc code 907 910 (.invokestatic 184) 3 := ⟨dr_at drL_law_829 (i := 52) rfl, rfl⟩
theorem dL_910 : dc code 910 912 (.istore 5) 2 := ⟨dr_at drL_law_829 (i := 53) rfl, rfl⟩
theorem dL_912 : dc code 912 913 (.aload_n 2) 1 := ⟨dr_at drL_law_829 (i := 54) rfl, rfl⟩
theorem dL_913 : dc code 913 914 (.aload_n 0) 1 := ⟨dr_at drL_law_829 (i := 55) rfl, rfl⟩
theorem dL_914 : dc code 914 916 (.iload 4) 2 := ⟨dr_at drL_law_829 (i := 56) rfl, rfl⟩
theorem dL_916 : dc code 916 917 (.iconst 1) 1 := ⟨dr_at drL_law_829 (i := 57) rfl, rfl⟩
theorem dL_917 : dc code 917 918 .iadd 1 := ⟨dr_at drL_law_829 (i := 58) rfl, rfl⟩
theorem dL_918 : dc code 918 919 .iaload 1 := ⟨dr_at drL_law_829 (i := 59) rfl, rfl⟩
theorem dL_919 : dc code 919 920 (.aload_n 0) 1 := ⟨dr_at drL_law_829 (i := 60) rfl, rfl⟩
theorem dL_920 : dc code 920 922 (.iload 4) 2 := ⟨dr_at drL_law_829 (i := 61) rfl, rfl⟩
theorem dL_922 : dc code 922 923 (.iconst 2) 1 := ⟨dr_at drL_law_829 (i := 62) rfl, rfl⟩
theorem dL_923 : dc code 923 924 .iadd 1 := ⟨dr_at drL_law_829 (i := 63) rfl, rfl⟩
theorem dL_924 : dc code 924 925 .iaload 1 := ⟨dr_at drL_law_829 (i := 64) rfl, rfl⟩
theorem dL_925 : dc code 925 926 (.aload_n 0) 1 := ⟨dr_at drL_law_829 (i := 65) rfl, rfl⟩
theorem dL_926 : dc code 926 928 (.iload 4) 2 := ⟨dr_at drL_law_829 (i := 66) rfl, rfl⟩
theorem dL_928 : dc code 928 929 (.iconst 3) 1 := ⟨dr_at drL_law_829 (i := 67) rfl, rfl⟩
theorem dL_929 : dc code 929 930 .iadd 1 := ⟨dr_at drL_law_829 (i := 68) rfl, rfl⟩
theorem dL_930 : dc code 930 931 .iaload 1 := ⟨dr_at drL_law_829 (i := 69) rfl, rfl⟩
theorem dL_931 : dc code 931 934 (.invokevirtual 186) 3 := ⟨dr_at drL_law_829 (i := 70) rfl, rfl⟩
theorem dL_934 : dc code 934 936 (.istore 6) 2 := ⟨dr_at drL_law_829 (i := 71) rfl, rfl⟩
theorem dL_936 : dc code 936 937 (.aload_n 2) 1 := ⟨dr_at drL_law_829 (i := 72) rfl, rfl⟩
theorem dL_937 : dc code 937 940 (.invokevirtual 150) 3 := ⟨dr_at drL_law_829 (i := 73) rfl, rfl⟩
theorem dL_940 : dc code 940 942 (.iload 5) 2 := ⟨dr_at drL_law_829 (i := 74) rfl, rfl⟩
theorem dL_942 : dc code 942 945 (.if_icmp .eq 5) 3 := ⟨dr_at drL_law_829 (i := 75) rfl, rfl⟩
theorem dL_945 : dc code 945 946 (.iconst 0) 1 := ⟨dr_at drL_law_829 (i := 76) rfl, rfl⟩
theorem dL_947 : dc code 947 949 (.iload 5) 2 := ⟨dr_at drL_law_829 (i := 77) rfl, rfl⟩
theorem dL_949 : dc code 949 952 (.ifCond .ne 15) 3 := ⟨dr_at drL_law_829 (i := 78) rfl, rfl⟩
theorem dL_952 : dc code 952 953 (.aload_n 3) 1 := ⟨dr_at drL_law_829 (i := 79) rfl, rfl⟩
theorem dL_953 : dc code 953 954 (.iconst 0) 1 := ⟨dr_at drL_law_829 (i := 80) rfl, rfl⟩
theorem dL_954 : dc code 954 955 .laload 1 := ⟨dr_at drL_law_829 (i := 81) rfl, rfl⟩
theorem dL_955 : dc code 955 957 (.iload 6) 2 := ⟨dr_at drL_law_829 (i := 82) rfl, rfl⟩
theorem dL_957 : dc code 957 958 .i2l 1 := ⟨dr_at drL_law_829 (i := 83) rfl, rfl⟩
theorem dL_958 : dc code 958 959 .lcmp 1 := ⟨dr_at drL_law_829 (i := 84) rfl, rfl⟩
theorem dL_959 : dc code 959 962 (.ifCond .eq 5) 3 := ⟨dr_at drL_law_829 (i := 85) rfl, rfl⟩
theorem dL_962 : dc code 962 963 (.iconst 0) 1 := ⟨dr_at drL_law_829 (i := 86) rfl, rfl⟩
theorem dL_964 : dc code 964 967 (.goto 1818) 3 := ⟨dr_at drL_law_829 (i := 87) rfl, rfl⟩
theorem dL_967 : dc code 967 968 (.aload_n 1) 1 := ⟨dr_at drL_law_829 (i := 88) rfl, rfl⟩
theorem dL_968 : dc code 968 969 (.aload_n 0) 1 := ⟨dr_at drL_law_829 (i := 89) rfl, rfl⟩
theorem dL_969 : dc code 969 971 (.iload 4) 2 := ⟨dr_at drL_law_829 (i := 90) rfl, rfl⟩
theorem dL_971 : dc code 971 972 (.iconst 1) 1 := ⟨dr_at drL_law_829 (i := 91) rfl, rfl⟩
theorem dL_972 : dc code 972 973 .iadd 1 := ⟨dr_at drL_law_829 (i := 92) rfl, rfl⟩
theorem dL_973 : dc code 973 974 .iaload 1 := ⟨dr_at drL_law_829 (i := 93) rfl, rfl⟩
theorem dL_974 : dc code 974 975 (.aload_n 0) 1 := ⟨dr_at drL_law_829 (i := 94) rfl, rfl⟩
theorem dL_975 : dc code 975 977 (.iload 4) 2 := ⟨dr_at drL_law_829 (i := 95) rfl, rfl⟩
theorem drL_law_977 : ([(977, (.iconst 2), 1), (978, .iadd, 1), (979, .iaload, 1), (980, (.aload_n 0), 1), (981, (.iload 4), 2), (983, (.iconst 3), 1), (984, .iadd, 1), (985, .iaload, 1), (986, (.aload_n 0), 1), (987, (.iload 4), 2), (989, (.iconst 4), 1), (990, .iadd, 1), (991, .iaload, 1), (992, (.ifCond .eq 7), 3), (995, (.iconst 1), 1), (996, (.goto 4), 3), (999, (.iconst 0), 1), (1000, (.aload_n 3), 1), (1001, (.invokestatic 187), 3), (1004, (.istore 5), 2), (1006, (.aload_n 2), 1), (1007, (.aload_n 0), 1), (1008, (.iload 4), 2), (1010, (.iconst 1), 1), (1011, .iadd, 1), (1012, .iaload, 1), (1013, (.aload_n 0), 1), (1014, (.iload 4), 2), (1016, (.iconst 2), 1), (1017, .iadd, 1), (1018, .iaload, 1), (1019, (.aload_n 0), 1), (1020, (.iload 4), 2), (1022, (.iconst 3), 1), (1023, .iadd, 1), (1024, .iaload, 1), (1025, (.aload_n 0), 1), (1026, (.iload 4), 2), (1028, (.iconst 4), 1), (1029, .iadd, 1), (1030, .iaload, 1), (1031, (.ifCond .eq 7), 3), (1034, (.iconst 1), 1), (1035, (.goto 4), 3), (1038, (.iconst 0), 1), (1039, (.invokevirtual 190), 3), (1042, (.lstore 6), 2), (1044, (.aload_n 2), 1), (1045, (.invokevirtual 150), 3), (1048, (.iload 5), 2), (1050, (.if_icmp .eq 5), 3), (1053, (.iconst 0), 1), (1055, (.iload 5), 2), (1057, (.ifCond .ne 14), 3), (1060, (.aload_n 3), 1), (1061, (.iconst 0), 1), (1062, .laload, 1), (1063, (.lload 6), 2), (1065, .lcmp, 1), (1066, (.ifCond .eq 5), 3), (1069, (.iconst 0), 1), (1071, (.goto 1711), 3), (1074, (.aload_n 1), 1), (1075, (.aload_n 0), 1), (1076, (.iload 4), 2), (1078, (.iconst 1), 1), (1079, .iadd, 1), (1080, .iaload, 1), (1081, (.aload_n 0), 1), (1082, (.iload 4), 2), (1084, (.iconst 2), 1), (1085, .iadd, 1), (1086, .iaload, 1), (1087, (.ifCond .eq 7), 3), (1090, (.iconst 1), 1), (1091, (.goto 4), 3), (1094, (.iconst 0), 1), (1095, (.aload_n 3), 1), (1096, (.invokestatic 191), 3), (1099, (.istore 5), 2), (1101, (.aload_n 2), 1)] : List (Nat × Instr × Nat)).all (fun q => decide (decode code q.1 = .ok q.2)) = true := by decide +kernel
theorem dL_977 : dc code 977 978 (.iconst 2) 1 := ⟨dr_at drL_law_977 (i := 0) rfl, rfl⟩
theorem dL_978 : dc code 978 979 .iadd 1 := ⟨dr_at drL_law_977 (i := 1) rfl, rfl⟩
theorem dL_979 : dc code 979 980 .iaload 1 := ⟨dr_at drL_law_977 (i := 2) rfl, rfl⟩
theorem dL_980 : dc code 980 981 (.aload_n 0) 1 := ⟨dr_at drL_law_977 (i := 3) rfl, rfl⟩
theorem dL_981 : dc code 981 983 (.iload 4) 2 := ⟨dr_at drL_law_977 (i := 4) rfl, rfl⟩
theorem dL_983 : dc code 983 984 (.iconst 3) 1 := ⟨dr_at drL_law_977 (i := 5) rfl, rfl⟩
theorem dL_984 : dc code 984 985 .iadd 1 := ⟨dr_at drL_law_977 (i := 6) rfl, rfl⟩
theorem dL_985 : dc code 985 986 .iaload 1 := ⟨dr_at drL_law_977 (i := 7) rfl, rfl⟩
theorem dL_986 : dc code 986 987 (.aload_n 0) 1 := ⟨dr_at drL_law_977 (i := 8) rfl, rfl⟩
theorem dL_987 : dc code 987 989 (.iload 4) 2 := ⟨dr_at drL_law_977 (i := 9) rfl, rfl⟩
theorem dL_989 : dc code 989 990 (.iconst 4) 1 := ⟨dr_at drL_law_977 (i := 10) rfl, rfl⟩
theorem dL_990 : dc code 990 991 .iadd 1 := ⟨dr_at drL_law_977 (i := 11) rfl, rfl⟩
theorem dL_991 : dc code 991 992 .iaload 1 := ⟨dr_at drL_law_977 (i := 12) rfl, rfl⟩
theorem dL_992 : dc code 992 995 (.ifCond .eq 7) 3 := ⟨dr_at drL_law_977 (i := 13) rfl, rfl⟩
theorem dL_995 : dc code 995 996 (.iconst 1) 1 := ⟨dr_at drL_law_977 (i := 14) rfl, rfl⟩
theorem dL_996 : dc code 996 999 (.goto 4) 3 := ⟨dr_at drL_law_977 (i := 15) rfl, rfl⟩
theorem dL_999 : dc code 999 1000 (.iconst 0) 1 := ⟨dr_at drL_law_977 (i := 16) rfl, rfl⟩
theorem dL_1000 : dc code 1000 1001 (.aload_n 3) 1 := ⟨dr_at drL_law_977 (i := 17) rfl, rfl⟩
theorem dL_1001 : dc code 1001 1004 (.invokestatic 187) 3 := ⟨dr_at drL_law_977 (i := 18) rfl, rfl⟩
theorem dL_1004 : dc code 1004 1006 (.istore 5) 2 := ⟨dr_at drL_law_977 (i := 19) rfl, rfl⟩
theorem dL_1006 : dc code 1006 1007 (.aload_n 2) 1 := ⟨dr_at drL_law_977 (i := 20) rfl, rfl⟩
theorem dL_1007 : dc code 1007 1008 (.aload_n 0) 1 := ⟨dr_at drL_law_977 (i := 21) rfl, rfl⟩
theorem dL_1008 : dc code 1008 1010 (.iload 4) 2 := ⟨dr_at drL_law_977 (i := 22) rfl, rfl⟩
theorem dL_1010 : dc code 1010 1011 (.iconst 1) 1 := ⟨dr_at drL_law_977 (i := 23) rfl, rfl⟩
theorem dL_1011 : dc code 1011 1012 .iadd 1 := ⟨dr_at drL_law_977 (i := 24) rfl, rfl⟩
theorem dL_1012 : dc code 1012 1013 .iaload 1 := ⟨dr_at drL_law_977 (i := 25) rfl, rfl⟩
theorem dL_1013 : dc code 1013 1014 (.aload_n 0) 1 := ⟨dr_at drL_law_977 (i := 26) rfl, rfl⟩
theorem dL_1014 : dc code 1014 1016 (.iload 4) 2 := ⟨dr_at drL_law_977 (i := 27) rfl, rfl⟩
theorem dL_1016 : dc code 1016 1017 (.iconst 2) 1 := ⟨dr_at drL_law_977 (i := 28) rfl, rfl⟩
theorem dL_1017 : dc code 1017 1018 .iadd 1 := ⟨dr_at drL_law_977 (i := 29) rfl, rfl⟩
theorem dL_1018 : dc code 1018 1019 .iaload 1 := ⟨dr_at drL_law_977 (i := 30) rfl, rfl⟩
theorem dL_1019 : dc code 1019 1020 (.aload_n 0) 1 := ⟨dr_at drL_law_977 (i := 31) rfl, rfl⟩
theorem dL_1020 : dc code 1020 1022 (.iload 4) 2 := ⟨dr_at drL_law_977 (i := 32) rfl, rfl⟩
theorem dL_1022 : dc code 1022 1023 (.iconst 3) 1 := ⟨dr_at drL_law_977 (i := 33) rfl, rfl⟩
theorem dL_1023 : dc code 1023 1024 .iadd 1 := ⟨dr_at drL_law_977 (i := 34) rfl, rfl⟩
theorem dL_1024 : dc code 1024 1025 .iaload 1 := ⟨dr_at drL_law_977 (i := 35) rfl, rfl⟩
theorem dL_1025 : dc code 1025 1026 (.aload_n 0) 1 := ⟨dr_at drL_law_977 (i := 36) rfl, rfl⟩
theorem dL_1026 : dc code 1026 1028 (.iload 4) 2 := ⟨dr_at drL_law_977 (i := 37) rfl, rfl⟩
theorem dL_1028 : dc code 1028 1029 (.iconst 4) 1 := ⟨dr_at drL_law_977 (i := 38) rfl, rfl⟩
theorem dL_1029 : dc code 1029 1030 .iadd 1 := ⟨dr_at drL_law_977 (i := 39) rfl, rfl⟩
theorem dL_1030 : dc code 1030 1031 .iaload 1 := ⟨dr_at drL_law_977 (i := 40) rfl, rfl⟩
theorem dL_1031 : dc code 1031 1034 (.ifCond .eq 7) 3 := ⟨dr_at drL_law_977 (i := 41) rfl, rfl⟩
theorem dL_1034 : dc code 1034 1035 (.iconst 1) 1 := ⟨dr_at drL_law_977 (i := 42) rfl, rfl⟩
theorem dL_1035 : dc code 1035 1038 (.goto 4) 3 := ⟨dr_at drL_law_977 (i := 43) rfl, rfl⟩
theorem dL_1038 : dc code 1038 1039 (.iconst 0) 1 := ⟨dr_at drL_law_977 (i := 44) rfl, rfl⟩
theorem dL_1039 : dc code 1039 1042 (.invokevirtual 190) 3 := ⟨dr_at drL_law_977 (i := 45) rfl, rfl⟩
theorem dL_1042 : dc code 1042 1044 (.lstore 6) 2 := ⟨dr_at drL_law_977 (i := 46) rfl, rfl⟩
theorem dL_1044 : dc code 1044 1045 (.aload_n 2) 1 := ⟨dr_at drL_law_977 (i := 47) rfl, rfl⟩
theorem dL_1045 : dc code 1045 1048 (.invokevirtual 150) 3 := ⟨dr_at drL_law_977 (i := 48) rfl, rfl⟩
theorem dL_1048 : dc code 1048 1050 (.iload 5) 2 := ⟨dr_at drL_law_977 (i := 49) rfl, rfl⟩
theorem dL_1050 : dc code 1050 1053 (.if_icmp .eq 5) 3 := ⟨dr_at drL_law_977 (i := 50) rfl, rfl⟩
theorem dL_1053 : dc code 1053 1054 (.iconst 0) 1 := ⟨dr_at drL_law_977 (i := 51) rfl, rfl⟩
theorem dL_1055 : dc code 1055 1057 (.iload 5) 2 := ⟨dr_at drL_law_977 (i := 52) rfl, rfl⟩
theorem dL_1057 : dc code 1057 1060 (.ifCond .ne 14) 3 := ⟨dr_at drL_law_977 (i := 53) rfl, rfl⟩
theorem dL_1060 : dc code 1060 1061 (.aload_n 3) 1 := ⟨dr_at drL_law_977 (i := 54) rfl, rfl⟩
theorem dL_1061 : dc code 1061 1062 (.iconst 0) 1 := ⟨dr_at drL_law_977 (i := 55) rfl, rfl⟩
theorem dL_1062 : dc code 1062 1063 .laload 1 := ⟨dr_at drL_law_977 (i := 56) rfl, rfl⟩
theorem dL_1063 : dc code 1063 1065 (.lload 6) 2 := ⟨dr_at drL_law_977 (i := 57) rfl, rfl⟩
theorem dL_1065 : dc code 1065 1066 .lcmp 1 := ⟨dr_at drL_law_977 (i := 58) rfl, rfl⟩
theorem dL_1066 : dc code 1066 1069 (.ifCond .eq 5) 3 := ⟨dr_at drL_law_977 (i := 59) rfl, rfl⟩
theorem dL_1069 : dc code 1069 1070 (.iconst 0) 1 := ⟨dr_at drL_law_977 (i := 60) rfl, rfl⟩
theorem dL_1071 : dc code 1071 1074 (.goto 1711) 3 := ⟨dr_at drL_law_977 (i := 61) rfl, rfl⟩
theorem dL_1074 : dc code 1074 1075 (.aload_n 1) 1 := ⟨dr_at drL_law_977 (i := 62) rfl, rfl⟩
theorem dL_1075 : dc code 1075 1076 (.aload_n 0) 1 := ⟨dr_at drL_law_977 (i := 63) rfl, rfl⟩
theorem dL_1076 : dc code 1076 1078 (.iload 4) 2 := ⟨dr_at drL_law_977 (i := 64) rfl, rfl⟩
theorem dL_1078 : dc code 1078 1079 (.iconst 1) 1 := ⟨dr_at drL_law_977 (i := 65) rfl, rfl⟩
theorem dL_1079 : dc code 1079 1080 .iadd 1 := ⟨dr_at drL_law_977 (i := 66) rfl, rfl⟩
theorem dL_1080 : dc code 1080 1081 .iaload 1 := ⟨dr_at drL_law_977 (i := 67) rfl, rfl⟩
theorem dL_1081 : dc code 1081 1082 (.aload_n 0) 1 := ⟨dr_at drL_law_977 (i := 68) rfl, rfl⟩
theorem dL_1082 : dc code 1082 1084 (.iload 4) 2 := ⟨dr_at drL_law_977 (i := 69) rfl, rfl⟩
theorem dL_1084 : dc code 1084 1085 (.iconst 2) 1 := ⟨dr_at drL_law_977 (i := 70) rfl, rfl⟩
theorem dL_1085 : dc code 1085 1086 .iadd 1 := ⟨dr_at drL_law_977 (i := 71) rfl, rfl⟩
theorem dL_1086 : dc code 1086 1087 .iaload 1 := ⟨dr_at drL_law_977 (i := 72) rfl, rfl⟩
theorem dL_1087 : dc code 1087 1090 (.ifCond .eq 7) 3 := ⟨dr_at drL_law_977 (i := 73) rfl, rfl⟩
theorem dL_1090 : dc code 1090 1091 (.iconst 1) 1 := ⟨dr_at drL_law_977 (i := 74) rfl, rfl⟩
theorem dL_1091 : dc code 1091 1094 (.goto 4) 3 := ⟨dr_at drL_law_977 (i := 75) rfl, rfl⟩
theorem dL_1094 : dc code 1094 1095 (.iconst 0) 1 := ⟨dr_at drL_law_977 (i := 76) rfl, rfl⟩
theorem dL_1095 : dc code 1095 1096 (.aload_n 3) 1 := ⟨dr_at drL_law_977 (i := 77) rfl, rfl⟩
theorem dL_1096 : dc code 1096 1099 (.invokestatic 191) 3 := ⟨dr_at drL_law_977 (i := 78) rfl, rfl⟩
theorem dL_1099 : dc code 1099 1101 (.istore 5) 2 := ⟨dr_at drL_law_977 (i := 79) rfl, rfl⟩
theorem dL_1101 : dc code 1101 1102 (.aload_n 2) 1 := ⟨dr_at drL_law_977 (i := 80) rfl, rfl⟩
theorem drL_law_1102 : ([(1102, (.aload_n 0), 1), (1103, (.iload 4), 2), (1105, (.iconst 1), 1), (1106, .iadd, 1), (1107, .iaload, 1), (1108, (.aload_n 0), 1), (1109, (.iload 4), 2), (1111, (.iconst 2), 1), (1112, .iadd, 1), (1113, .iaload, 1), (1114, (.ifCond .eq 7), 3), (1117, (.iconst 1), 1), (1118, (.goto 4), 3), (1121, (.iconst 0), 1), (1122, (.invokevirtual 194), 3), (1125, (.istore 6), 2), (1127, (.aload_n 2), 1), (1128, (.invokevirtual 150), 3), (1131, (.iload 5), 2), (1133, (.if_icmp .eq 5), 3), (1136, (.iconst 0), 1), (1138, (.iload 5), 2), (1140, (.ifCond .ne 15), 3), (1143, (.aload_n 3), 1), (1144, (.iconst 0), 1), (1145, .laload, 1), (1146, (.iload 6), 2), (1148, .i2l, 1), (1149, .lcmp, 1), (1150, (.ifCond .eq 5), 3), (1153, (.iconst 0), 1), (1155, (.goto 1627), 3), (1158, (.aload_n 1), 1), (1159, (.aload_n 0), 1), (1160, (.iload 4), 2), (1162, (.iconst 1), 1), (1163, .iadd, 1), (1164, .iaload, 1), (1165, (.aload_n 0), 1), (1166, (.iload 4), 2), (1168, (.iconst 2), 1), (1169, .iadd, 1), (1170, .iaload, 1), (1171, (.ifCond .eq 7), 3), (1174, (.iconst 1), 1), (1175, (.goto 4), 3), (1178, (.iconst 0), 1), (1179, (.aload_n 3), 1), (1180, (.invokestatic 195), 3), (1183, (.istore 5), 2), (1185, (.aload_n 2), 1), (1186, (.aload_n 0), 1), (1187, (.iload 4), 2), (1189, (.iconst 1), 1), (1190, .iadd, 1), (1191, .iaload, 1), (1192, (.aload_n 0), 1), (1193, (.iload 4), 2), (1195, (.iconst 2), 1), (1196, .iadd, 1), (1197, .iaload, 1), (1198, (.ifCond .eq 7), 3), (1201, (.iconst 1), 1), (1202, (.goto 4), 3), (1205, (.iconst 0), 1), (1206, (.invokevirtual 197), 3), (1209, (.lstore 6), 2), (1211, (.aload_n 2), 1), (1212, (.invokevirtual 150), 3), (1215, (.iload 5), 2), (1217, (.if_icmp .eq 5), 3), (1220, (.iconst 0), 1)] : List (Nat × Instr × Nat)).all (fun q => decide (decode code q.1 = .ok q.2)) = true := by decide +kernel
theorem dL_1102 : dc code 1102 1103 (.aload_n 0) 1 := ⟨dr_at drL_law_1102 (i := 0) rfl, rfl⟩
theorem dL_1103 : dc code 1103 1105 (.iload 4) 2 := ⟨dr_at drL_law_1102 (i := 1) rfl, rfl⟩
theorem dL_1105 : dc code 1105 1106 (.iconst 1) 1 := ⟨dr_at drL_law_1102 (i := 2) rfl, rfl⟩
theorem dL_1106 : dc code 1106 1107 .iadd 1 := ⟨dr_at drL_law_1102 (i := 3) rfl, rfl⟩
theorem dL_1107 : dc code 1107 1108 .iaload 1 := ⟨dr_at drL_law_1102 (i := 4) rfl, rfl⟩
theorem dL_1108 : dc code 1108 1109 (.aload_n 0) 1 := ⟨dr_at drL_law_1102 (i := 5) rfl, rfl⟩
theorem dL_1109 : dc code 1109 1111 (.iload 4) 2 := ⟨dr_at drL_law_1102 (i := 6) rfl, rfl⟩
theorem dL_1111 : dc code 1111 1112 (.iconst 2) 1 := ⟨dr_at drL_law_1102 (i := 7) rfl, rfl⟩
theorem dL_1112 : dc code 1112 1113 .iadd 1 := ⟨dr_at drL_law_1102 (i := 8) rfl, rfl⟩
theorem dL_1113 : dc code 1113 1114 .iaload 1 := ⟨dr_at drL_law_1102 (i := 9) rfl, rfl⟩
theorem dL_1114 : dc code 1114 1117 (.ifCond .eq 7) 3 := ⟨dr_at drL_law_1102 (i := 10) rfl, rfl⟩
theorem dL_1117 : dc code 1117 1118 (.iconst 1) 1 := ⟨dr_at drL_law_1102 (i := 11) rfl, rfl⟩
theorem dL_1118 : dc code 1118 1121 (.goto 4) 3 := ⟨dr_at drL_law_1102 (i := 12) rfl, rfl⟩
theorem dL_1121 : dc code 1121 1122 (.iconst 0) 1 := ⟨dr_at drL_law_1102 (i := 13) rfl, rfl⟩
theorem dL_1122 : dc code 1122 1125 (.invokevirtual 194) 3 := ⟨dr_at drL_law_1102 (i := 14) rfl, rfl⟩
theorem dL_1125 : dc code 1125 1127 (.istore 6) 2 := ⟨dr_at drL_law_1102 (i := 15) rfl, rfl⟩
theorem dL_1127 : dc code 1127 1128 (.aload_n 2) 1 := ⟨dr_at drL_law_1102 (i := 16) rfl, rfl⟩
theorem dL_1128 : dc code 1128 1131 (.invokevirtual 150) 3 := ⟨dr_at drL_law_1102 (i := 17) rfl, rfl⟩
theorem dL_1131 : dc code 1131 1133 (.iload 5) 2 := ⟨dr_at drL_law_1102 (i := 18) rfl, rfl⟩
theorem dL_1133 : dc code 1133 1136 (.if_icmp .eq 5) 3 := ⟨dr_at drL_law_1102 (i := 19) rfl, rfl⟩
theorem dL_1136 : dc code 1136 1137 (.iconst 0) 1 := ⟨dr_at drL_law_1102 (i := 20) rfl, rfl⟩
theorem dL_1138 : dc code 1138 1140 (.iload 5) 2 := ⟨dr_at drL_law_1102 (i := 21) rfl, rfl⟩
theorem dL_1140 : dc code 1140 1143 (.ifCond .ne 15) 3 := ⟨dr_at drL_law_1102 (i := 22) rfl, rfl⟩
theorem dL_1143 : dc code 1143 1144 (.aload_n 3) 1 := ⟨dr_at drL_law_1102 (i := 23) rfl, rfl⟩
theorem dL_1144 : dc code 1144 1145 (.iconst 0) 1 := ⟨dr_at drL_law_1102 (i := 24) rfl, rfl⟩
theorem dL_1145 : dc code 1145 1146 .laload 1 := ⟨dr_at drL_law_1102 (i := 25) rfl, rfl⟩
theorem dL_1146 : dc code 1146 1148 (.iload 6) 2 := ⟨dr_at drL_law_1102 (i := 26) rfl, rfl⟩
theorem dL_1148 : dc code 1148 1149 .i2l 1 := ⟨dr_at drL_law_1102 (i := 27) rfl, rfl⟩
theorem dL_1149 : dc code 1149 1150 .lcmp 1 := ⟨dr_at drL_law_1102 (i := 28) rfl, rfl⟩
theorem dL_1150 : dc code 1150 1153 (.ifCond .eq 5) 3 := ⟨dr_at drL_law_1102 (i := 29) rfl, rfl⟩
theorem dL_1153 : dc code 1153 1154 (.iconst 0) 1 := ⟨dr_at drL_law_1102 (i := 30) rfl, rfl⟩
theorem dL_1155 : dc code 1155 1158 (.goto 1627) 3 := ⟨dr_at drL_law_1102 (i := 31) rfl, rfl⟩
theorem dL_1158 : dc code 1158 1159 (.aload_n 1) 1 := ⟨dr_at drL_law_1102 (i := 32) rfl, rfl⟩
theorem dL_1159 : dc code 1159 1160 (.aload_n 0) 1 := ⟨dr_at drL_law_1102 (i := 33) rfl, rfl⟩
theorem dL_1160 : dc code 1160 1162 (.iload 4) 2 := ⟨dr_at drL_law_1102 (i := 34) rfl, rfl⟩
theorem dL_1162 : dc code 1162 1163 (.iconst 1) 1 := ⟨dr_at drL_law_1102 (i := 35) rfl, rfl⟩
theorem dL_1163 : dc code 1163 1164 .iadd 1 := ⟨dr_at drL_law_1102 (i := 36) rfl, rfl⟩
theorem dL_1164 : dc code 1164 1165 .iaload 1 := ⟨dr_at drL_law_1102 (i := 37) rfl, rfl⟩
theorem dL_1165 : dc code 1165 1166 (.aload_n 0) 1 := ⟨dr_at drL_law_1102 (i := 38) rfl, rfl⟩
theorem dL_1166 : dc code 1166 1168 (.iload 4) 2 := ⟨dr_at drL_law_1102 (i := 39) rfl, rfl⟩
theorem dL_1168 : dc code 1168 1169 (.iconst 2) 1 := ⟨dr_at drL_law_1102 (i := 40) rfl, rfl⟩
theorem dL_1169 : dc code 1169 1170 .iadd 1 := ⟨dr_at drL_law_1102 (i := 41) rfl, rfl⟩
theorem dL_1170 : dc code 1170 1171 .iaload 1 := ⟨dr_at drL_law_1102 (i := 42) rfl, rfl⟩
theorem dL_1171 : dc code 1171 1174 (.ifCond .eq 7) 3 := ⟨dr_at drL_law_1102 (i := 43) rfl, rfl⟩
theorem dL_1174 : dc code 1174 1175 (.iconst 1) 1 := ⟨dr_at drL_law_1102 (i := 44) rfl, rfl⟩
theorem dL_1175 : dc code 1175 1178 (.goto 4) 3 := ⟨dr_at drL_law_1102 (i := 45) rfl, rfl⟩
theorem dL_1178 : dc code 1178 1179 (.iconst 0) 1 := ⟨dr_at drL_law_1102 (i := 46) rfl, rfl⟩
theorem dL_1179 : dc code 1179 1180 (.aload_n 3) 1 := ⟨dr_at drL_law_1102 (i := 47) rfl, rfl⟩
theorem dL_1180 : dc code 1180 1183 (.invokestatic 195) 3 := ⟨dr_at drL_law_1102 (i := 48) rfl, rfl⟩
theorem dL_1183 : dc code 1183 1185 (.istore 5) 2 := ⟨dr_at drL_law_1102 (i := 49) rfl, rfl⟩
theorem dL_1185 : dc code 1185 1186 (.aload_n 2) 1 := ⟨dr_at drL_law_1102 (i := 50) rfl, rfl⟩
theorem dL_1186 : dc code 1186 1187 (.aload_n 0) 1 := ⟨dr_at drL_law_1102 (i := 51) rfl, rfl⟩
theorem dL_1187 : dc code 1187 1189 (.iload 4) 2 := ⟨dr_at drL_law_1102 (i := 52) rfl, rfl⟩
theorem dL_1189 : dc code 1189 1190 (.iconst 1) 1 := ⟨dr_at drL_law_1102 (i := 53) rfl, rfl⟩
theorem dL_1190 : dc code 1190 1191 .iadd 1 := ⟨dr_at drL_law_1102 (i := 54) rfl, rfl⟩
theorem dL_1191 : dc code 1191 1192 .iaload 1 := ⟨dr_at drL_law_1102 (i := 55) rfl, rfl⟩
theorem dL_1192 : dc code 1192 1193 (.aload_n 0) 1 := ⟨dr_at drL_law_1102 (i := 56) rfl, rfl⟩
theorem dL_1193 : dc code 1193 1195 (.iload 4) 2 := ⟨dr_at drL_law_1102 (i := 57) rfl, rfl⟩
theorem dL_1195 : dc code 1195 1196 (.iconst 2) 1 := ⟨dr_at drL_law_1102 (i := 58) rfl, rfl⟩
theorem dL_1196 : dc code 1196 1197 .iadd 1 := ⟨dr_at drL_law_1102 (i := 59) rfl, rfl⟩
theorem dL_1197 : dc code 1197 1198 .iaload 1 := ⟨dr_at drL_law_1102 (i := 60) rfl, rfl⟩
theorem dL_1198 : dc code 1198 1201 (.ifCond .eq 7) 3 := ⟨dr_at drL_law_1102 (i := 61) rfl, rfl⟩
theorem dL_1201 : dc code 1201 1202 (.iconst 1) 1 := ⟨dr_at drL_law_1102 (i := 62) rfl, rfl⟩
theorem dL_1202 : dc code 1202 1205 (.goto 4) 3 := ⟨dr_at drL_law_1102 (i := 63) rfl, rfl⟩
theorem dL_1205 : dc code 1205 1206 (.iconst 0) 1 := ⟨dr_at drL_law_1102 (i := 64) rfl, rfl⟩
theorem dL_1206 : dc code 1206 1209 (.invokevirtual 197) 3 := ⟨dr_at drL_law_1102 (i := 65) rfl, rfl⟩
theorem dL_1209 : dc code 1209 1211 (.lstore 6) 2 := ⟨dr_at drL_law_1102 (i := 66) rfl, rfl⟩
theorem dL_1211 : dc code 1211 1212 (.aload_n 2) 1 := ⟨dr_at drL_law_1102 (i := 67) rfl, rfl⟩
theorem dL_1212 : dc code 1212 1215 (.invokevirtual 150) 3 := ⟨dr_at drL_law_1102 (i := 68) rfl, rfl⟩
theorem dL_1215 : dc code 1215 1217 (.iload 5) 2 := ⟨dr_at drL_law_1102 (i := 69) rfl, rfl⟩
theorem dL_1217 : dc code 1217 1220 (.if_icmp .eq 5) 3 := ⟨dr_at drL_law_1102 (i := 70) rfl, rfl⟩
theorem dL_1220 : dc code 1220 1221 (.iconst 0) 1 := ⟨dr_at drL_law_1102 (i := 71) rfl, rfl⟩
theorem drL_law_1222 : ([(1222, (.iload 5), 2), (1224, (.ifCond .ne 14), 3), (1227, (.aload_n 3), 1), (1228, (.iconst 0), 1), (1229, .laload, 1), (1230, (.lload 6), 2), (1232, .lcmp, 1), (1233, (.ifCond .eq 5), 3), (1236, (.iconst 0), 1), (1238, (.goto 1544), 3), (1241, (.aload_n 1), 1), (1242, (.invokevirtual 198), 3), (1245, (.aload_n 2), 1), (1246, (.invokevirtual 201), 3), (1249, (.if_icmp .eq 1533), 3), (1252, (.iconst 0), 1), (1254, (.aload_n 1), 1), (1255, (.aload_n 0), 1), (1256, (.iload 4), 2), (1258, (.iconst 1), 1), (1259, .iadd, 1), (1260, .iaload, 1), (1261, (.aload_n 0), 1), (1262, (.iload 4), 2), (1264, (.iconst 2), 1), (1265, .iadd, 1), (1266, .iaload, 1), (1267, (.ifCond .eq 7), 3), (1270, (.iconst 1), 1), (1271, (.goto 4), 3), (1274, (.iconst 0), 1), (1275, (.invokevirtual 202), 3), (1278, (.aload_n 2), 1), (1279, (.aload_n 0), 1), (1280, (.iload 4), 2), (1282, (.iconst 1), 1), (1283, .iadd, 1), (1284, .iaload, 1), (1285, (.aload_n 0), 1), (1286, (.iload 4), 2), (1288, (.iconst 2), 1), (1289, .iadd, 1), (1290, .iaload, 1), (1291, (.ifCond .eq 7), 3), (1294, (.iconst 1), 1), (1295, (.goto 4), 3), (1298, (.iconst 0), 1), (1299, (.invokevirtual 205), 3), (1302, (.if_icmp .eq 1480), 3), (1305, (.iconst 0), 1), (1307, (.aload_n 1), 1), (1308, (.aload_n 0), 1), (1309, (.iload 4), 2), (1311, (.iconst 1), 1), (1312, .iadd, 1), (1313, .iaload, 1), (1314, (.aload_n 0), 1), (1315, (.iload 4), 2), (1317, (.iconst 2), 1), (1318, .iadd, 1), (1319, .iaload, 1), (1320, (.aload_n 0), 1), (1321, (.iload 4), 2), (1323, (.iconst 3), 1), (1324, .iadd, 1)] : List (Nat × Instr × Nat)).all (fun q => decide (decode code q.1 = .ok q.2)) = true := by decide +kernel
theorem dL_1222 : dc code 1222 1224 (.iload 5) 2 := ⟨dr_at drL_law_1222 (i := 0) rfl, rfl⟩
theorem dL_1224 : dc code 1224 1227 (.ifCond .ne 14) 3 := ⟨dr_at drL_law_1222 (i := 1) rfl, rfl⟩
theorem dL_1227 : dc code 1227 1228 (.aload_n 3) 1 := ⟨dr_at drL_law_1222 (i := 2) rfl, rfl⟩
theorem dL_1228 : dc code 1228 1229 (.iconst 0) 1 := ⟨dr_at drL_law_1222 (i := 3) rfl, rfl⟩
theorem dL_1229 : dc code 1229 1230 .laload 1 := ⟨dr_at drL_law_1222 (i := 4) rfl, rfl⟩
theorem dL_1230 : dc code 1230 1232 (.lload 6) 2 := ⟨dr_at drL_law_1222 (i := 5) rfl, rfl⟩
theorem dL_1232 : dc code 1232 1233 .lcmp 1 := ⟨dr_at drL_law_1222 (i := 6) rfl, rfl⟩
theorem dL_1233 : dc code 1233 1236 (.ifCond .eq 5) 3 := ⟨dr_at drL_law_1222 (i := 7) rfl, rfl⟩
theorem dL_1236 : dc code 1236 1237 (.iconst 0) 1 := ⟨dr_at drL_law_1222 (i := 8) rfl, rfl⟩
theorem dL_1238 : dc code 1238 1241 (.goto 1544) 3 := ⟨dr_at drL_law_1222 (i := 9) rfl, rfl⟩
theorem dL_1241 : dc code 1241 1242 (.aload_n 1) 1 := ⟨dr_at drL_law_1222 (i := 10) rfl, rfl⟩
theorem dL_1242 : dc code 1242 1245 (.invokevirtual 198) 3 := ⟨dr_at drL_law_1222 (i := 11) rfl, rfl⟩
theorem dL_1245 : dc code 1245 1246 (.aload_n 2) 1 := ⟨dr_at drL_law_1222 (i := 12) rfl, rfl⟩
theorem dL_1246 : dc code 1246 1249 (.invokevirtual 201) 3 := ⟨dr_at drL_law_1222 (i := 13) rfl, rfl⟩
theorem dL_1249 : dc code 1249 1252 (.if_icmp .eq 1533) 3 := ⟨dr_at drL_law_1222 (i := 14) rfl, rfl⟩
theorem dL_1252 : dc code 1252 1253 (.iconst 0) 1 := ⟨dr_at drL_law_1222 (i := 15) rfl, rfl⟩
theorem dL_1254 : dc code 1254 1255 (.aload_n 1) 1 := ⟨dr_at drL_law_1222 (i := 16) rfl, rfl⟩
theorem dL_1255 : dc code 1255 1256 (.aload_n 0) 1 := ⟨dr_at drL_law_1222 (i := 17) rfl, rfl⟩
theorem dL_1256 : dc code 1256 1258 (.iload 4) 2 := ⟨dr_at drL_law_1222 (i := 18) rfl, rfl⟩
theorem dL_1258 : dc code 1258 1259 (.iconst 1) 1 := ⟨dr_at drL_law_1222 (i := 19) rfl, rfl⟩
theorem dL_1259 : dc code 1259 1260 .iadd 1 := ⟨dr_at drL_law_1222 (i := 20) rfl, rfl⟩
theorem dL_1260 : dc code 1260 1261 .iaload 1 := ⟨dr_at drL_law_1222 (i := 21) rfl, rfl⟩
theorem dL_1261 : dc code 1261 1262 (.aload_n 0) 1 := ⟨dr_at drL_law_1222 (i := 22) rfl, rfl⟩
theorem dL_1262 : dc code 1262 1264 (.iload 4) 2 := ⟨dr_at drL_law_1222 (i := 23) rfl, rfl⟩
theorem dL_1264 : dc code 1264 1265 (.iconst 2) 1 := ⟨dr_at drL_law_1222 (i := 24) rfl, rfl⟩
theorem dL_1265 : dc code 1265 1266 .iadd 1 := ⟨dr_at drL_law_1222 (i := 25) rfl, rfl⟩
theorem dL_1266 : dc code 1266 1267 .iaload 1 := ⟨dr_at drL_law_1222 (i := 26) rfl, rfl⟩
theorem dL_1267 : dc code 1267 1270 (.ifCond .eq 7) 3 := ⟨dr_at drL_law_1222 (i := 27) rfl, rfl⟩
theorem dL_1270 : dc code 1270 1271 (.iconst 1) 1 := ⟨dr_at drL_law_1222 (i := 28) rfl, rfl⟩
theorem dL_1271 : dc code 1271 1274 (.goto 4) 3 := ⟨dr_at drL_law_1222 (i := 29) rfl, rfl⟩
theorem dL_1274 : dc code 1274 1275 (.iconst 0) 1 := ⟨dr_at drL_law_1222 (i := 30) rfl, rfl⟩
theorem dL_1275 : dc code 1275 1278 (.invokevirtual 202) 3 := ⟨dr_at drL_law_1222 (i := 31) rfl, rfl⟩
theorem dL_1278 : dc code 1278 1279 (.aload_n 2) 1 := ⟨dr_at drL_law_1222 (i := 32) rfl, rfl⟩
theorem dL_1279 : dc code 1279 1280 (.aload_n 0) 1 := ⟨dr_at drL_law_1222 (i := 33) rfl, rfl⟩
theorem dL_1280 : dc code 1280 1282 (.iload 4) 2 := ⟨dr_at drL_law_1222 (i := 34) rfl, rfl⟩
theorem dL_1282 : dc code 1282 1283 (.iconst 1) 1 := ⟨dr_at drL_law_1222 (i := 35) rfl, rfl⟩
theorem dL_1283 : dc code 1283 1284 .iadd 1 := ⟨dr_at drL_law_1222 (i := 36) rfl, rfl⟩
theorem dL_1284 : dc code 1284 1285 .iaload 1 := ⟨dr_at drL_law_1222 (i := 37) rfl, rfl⟩
theorem dL_1285 : dc code 1285 1286 (.aload_n 0) 1 := ⟨dr_at drL_law_1222 (i := 38) rfl, rfl⟩
theorem dL_1286 : dc code 1286 1288 (.iload 4) 2 := ⟨dr_at drL_law_1222 (i := 39) rfl, rfl⟩
theorem dL_1288 : dc code 1288 1289 (.iconst 2) 1 := ⟨dr_at drL_law_1222 (i := 40) rfl, rfl⟩
theorem dL_1289 : dc code 1289 1290 .iadd 1 := ⟨dr_at drL_law_1222 (i := 41) rfl, rfl⟩
theorem dL_1290 : dc code 1290 1291 .iaload 1 := ⟨dr_at drL_law_1222 (i := 42) rfl, rfl⟩
theorem dL_1291 : dc code 1291 1294 (.ifCond .eq 7) 3 := ⟨dr_at drL_law_1222 (i := 43) rfl, rfl⟩
theorem dL_1294 : dc code 1294 1295 (.iconst 1) 1 := ⟨dr_at drL_law_1222 (i := 44) rfl, rfl⟩
theorem dL_1295 : dc code 1295 1298 (.goto 4) 3 := ⟨dr_at drL_law_1222 (i := 45) rfl, rfl⟩
theorem dL_1298 : dc code 1298 1299 (.iconst 0) 1 := ⟨dr_at drL_law_1222 (i := 46) rfl, rfl⟩
theorem dL_1299 : dc code 1299 1302 (.invokevirtual 205) 3 := ⟨dr_at drL_law_1222 (i := 47) rfl, rfl⟩
theorem dL_1302 : dc code 1302 1305 (.if_icmp .eq 1480) 3 := ⟨dr_at drL_law_1222 (i := 48) rfl, rfl⟩
theorem dL_1305 : dc code 1305 1306 (.iconst 0) 1 := ⟨dr_at drL_law_1222 (i := 49) rfl, rfl⟩
theorem dL_1307 : dc code 1307 1308 (.aload_n 1) 1 := ⟨dr_at drL_law_1222 (i := 50) rfl, rfl⟩
theorem dL_1308 : dc code 1308 1309 (.aload_n 0) 1 := ⟨dr_at drL_law_1222 (i := 51) rfl, rfl⟩
theorem dL_1309 : dc code 1309 1311 (.iload 4) 2 := ⟨dr_at drL_law_1222 (i := 52) rfl, rfl⟩
theorem dL_1311 : dc code 1311 1312 (.iconst 1) 1 := ⟨dr_at drL_law_1222 (i := 53) rfl, rfl⟩
theorem dL_1312 : dc code 1312 1313 .iadd 1 := ⟨dr_at drL_law_1222 (i := 54) rfl, rfl⟩
theorem dL_1313 : dc code 1313 1314 .iaload 1 := ⟨dr_at drL_law_1222 (i := 55) rfl, rfl⟩
theorem dL_1314 : dc code 1314 1315 (.aload_n 0) 1 := ⟨dr_at drL_law_1222 (i := 56) rfl, rfl⟩
theorem dL_1315 : dc code 1315 1317 (.iload 4) 2 := ⟨dr_at drL_law_1222 (i := 57) rfl, rfl⟩
theorem dL_1317 : dc code 1317 1318 (.iconst 2) 1 := ⟨dr_at drL_law_1222 (i := 58) rfl, rfl⟩
theorem dL_1318 : dc code 1318 1319 .iadd 1 := ⟨dr_at drL_law_1222 (i := 59) rfl, rfl⟩
theorem dL_1319 : dc code 1319 1320 .iaload 1 := ⟨dr_at drL_law_1222 (i := 60) rfl, rfl⟩
theorem dL_1320 : dc code 1320 1321 (.aload_n 0) 1 := ⟨dr_at drL_law_1222 (i := 61) rfl, rfl⟩
theorem dL_1321 : dc code 1321 1323 (.iload 4) 2 := ⟨dr_at drL_law_1222 (i := 62) rfl, rfl⟩
theorem dL_1323 : dc code 1323 1324 (.iconst 3) 1 := ⟨dr_at drL_law_1222 (i := 63) rfl, rfl⟩
theorem dL_1324 : dc code 1324 1325 .iadd 1 := ⟨dr_at drL_law_1222 (i := 64) rfl, rfl⟩
theorem drL_law_1325 : ([(1325, .iaload, 1), (1326, (.aload_n 0), 1), (1327, (.iload 4), 2), (1329, (.iconst 4), 1), (1330, .iadd, 1), (1331, .iaload, 1), (1332, (.ifCond .eq 7), 3), (1335, (.iconst 1), 1), (1336, (.goto 4), 3), (1339, (.iconst 0), 1), (1340, (.aload_n 3), 1), (1341, (.invokestatic 206), 3), (1344, (.istore 5), 2), (1346, (.aload_n 2), 1), (1347, (.aload_n 0), 1), (1348, (.iload 4), 2), (1350, (.iconst 1), 1), (1351, .iadd, 1), (1352, .iaload, 1), (1353, (.aload_n 0), 1), (1354, (.iload 4), 2), (1356, (.iconst 2), 1), (1357, .iadd, 1), (1358, .iaload, 1), (1359, (.aload_n 0), 1), (1360, (.iload 4), 2), (1362, (.iconst 3), 1), (1363, .iadd, 1), (1364, .iaload, 1), (1365, (.aload_n 0), 1), (1366, (.iload 4), 2), (1368, (.iconst 4), 1), (1369, .iadd, 1), (1370, .iaload, 1), (1371, (.ifCond .eq 7), 3), (1374, (.iconst 1), 1), (1375, (.goto 4), 3), (1378, (.iconst 0), 1), (1379, (.invokevirtual 208), 3), (1382, (.istore 6), 2), (1384, (.aload_n 2), 1), (1385, (.invokevirtual 150), 3), (1388, (.iload 5), 2), (1390, (.if_icmp .eq 5), 3), (1393, (.iconst 0), 1), (1395, (.iload 5), 2), (1397, (.ifCond .ne 22), 3), (1400, (.aload_n 3), 1), (1401, (.iconst 0), 1), (1402, .laload, 1), (1403, (.iload 6), 2), (1405, (.ifCond .eq 7), 3), (1408, (.lconst 1), 1), (1409, (.goto 4), 3), (1412, (.lconst 0), 1), (1413, .lcmp, 1), (1414, (.ifCond .eq 5), 3), (1417, (.iconst 0), 1), (1419, (.goto 1363), 3), (1422, (.aload_n 1), 1)] : List (Nat × Instr × Nat)).all (fun q => decide (decode code q.1 = .ok q.2)) = true := by decide +kernel
theorem dL_1325 : dc code 1325 1326 .iaload 1 := ⟨dr_at drL_law_1325 (i := 0) rfl, rfl⟩
theorem dL_1326 : dc code 1326 1327 (.aload_n 0) 1 := ⟨dr_at drL_law_1325 (i := 1) rfl, rfl⟩
theorem dL_1327 : dc code 1327 1329 (.iload 4) 2 := ⟨dr_at drL_law_1325 (i := 2) rfl, rfl⟩
theorem dL_1329 : dc code 1329 1330 (.iconst 4) 1 := ⟨dr_at drL_law_1325 (i := 3) rfl, rfl⟩
theorem dL_1330 : dc code 1330 1331 .iadd 1 := ⟨dr_at drL_law_1325 (i := 4) rfl, rfl⟩
theorem dL_1331 : dc code 1331 1332 .iaload 1 := ⟨dr_at drL_law_1325 (i := 5) rfl, rfl⟩
theorem dL_1332 : dc code 1332 1335 (.ifCond .eq 7) 3 := ⟨dr_at drL_law_1325 (i := 6) rfl, rfl⟩
theorem dL_1335 : dc code 1335 1336 (.iconst 1) 1 := ⟨dr_at drL_law_1325 (i := 7) rfl, rfl⟩
theorem dL_1336 : dc code 1336 1339 (.goto 4) 3 := ⟨dr_at drL_law_1325 (i := 8) rfl, rfl⟩
theorem dL_1339 : dc code 1339 1340 (.iconst 0) 1 := ⟨dr_at drL_law_1325 (i := 9) rfl, rfl⟩
theorem dL_1340 : dc code 1340 1341 (.aload_n 3) 1 := ⟨dr_at drL_law_1325 (i := 10) rfl, rfl⟩
theorem dL_1341 : dc code 1341 1344 (.invokestatic 206) 3 := ⟨dr_at drL_law_1325 (i := 11) rfl, rfl⟩
theorem dL_1344 : dc code 1344 1346 (.istore 5) 2 := ⟨dr_at drL_law_1325 (i := 12) rfl, rfl⟩
theorem dL_1346 : dc code 1346 1347 (.aload_n 2) 1 := ⟨dr_at drL_law_1325 (i := 13) rfl, rfl⟩
theorem dL_1347 : dc code 1347 1348 (.aload_n 0) 1 := ⟨dr_at drL_law_1325 (i := 14) rfl, rfl⟩
theorem dL_1348 : dc code 1348 1350 (.iload 4) 2 := ⟨dr_at drL_law_1325 (i := 15) rfl, rfl⟩
theorem dL_1350 : dc code 1350 1351 (.iconst 1) 1 := ⟨dr_at drL_law_1325 (i := 16) rfl, rfl⟩
theorem dL_1351 : dc code 1351 1352 .iadd 1 := ⟨dr_at drL_law_1325 (i := 17) rfl, rfl⟩
theorem dL_1352 : dc code 1352 1353 .iaload 1 := ⟨dr_at drL_law_1325 (i := 18) rfl, rfl⟩
theorem dL_1353 : dc code 1353 1354 (.aload_n 0) 1 := ⟨dr_at drL_law_1325 (i := 19) rfl, rfl⟩
theorem dL_1354 : dc code 1354 1356 (.iload 4) 2 := ⟨dr_at drL_law_1325 (i := 20) rfl, rfl⟩
theorem dL_1356 : dc code 1356 1357 (.iconst 2) 1 := ⟨dr_at drL_law_1325 (i := 21) rfl, rfl⟩
theorem dL_1357 : dc code 1357 1358 .iadd 1 := ⟨dr_at drL_law_1325 (i := 22) rfl, rfl⟩
theorem dL_1358 : dc code 1358 1359 .iaload 1 := ⟨dr_at drL_law_1325 (i := 23) rfl, rfl⟩
theorem dL_1359 : dc code 1359 1360 (.aload_n 0) 1 := ⟨dr_at drL_law_1325 (i := 24) rfl, rfl⟩
theorem dL_1360 : dc code 1360 1362 (.iload 4) 2 := ⟨dr_at drL_law_1325 (i := 25) rfl, rfl⟩
theorem dL_1362 : dc code 1362 1363 (.iconst 3) 1 := ⟨dr_at drL_law_1325 (i := 26) rfl, rfl⟩
theorem dL_1363 : dc code 1363 1364 .iadd 1 := ⟨dr_at drL_law_1325 (i := 27) rfl, rfl⟩
theorem dL_1364 : dc code 1364 1365 .iaload 1 := ⟨dr_at drL_law_1325 (i := 28) rfl, rfl⟩
theorem dL_1365 : dc code 1365 1366 (.aload_n 0) 1 := ⟨dr_at drL_law_1325 (i := 29) rfl, rfl⟩
theorem dL_1366 : dc code 1366 1368 (.iload 4) 2 := ⟨dr_at drL_law_1325 (i := 30) rfl, rfl⟩
theorem dL_1368 : dc code 1368 1369 (.iconst 4) 1 := ⟨dr_at drL_law_1325 (i := 31) rfl, rfl⟩
theorem dL_1369 : dc code 1369 1370 .iadd 1 := ⟨dr_at drL_law_1325 (i := 32) rfl, rfl⟩
theorem dL_1370 : dc code 1370 1371 .iaload 1 := ⟨dr_at drL_law_1325 (i := 33) rfl, rfl⟩
theorem dL_1371 : dc code 1371 1374 (.ifCond .eq 7) 3 := ⟨dr_at drL_law_1325 (i := 34) rfl, rfl⟩
theorem dL_1374 : dc code 1374 1375 (.iconst 1) 1 := ⟨dr_at drL_law_1325 (i := 35) rfl, rfl⟩
theorem dL_1375 : dc code 1375 1378 (.goto 4) 3 := ⟨dr_at drL_law_1325 (i := 36) rfl, rfl⟩
theorem dL_1378 : dc code 1378 1379 (.iconst 0) 1 := ⟨dr_at drL_law_1325 (i := 37) rfl, rfl⟩
theorem dL_1379 : dc code 1379 1382 (.invokevirtual 208) 3 := ⟨dr_at drL_law_1325 (i := 38) rfl, rfl⟩
theorem dL_1382 : dc code 1382 1384 (.istore 6) 2 := ⟨dr_at drL_law_1325 (i := 39) rfl, rfl⟩
theorem dL_1384 : dc code 1384 1385 (.aload_n 2) 1 := ⟨dr_at drL_law_1325 (i := 40) rfl, rfl⟩
theorem dL_1385 : dc code 1385 1388 (.invokevirtual 150) 3 := ⟨dr_at drL_law_1325 (i := 41) rfl, rfl⟩
theorem dL_1388 : dc code 1388 1390 (.iload 5) 2 := ⟨dr_at drL_law_1325 (i := 42) rfl, rfl⟩
theorem dL_1390 : dc code 1390 1393 (.if_icmp .eq 5) 3 := ⟨dr_at drL_law_1325 (i := 43) rfl, rfl⟩
theorem dL_1393 : dc code 1393 1394 (.iconst 0) 1 := ⟨dr_at drL_law_1325 (i := 44) rfl, rfl⟩
theorem dL_1395 : dc code 1395 1397 (.iload 5) 2 := ⟨dr_at drL_law_1325 (i := 45) rfl, rfl⟩
theorem dL_1397 : dc code 1397 1400 (.ifCond .ne 22) 3 := ⟨dr_at drL_law_1325 (i := 46) rfl, rfl⟩
theorem dL_1400 : dc code 1400 1401 (.aload_n 3) 1 := ⟨dr_at drL_law_1325 (i := 47) rfl, rfl⟩
theorem dL_1401 : dc code 1401 1402 (.iconst 0) 1 := ⟨dr_at drL_law_1325 (i := 48) rfl, rfl⟩
theorem dL_1402 : dc code 1402 1403 .laload 1 := ⟨dr_at drL_law_1325 (i := 49) rfl, rfl⟩
theorem dL_1403 : dc code 1403 1405 (.iload 6) 2 := ⟨dr_at drL_law_1325 (i := 50) rfl, rfl⟩
theorem dL_1405 : dc code 1405 1408 (.ifCond .eq 7) 3 := ⟨dr_at drL_law_1325 (i := 51) rfl, rfl⟩
theorem dL_1408 : dc code 1408 1409 (.lconst 1) 1 := ⟨dr_at drL_law_1325 (i := 52) rfl, rfl⟩
theorem dL_1409 : dc code 1409 1412 (.goto 4) 3 := ⟨dr_at drL_law_1325 (i := 53) rfl, rfl⟩
theorem dL_1412 : dc code 1412 1413 (.lconst 0) 1 := ⟨dr_at drL_law_1325 (i := 54) rfl, rfl⟩
theorem dL_1413 : dc code 1413 1414 .lcmp 1 := ⟨dr_at drL_law_1325 (i := 55) rfl, rfl⟩
theorem dL_1414 : dc code 1414 1417 (.ifCond .eq 5) 3 := ⟨dr_at drL_law_1325 (i := 56) rfl, rfl⟩
theorem dL_1417 : dc code 1417 1418 (.iconst 0) 1 := ⟨dr_at drL_law_1325 (i := 57) rfl, rfl⟩
theorem dL_1419 : dc code 1419 1422 (.goto 1363) 3 := ⟨dr_at drL_law_1325 (i := 58) rfl, rfl⟩
theorem dL_1422 : dc code 1422 1423 (.aload_n 1) 1 := ⟨dr_at drL_law_1325 (i := 59) rfl, rfl⟩
theorem drL_law_1423 : ([(1423, (.aload_n 0), 1), (1424, (.iload 4), 2), (1426, (.iconst 1), 1), (1427, .iadd, 1), (1428, .iaload, 1), (1429, (.aload_n 0), 1), (1430, (.iload 4), 2), (1432, (.iconst 2), 1), (1433, .iadd, 1), (1434, .iaload, 1), (1435, (.aload_n 0), 1), (1436, (.iload 4), 2), (1438, (.iconst 3), 1), (1439, .iadd, 1), (1440, .iaload, 1), (1441, (.aload_n 0), 1), (1442, (.iload 4), 2), (1444, (.iconst 4), 1), (1445, .iadd, 1), (1446, .iaload, 1), (1447, (.aload_n 3), 1), (1448, (.invokestatic 209), 3), (1451, (.istore 5), 2), (1453, (.aload_n 2), 1), (1454, (.aload_n 0), 1), (1455, (.iload 4), 2), (1457, (.iconst 1), 1), (1458, .iadd, 1), (1459, .iaload, 1), (1460, (.aload_n 0), 1), (1461, (.iload 4), 2), (1463, (.iconst 2), 1), (1464, .iadd, 1), (1465, .iaload, 1), (1466, (.aload_n 0), 1), (1467, (.iload 4), 2), (1469, (.iconst 3), 1), (1470, .iadd, 1), (1471, .iaload, 1), (1472, (.aload_n 0), 1), (1473, (.iload 4), 2), (1475, (.iconst 4), 1), (1476, .iadd, 1), (1477, .iaload, 1), (1478, (.invokevirtual 212), 3), (1481, (.istore 6), 2), (1483, (.aload_n 2), 1), (1484, (.invokevirtual 150), 3), (1487, (.iload 5), 2), (1489, (.if_icmp .eq 5), 3), (1492, (.iconst 0), 1), (1494, (.iload 5), 2), (1496, (.ifCond .ne 15), 3), (1499, (.aload_n 3), 1), (1500, (.iconst 0), 1), (1501, .laload, 1)] : List (Nat × Instr × Nat)).all (fun q => decide (decode code q.1 = .ok q.2)) = true := by decide +kernel
theorem dL_1423 : dc code 1423 1424 (.aload_n 0) 1 := ⟨dr_at drL_law_1423 (i := 0) rfl, rfl⟩
theorem dL_1424 : dc code 1424 1426 (.iload 4) 2 := ⟨dr_at drL_law_1423 (i := 1) rfl, rfl⟩
theorem dL_1426 : dc code 1426 1427 (.iconst 1) 1 := ⟨dr_at drL_law_1423 (i := 2) rfl, rfl⟩
theorem dL_1427 : dc code 1427 1428 .iadd 1 := ⟨dr_at drL_law_1423 (i := 3) rfl, rfl⟩
theorem dL_1428 : dc code 1428 1429 .iaload 1 := ⟨dr_at drL_law_1423 (i := 4) rfl, rfl⟩
theorem dL_1429 : dc code 1429 1430 (.aload_n 0) 1 := ⟨dr_at drL_law_1423 (i := 5) rfl, rfl⟩
theorem dL_1430 : dc code 1430 1432 (.iload 4) 2 := ⟨dr_at drL_law_1423 (i := 6) rfl, rfl⟩
theorem dL_1432 : dc code 1432 1433 (.iconst 2) 1 := ⟨dr_at drL_law_1423 (i := 7) rfl, rfl⟩
theorem dL_1433 : dc code 1433 1434 .iadd 1 := ⟨dr_at drL_law_1423 (i := 8) rfl, rfl⟩
theorem dL_1434 : dc code 1434 1435 .iaload 1 := ⟨dr_at drL_law_1423 (i := 9) rfl, rfl⟩
theorem dL_1435 : dc code 1435 1436 (.aload_n 0) 1 := ⟨dr_at drL_law_1423 (i := 10) rfl, rfl⟩
theorem dL_1436 : dc code 1436 1438 (.iload 4) 2 := ⟨dr_at drL_law_1423 (i := 11) rfl, rfl⟩
theorem dL_1438 : dc code 1438 1439 (.iconst 3) 1 := ⟨dr_at drL_law_1423 (i := 12) rfl, rfl⟩
theorem dL_1439 : dc code 1439 1440 .iadd 1 := ⟨dr_at drL_law_1423 (i := 13) rfl, rfl⟩
theorem dL_1440 : dc code 1440 1441 .iaload 1 := ⟨dr_at drL_law_1423 (i := 14) rfl, rfl⟩
theorem dL_1441 : dc code 1441 1442 (.aload_n 0) 1 := ⟨dr_at drL_law_1423 (i := 15) rfl, rfl⟩
theorem dL_1442 : dc code 1442 1444 (.iload 4) 2 := ⟨dr_at drL_law_1423 (i := 16) rfl, rfl⟩
theorem dL_1444 : dc code 1444 1445 (.iconst 4) 1 := ⟨dr_at drL_law_1423 (i := 17) rfl, rfl⟩
theorem dL_1445 : dc code 1445 1446 .iadd 1 := ⟨dr_at drL_law_1423 (i := 18) rfl, rfl⟩
theorem dL_1446 : dc code 1446 1447 .iaload 1 := ⟨dr_at drL_law_1423 (i := 19) rfl, rfl⟩
theorem dL_1447 : dc code 1447 1448 (.aload_n 3) 1 := ⟨dr_at drL_law_1423 (i := 20) rfl, rfl⟩
theorem dL_1448 : dc code 1448 1451 (.invokestatic 209) 3 := ⟨dr_at drL_law_1423 (i := 21) rfl, rfl⟩
theorem dL_1451 : dc code 1451 1453 (.istore 5) 2 := ⟨dr_at drL_law_1423 (i := 22) rfl, rfl⟩
theorem dL_1453 : dc code 1453 1454 (.aload_n 2) 1 := ⟨dr_at drL_law_1423 (i := 23) rfl, rfl⟩
theorem dL_1454 : dc code 1454 1455 (.aload_n 0) 1 := ⟨dr_at drL_law_1423 (i := 24) rfl, rfl⟩
theorem dL_1455 : dc code 1455 1457 (.iload 4) 2 := ⟨dr_at drL_law_1423 (i := 25) rfl, rfl⟩
theorem dL_1457 : dc code 1457 1458 (.iconst 1) 1 := ⟨dr_at drL_law_1423 (i := 26) rfl, rfl⟩
theorem dL_1458 : dc code 1458 1459 .iadd 1 := ⟨dr_at drL_law_1423 (i := 27) rfl, rfl⟩
theorem dL_1459 : dc code 1459 1460 .iaload 1 := ⟨dr_at drL_law_1423 (i := 28) rfl, rfl⟩
theorem dL_1460 : dc code 1460 1461 (.aload_n 0) 1 := ⟨dr_at drL_law_1423 (i := 29) rfl, rfl⟩
theorem dL_1461 : dc code 1461 1463 (.iload 4) 2 := ⟨dr_at drL_law_1423 (i := 30) rfl, rfl⟩
theorem dL_1463 : dc code 1463 1464 (.iconst 2) 1 := ⟨dr_at drL_law_1423 (i := 31) rfl, rfl⟩
theorem dL_1464 : dc code 1464 1465 .iadd 1 := ⟨dr_at drL_law_1423 (i := 32) rfl, rfl⟩
theorem dL_1465 : dc code 1465 1466 .iaload 1 := ⟨dr_at drL_law_1423 (i := 33) rfl, rfl⟩
theorem dL_1466 : dc code 1466 1467 (.aload_n 0) 1 := ⟨dr_at drL_law_1423 (i := 34) rfl, rfl⟩
theorem dL_1467 : dc code 1467 1469 (.iload 4) 2 := ⟨dr_at drL_law_1423 (i := 35) rfl, rfl⟩
theorem dL_1469 : dc code 1469 1470 (.iconst 3) 1 := ⟨dr_at drL_law_1423 (i := 36) rfl, rfl⟩
theorem dL_1470 : dc code 1470 1471 .iadd 1 := ⟨dr_at drL_law_1423 (i := 37) rfl, rfl⟩
theorem dL_1471 : dc code 1471 1472 .iaload 1 := ⟨dr_at drL_law_1423 (i := 38) rfl, rfl⟩
theorem dL_1472 : dc code 1472 1473 (.aload_n 0) 1 := ⟨dr_at drL_law_1423 (i := 39) rfl, rfl⟩
theorem dL_1473 : dc code 1473 1475 (.iload 4) 2 := ⟨dr_at drL_law_1423 (i := 40) rfl, rfl⟩
theorem dL_1475 : dc code 1475 1476 (.iconst 4) 1 := ⟨dr_at drL_law_1423 (i := 41) rfl, rfl⟩
theorem dL_1476 : dc code 1476 1477 .iadd 1 := ⟨dr_at drL_law_1423 (i := 42) rfl, rfl⟩
theorem dL_1477 : dc code 1477 1478 .iaload 1 := ⟨dr_at drL_law_1423 (i := 43) rfl, rfl⟩
theorem dL_1478 : dc code 1478 1481 (.invokevirtual 212) 3 := ⟨dr_at drL_law_1423 (i := 44) rfl, rfl⟩
theorem dL_1481 : dc code 1481 1483 (.istore 6) 2 := ⟨dr_at drL_law_1423 (i := 45) rfl, rfl⟩
theorem dL_1483 : dc code 1483 1484 (.aload_n 2) 1 := ⟨dr_at drL_law_1423 (i := 46) rfl, rfl⟩
theorem dL_1484 : dc code 1484 1487 (.invokevirtual 150) 3 := ⟨dr_at drL_law_1423 (i := 47) rfl, rfl⟩
theorem dL_1487 : dc code 1487 1489 (.iload 5) 2 := ⟨dr_at drL_law_1423 (i := 48) rfl, rfl⟩
theorem dL_1489 : dc code 1489 1492 (.if_icmp .eq 5) 3 := ⟨dr_at drL_law_1423 (i := 49) rfl, rfl⟩
theorem dL_1492 : dc code 1492 1493 (.iconst 0) 1 := ⟨dr_at drL_law_1423 (i := 50) rfl, rfl⟩
theorem dL_1494 : dc code 1494 1496 (.iload 5) 2 := ⟨dr_at drL_law_1423 (i := 51) rfl, rfl⟩
theorem dL_1496 : dc code 1496 1499 (.ifCond .ne 15) 3 := ⟨dr_at drL_law_1423 (i := 52) rfl, rfl⟩
theorem dL_1499 : dc code 1499 1500 (.aload_n 3) 1 := ⟨dr_at drL_law_1423 (i := 53) rfl, rfl⟩
theorem dL_1500 : dc code 1500 1501 (.iconst 0) 1 := ⟨dr_at drL_law_1423 (i := 54) rfl, rfl⟩
theorem dL_1501 : dc code 1501 1502 .laload 1 := ⟨dr_at drL_law_1423 (i := 55) rfl, rfl⟩
