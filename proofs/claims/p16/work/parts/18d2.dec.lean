theorem drL_law_789 : ([(789, (.goto 4), 3), (792, (.iconst 0), 1), (793, (.aload_n 3), 1), (794, (.invokestatic 184), 3), (797, (.istore 5), 2), (799, (.aload_n 2), 1), (800, (.aload_n 0), 1), (801, (.iload 4), 2), (803, (.iconst 1), 1), (804, .iadd, 1), (805, .iaload, 1), (806, (.aload_n 0), 1), (807, (.iload 4), 2), (809, (.iconst 2), 1), (810, .iadd, 1), (811, .iaload, 1), (812, (.aload_n 0), 1), (813, (.iload 4), 2), (815, (.iconst 3), 1), (816, .iadd, 1), (817, .iaload, 1), (818, (.aload_n 0), 1), (819, (.iload 4), 2), (821, (.iconst 4), 1), (822, .iadd, 1), (823, .iaload, 1), (824, (.ifCond .eq 7), 3), (827, (.iconst 1), 1), (828, (.goto 4), 3), (831, (.iconst 0), 1), (832, (.invokevirtual 187), 3), (835, (.lstore 6), 2), (837, (.goto 1161), 3), (840, (.aload_n 1), 1), (841, (.aload_n 0), 1), (842, (.iload 4), 2), (844, (.iconst 1), 1), (845, .iadd, 1), (846, .iaload, 1), (847, (.aload_n 0), 1), (848, (.iload 4), 2), (850, (.iconst 2), 1), (851, .iadd, 1), (852, .iaload, 1), (853, (.ifCond .eq 7), 3), (856, (.iconst 1), 1), (857, (.goto 4), 3), (860, (.iconst 0), 1), (861, (.aload_n 3), 1), (862, (.invokestatic 188), 3), (865, (.istore 5), 2), (867, (.aload_n 2), 1), (868, (.aload_n 0), 1), (869, (.iload 4), 2), (871, (.iconst 1), 1), (872, .iadd, 1), (873, .iaload, 1), (874, (.aload_n 0), 1), (875, (.iload 4), 2), (877, (.iconst 2), 1), (878, .iadd, 1), (879, .iaload, 1), (880, (.ifCond .eq 7), 3), (883, (.iconst 1), 1), (884, (.goto 4), 3), (887, (.iconst 0), 1), (888, (.invokevirtual 191), 3), (891, (.istore 6), 2), (893, (.goto 1105), 3), (896, (.aload_n 1), 1), (897, (.aload_n 0), 1), (898, (.iload 4), 2), (900, (.iconst 1), 1), (901, .iadd, 1), (902, .iaload, 1), (903, (.aload_n 0), 1), (904, (.iload 4), 2), (906, (.iconst 2), 1), (907, .iadd, 1), (908, .iaload, 1), (909, (.ifCond .eq 7), 3), (912, (.iconst 1), 1), (913, (.goto 4), 3), (916, (.iconst 0), 1), (917, (.aload_n 3), 1), (918, (.invokestatic 192), 3), (921, (.istore 5), 2), (923, (.aload_n 2), 1), (924, (.aload_n 0), 1), (925, (.iload 4), 2), (927, (.iconst 1), 1), (928, .iadd, 1), (929, .iaload, 1), (930, (.aload_n 0), 1), (931, (.iload 4), 2), (933, (.iconst 2), 1), (934, .iadd, 1), (935, .iaload, 1), (936, (.ifCond .eq 7), 3), (939, (.iconst 1), 1), (940, (.goto 4), 3)] : List (Nat × Instr × Nat)).all (fun q => decide (decode code q.1 = .ok q.2)) = true := by decide +kernel
theorem dL_789 : dc code 789 792 (.goto 4) 3 := ⟨dr_at drL_law_789 (i := 0) rfl, rfl⟩
theorem dL_792 : dc code 792 793 (.iconst 0) 1 := ⟨dr_at drL_law_789 (i := 1) rfl, rfl⟩
theorem dL_793 : dc code 793 794 (.aload_n 3) 1 := ⟨dr_at drL_law_789 (i := 2) rfl, rfl⟩
theorem dL_794 : dc code 794 797 (.invokestatic 184) 3 := ⟨dr_at drL_law_789 (i := 3) rfl, rfl⟩
theorem dL_797 : dc code 797 799 (.istore 5) 2 := ⟨dr_at drL_law_789 (i := 4) rfl, rfl⟩
theorem dL_799 : dc code 799 800 (.aload_n 2) 1 := ⟨dr_at drL_law_789 (i := 5) rfl, rfl⟩
theorem dL_800 : dc code 800 801 (.aload_n 0) 1 := ⟨dr_at drL_law_789 (i := 6) rfl, rfl⟩
theorem dL_801 : dc code 801 803 (.iload 4) 2 := ⟨dr_at drL_law_789 (i := 7) rfl, rfl⟩
theorem dL_803 : dc code 803 804 (.iconst 1) 1 := ⟨dr_at drL_law_789 (i := 8) rfl, rfl⟩
theorem dL_804 : dc code 804 805 .iadd 1 := ⟨dr_at drL_law_789 (i := 9) rfl, rfl⟩
theorem dL_805 : dc code 805 806 .iaload 1 := ⟨dr_at drL_law_789 (i := 10) rfl, rfl⟩
theorem dL_806 : dc code 806 807 (.aload_n 0) 1 := ⟨dr_at drL_law_789 (i := 11) rfl, rfl⟩
theorem dL_807 : dc code 807 809 (.iload 4) 2 := ⟨dr_at drL_law_789 (i := 12) rfl, rfl⟩
theorem dL_809 : dc code 809 810 (.iconst 2) 1 := ⟨dr_at drL_law_789 (i := 13) rfl, rfl⟩
theorem dL_810 : dc code 810 811 .iadd 1 := ⟨dr_at drL_law_789 (i := 14) rfl, rfl⟩
theorem dL_811 : dc code 811 812 .iaload 1 := ⟨dr_at drL_law_789 (i := 15) rfl, rfl⟩
theorem dL_812 : dc code 812 813 (.aload_n 0) 1 := ⟨dr_at drL_law_789 (i := 16) rfl, rfl⟩
theorem dL_813 : dc code 813 815 (.iload 4) 2 := ⟨dr_at drL_law_789 (i := 17) rfl, rfl⟩
theorem dL_815 : dc code 815 816 (.iconst 3) 1 := ⟨dr_at drL_law_789 (i := 18) rfl, rfl⟩
theorem dL_816 : dc code 816 817 .iadd 1 := ⟨dr_at drL_law_789 (i := 19) rfl, rfl⟩
theorem dL_817 : dc code 817 818 .iaload 1 := ⟨dr_at drL_law_789 (i := 20) rfl, rfl⟩
theorem dL_818 : dc code 818 819 (.aload_n 0) 1 := ⟨dr_at drL_law_789 (i := 21) rfl, rfl⟩
theorem dL_819 : dc code 819 821 (.iload 4) 2 := ⟨dr_at drL_law_789 (i := 22) rfl, rfl⟩
theorem dL_821 : dc code 821 822 (.iconst 4) 1 := ⟨dr_at drL_law_789 (i := 23) rfl, rfl⟩
theorem dL_822 : dc code 822 823 .iadd 1 := ⟨dr_at drL_law_789 (i := 24) rfl, rfl⟩
theorem dL_823 : dc code 823 824 .iaload 1 := ⟨dr_at drL_law_789 (i := 25) rfl, rfl⟩
theorem dL_824 : dc code 824 827 (.ifCond .eq 7) 3 := ⟨dr_at drL_law_789 (i := 26) rfl, rfl⟩
theorem dL_827 : dc code 827 828 (.iconst 1) 1 := ⟨dr_at drL_law_789 (i := 27) rfl, rfl⟩
theorem dL_828 : dc code 828 831 (.goto 4) 3 := ⟨dr_at drL_law_789 (i := 28) rfl, rfl⟩
theorem dL_831 : dc code 831 832 (.iconst 0) 1 := ⟨dr_at drL_law_789 (i := 29) rfl, rfl⟩
theorem dL_832 : dc code 832 835 (.invokevirtual 187) 3 := ⟨dr_at drL_law_789 (i := 30) rfl, rfl⟩
theorem dL_835 : dc code 835 837 (.lstore 6) 2 := ⟨dr_at drL_law_789 (i := 31) rfl, rfl⟩
theorem dL_837 : dc code 837 840 (.goto 1161) 3 := ⟨dr_at drL_law_789 (i := 32) rfl, rfl⟩
theorem dL_840 : dc code 840 841 (.aload_n 1) 1 := ⟨dr_at drL_law_789 (i := 33) rfl, rfl⟩
theorem dL_841 : dc code 841 842 (.aload_n 0) 1 := ⟨dr_at drL_law_789 (i := 34) rfl, rfl⟩
theorem dL_842 : dc code 842 844 (.iload 4) 2 := ⟨dr_at drL_law_789 (i := 35) rfl, rfl⟩
theorem dL_844 : dc code 844 845 (.iconst 1) 1 := ⟨dr_at drL_law_789 (i := 36) rfl, rfl⟩
theorem dL_845 : dc code 845 846 .iadd 1 := ⟨dr_at drL_law_789 (i := 37) rfl, rfl⟩
theorem dL_846 : dc code 846 847 .iaload 1 := ⟨dr_at drL_law_789 (i := 38) rfl, rfl⟩
theorem dL_847 : dc code 847 848 (.aload_n 0) 1 := ⟨dr_at drL_law_789 (i := 39) rfl, rfl⟩
theorem dL_848 : dc code 848 850 (.iload 4) 2 := ⟨dr_at drL_law_789 (i := 40) rfl, rfl⟩
theorem dL_850 : dc code 850 851 (.iconst 2) 1 := ⟨dr_at drL_law_789 (i := 41) rfl, rfl⟩
theorem dL_851 : dc code 851 852 .iadd 1 := ⟨dr_at drL_law_789 (i := 42) rfl, rfl⟩
theorem dL_852 : dc code 852 853 .iaload 1 := ⟨dr_at drL_law_789 (i := 43) rfl, rfl⟩
theorem dL_853 : dc code 853 856 (.ifCond .eq 7) 3 := ⟨dr_at drL_law_789 (i := 44) rfl, rfl⟩
theorem dL_856 : dc code 856 857 (.iconst 1) 1 := ⟨dr_at drL_law_789 (i := 45) rfl, rfl⟩
theorem dL_857 : dc code 857 860 (.goto 4) 3 := ⟨dr_at drL_law_789 (i := 46) rfl, rfl⟩
theorem dL_860 : dc code 860 861 (.iconst 0) 1 := ⟨dr_at drL_law_789 (i := 47) rfl, rfl⟩
theorem dL_861 : dc code 861 862 (.aload_n 3) 1 := ⟨dr_at drL_law_789 (i := 48) rfl, rfl⟩
theorem dL_862 : dc code 862 865 (.invokestatic 188) 3 := ⟨dr_at drL_law_789 (i := 49) rfl, rfl⟩
theorem dL_865 : dc code 865 867 (.istore 5) 2 := ⟨dr_at drL_law_789 (i := 50) rfl, rfl⟩
theorem dL_867 : dc code 867 868 (.aload_n 2) 1 := ⟨dr_at drL_law_789 (i := 51) rfl, rfl⟩
theorem dL_868 : dc code 868 869 (.aload_n 0) 1 := ⟨dr_at drL_law_789 (i := 52) rfl, rfl⟩
theorem dL_869 : dc code 869 871 (.iload 4) 2 := ⟨dr_at drL_law_789 (i := 53) rfl, rfl⟩
theorem dL_871 : dc code 871 872 (.iconst 1) 1 := ⟨dr_at drL_law_789 (i := 54) rfl, rfl⟩
theorem dL_872 : dc code 872 873 .iadd 1 := ⟨dr_at drL_law_789 (i := 55) rfl, rfl⟩
theorem dL_873 : dc code 873 874 .iaload 1 := ⟨dr_at drL_law_789 (i := 56) rfl, rfl⟩
theorem dL_874 : dc code 874 875 (.aload_n 0) 1 := ⟨dr_at drL_law_789 (i := 57) rfl, rfl⟩
theorem dL_875 : dc code 875 877 (.iload 4) 2 := ⟨dr_at drL_law_789 (i := 58) rfl, rfl⟩
theorem dL_877 : dc code 877 878 (.iconst 2) 1 := ⟨dr_at drL_law_789 (i := 59) rfl, rfl⟩
theorem dL_878 : dc code 878 879 .iadd 1 := ⟨dr_at drL_law_789 (i := 60) rfl, rfl⟩
theorem dL_879 : dc code 879 880 .iaload 1 := ⟨dr_at drL_law_789 (i := 61) rfl, rfl⟩
theorem dL_880 : dc code 880 883 (.ifCond .eq 7) 3 := ⟨dr_at drL_law_789 (i := 62) rfl, rfl⟩
theorem dL_883 : dc code 883 884 (.iconst 1) 1 := ⟨dr_at drL_law_789 (i := 63) rfl, rfl⟩
theorem dL_884 : dc code 884 887 (.goto 4) 3 := ⟨dr_at drL_law_789 (i := 64) rfl, rfl⟩
theorem dL_887 : dc code 887 888 (.iconst 0) 1 := ⟨dr_at drL_law_789 (i := 65) rfl, rfl⟩
theorem dL_888 : dc code 888 891 (.invokevirtual 191) 3 := ⟨dr_at drL_law_789 (i := 66) rfl, rfl⟩
theorem dL_891 : dc code 891 893 (.istore 6) 2 := ⟨dr_at drL_law_789 (i := 67) rfl, rfl⟩
theorem dL_893 : dc code 893 896 (.goto 1105) 3 := ⟨dr_at drL_law_789 (i := 68) rfl, rfl⟩
theorem dL_896 : dc code 896 897 (.aload_n 1) 1 := ⟨dr_at drL_law_789 (i := 69) rfl, rfl⟩
theorem dL_897 : dc code 897 898 (.aload_n 0) 1 := ⟨dr_at drL_law_789 (i := 70) rfl, rfl⟩
theorem dL_898 : dc code 898 900 (.iload 4) 2 := ⟨dr_at drL_law_789 (i := 71) rfl, rfl⟩
theorem dL_900 : dc code 900 901 (.iconst 1) 1 := ⟨dr_at drL_law_789 (i := 72) rfl, rfl⟩
theorem dL_901 : dc code 901 902 .iadd 1 := ⟨dr_at drL_law_789 (i := 73) rfl, rfl⟩
theorem dL_902 : dc code 902 903 .iaload 1 := ⟨dr_at drL_law_789 (i := 74) rfl, rfl⟩
theorem dL_903 : dc code 903 904 (.aload_n 0) 1 := ⟨dr_at drL_law_789 (i := 75) rfl, rfl⟩
theorem dL_904 : dc code 904 906 (.iload 4) 2 := ⟨dr_at drL_law_789 (i := 76) rfl, rfl⟩
theorem dL_906 : dc code 906 907 (.iconst 2) 1 := ⟨dr_at drL_law_789 (i := 77) rfl, rfl⟩
theorem dL_907 : dc code 907 908 .iadd 1 := ⟨dr_at drL_law_789 (i := 78) rfl, rfl⟩
theorem dL_908 : dc code 908 909 .iaload 1 := ⟨dr_at drL_law_789 (i := 79) rfl, rfl⟩
theorem dL_909 : dc code 909 912 (.ifCond .eq 7) 3 := ⟨dr_at drL_law_789 (i := 80) rfl, rfl⟩
theorem dL_912 : dc code 912 913 (.iconst 1) 1 := ⟨dr_at drL_law_789 (i := 81) rfl, rfl⟩
theorem dL_913 : dc code 913 916 (.goto 4) 3 := ⟨dr_at drL_law_789 (i := 82) rfl, rfl⟩
theorem dL_916 : dc code 916 917 (.iconst 0) 1 := ⟨dr_at drL_law_789 (i := 83) rfl, rfl⟩
theorem dL_917 : dc code 917 918 (.aload_n 3) 1 := ⟨dr_at drL_law_789 (i := 84) rfl, rfl⟩
theorem dL_918 : dc code 918 921 (.invokestatic 192) 3 := ⟨dr_at drL_law_789 (i := 85) rfl, rfl⟩
theorem dL_921 : dc code 921 923 (.istore 5) 2 := ⟨dr_at drL_law_789 (i := 86) rfl, rfl⟩
theorem dL_923 : dc code 923 924 (.aload_n 2) 1 := ⟨dr_at drL_law_789 (i := 87) rfl, rfl⟩
theorem dL_924 : dc code 924 925 (.aload_n 0) 1 := ⟨dr_at drL_law_789 (i := 88) rfl, rfl⟩
theorem dL_925 : dc code 925 927 (.iload 4) 2 := ⟨dr_at drL_law_789 (i := 89) rfl, rfl⟩
theorem dL_927 : dc code 927 928 (.iconst 1) 1 := ⟨dr_at drL_law_789 (i := 90) rfl, rfl⟩
theorem dL_928 : dc code 928 929 .iadd 1 := ⟨dr_at drL_law_789 (i := 91) rfl, rfl⟩
theorem dL_929 : dc code 929 930 .iaload 1 := ⟨dr_at drL_law_789 (i := 92) rfl, rfl⟩
theorem dL_930 : dc code 930 931 (.aload_n 0) 1 := ⟨dr_at drL_law_789 (i := 93) rfl, rfl⟩
theorem dL_931 : dc code 931 933 (.iload 4) 2 := ⟨dr_at drL_law_789 (i := 94) rfl, rfl⟩
theorem dL_933 : dc code 933 934 (.iconst 2) 1 := ⟨dr_at drL_law_789 (i := 95) rfl, rfl⟩
theorem dL_934 : dc code 934 935 .iadd 1 := ⟨dr_at drL_law_789 (i := 96) rfl, rfl⟩
theorem dL_935 : dc code 935 936 .iaload 1 := ⟨dr_at drL_law_789 (i := 97) rfl, rfl⟩
theorem dL_936 : dc code 936 939 (.ifCond .eq 7) 3 := ⟨dr_at drL_law_789 (i := 98) rfl, rfl⟩
theorem dL_939 : dc code 939 940 (.iconst 1) 1 := ⟨dr_at drL_law_789 (i := 99) rfl, rfl⟩
theorem dL_940 : dc code 940 943 (.goto 4) 3 := ⟨dr_at drL_law_789 (i := 100) rfl, rfl⟩
theorem drL_law_943 : ([(943, (.iconst 0), 1), (944, (.invokevirtual 194), 3), (947, (.lstore 6), 2), (949, (.aload_n 2), 1), (950, (.invokevirtual 195), 3), (953, (.iload 5), 2), (955, (.if_icmp .eq 5), 3), (958, (.iconst 0), 1), (960, (.iload 5), 2), (962, (.ifCond .ne 14), 3), (965, (.aload_n 3), 1), (966, (.iconst 0), 1), (967, .laload, 1), (968, (.lload 6), 2), (970, .lcmp, 1), (971, (.ifCond .eq 5), 3), (974, (.iconst 0), 1), (976, (.goto 1022), 3), (979, (.aload_n 1), 1), (980, (.invokevirtual 198), 3), (983, .pop, 1), (984, (.aload_n 2), 1), (985, (.invokevirtual 201), 3), (988, .pop, 1), (989, (.goto 1009), 3), (992, (.aload_n 1), 1), (993, (.aload_n 0), 1), (994, (.iload 4), 2), (996, (.iconst 1), 1), (997, .iadd, 1), (998, .iaload, 1), (999, (.aload_n 0), 1), (1000, (.iload 4), 2), (1002, (.iconst 2), 1), (1003, .iadd, 1), (1004, .iaload, 1), (1005, (.ifCond .eq 7), 3), (1008, (.iconst 1), 1), (1009, (.goto 4), 3), (1012, (.iconst 0), 1), (1013, (.invokevirtual 202), 3), (1016, .pop, 1), (1017, (.aload_n 2), 1), (1018, (.aload_n 0), 1), (1019, (.iload 4), 2), (1021, (.iconst 1), 1), (1022, .iadd, 1), (1023, .iaload, 1), (1024, (.aload_n 0), 1), (1025, (.iload 4), 2), (1027, (.iconst 2), 1), (1028, .iadd, 1), (1029, .iaload, 1), (1030, (.ifCond .eq 7), 3), (1033, (.iconst 1), 1), (1034, (.goto 4), 3), (1037, (.iconst 0), 1), (1038, (.invokevirtual 205), 3), (1041, .pop, 1), (1042, (.goto 956), 3), (1045, (.aload_n 1), 1), (1046, (.aload_n 0), 1), (1047, (.iload 4), 2), (1049, (.iconst 1), 1), (1050, .iadd, 1), (1051, .iaload, 1), (1052, (.aload_n 0), 1), (1053, (.iload 4), 2), (1055, (.iconst 2), 1), (1056, .iadd, 1), (1057, .iaload, 1), (1058, (.aload_n 0), 1), (1059, (.iload 4), 2), (1061, (.iconst 3), 1), (1062, .iadd, 1), (1063, .iaload, 1), (1064, (.aload_n 0), 1), (1065, (.iload 4), 2), (1067, (.iconst 4), 1), (1068, .iadd, 1), (1069, .iaload, 1), (1070, (.ifCond .eq 7), 3), (1073, (.iconst 1), 1), (1074, (.goto 4), 3)] : List (Nat × Instr × Nat)).all (fun q => decide (decode code q.1 = .ok q.2)) = true := by decide +kernel
theorem dL_943 : dc code 943 944 (.iconst 0) 1 := ⟨dr_at drL_law_943 (i := 0) rfl, rfl⟩
theorem dL_944 : dc code 944 947 (.invokevirtual 194) 3 := ⟨dr_at drL_law_943 (i := 1) rfl, rfl⟩
theorem dL_947 : dc code 947 949 (.lstore 6) 2 := ⟨dr_at drL_law_943 (i := 2) rfl, rfl⟩
theorem dL_949 : dc code 949 950 (.aload_n 2) 1 := ⟨dr_at drL_law_943 (i := 3) rfl, rfl⟩
theorem dL_950 : dc code 950 953 (.invokevirtual 195) 3 := ⟨dr_at drL_law_943 (i := 4) rfl, rfl⟩
theorem dL_953 : dc code 953 955 (.iload 5) 2 := ⟨dr_at drL_law_943 (i := 5) rfl, rfl⟩
theorem dL_955 : dc code 955 958 (.if_icmp .eq 5) 3 := ⟨dr_at drL_law_943 (i := 6) rfl, rfl⟩
theorem dL_958 : dc code 958 959 (.iconst 0) 1 := ⟨dr_at drL_law_943 (i := 7) rfl, rfl⟩
theorem dL_960 : dc code 960 962 (.iload 5) 2 := ⟨dr_at drL_law_943 (i := 8) rfl, rfl⟩
theorem dL_962 : dc code 962 965 (.ifCond .ne 14) 3 := ⟨dr_at drL_law_943 (i := 9) rfl, rfl⟩
theorem dL_965 : dc code 965 966 (.aload_n 3) 1 := ⟨dr_at drL_law_943 (i := 10) rfl, rfl⟩
theorem dL_966 : dc code 966 967 (.iconst 0) 1 := ⟨dr_at drL_law_943 (i := 11) rfl, rfl⟩
theorem dL_967 : dc code 967 968 .laload 1 := ⟨dr_at drL_law_943 (i := 12) rfl, rfl⟩
theorem dL_968 : dc code 968 970 (.lload 6) 2 := ⟨dr_at drL_law_943 (i := 13) rfl, rfl⟩
theorem dL_970 : dc code 970 971 .lcmp 1 := ⟨dr_at drL_law_943 (i := 14) rfl, rfl⟩
theorem dL_971 : dc code 971 974 (.ifCond .eq 5) 3 := ⟨dr_at drL_law_943 (i := 15) rfl, rfl⟩
theorem dL_974 : dc code 974 975 (.iconst 0) 1 := ⟨dr_at drL_law_943 (i := 16) rfl, rfl⟩
theorem dL_976 : dc code 976 979 (.goto 1022) 3 := ⟨dr_at drL_law_943 (i := 17) rfl, rfl⟩
theorem dL_979 : dc code 979 980 (.aload_n 1) 1 := ⟨dr_at drL_law_943 (i := 18) rfl, rfl⟩
theorem dL_980 : dc code 980 983 (.invokevirtual 198) 3 := ⟨dr_at drL_law_943 (i := 19) rfl, rfl⟩
theorem dL_983 : dc code 983 984 .pop 1 := ⟨dr_at drL_law_943 (i := 20) rfl, rfl⟩
theorem dL_984 : dc code 984 985 (.aload_n 2) 1 := ⟨dr_at drL_law_943 (i := 21) rfl, rfl⟩
theorem dL_985 : dc code 985 988 (.invokevirtual 201) 3 := ⟨dr_at drL_law_943 (i := 22) rfl, rfl⟩
theorem dL_988 : dc code 988 989 .pop 1 := ⟨dr_at drL_law_943 (i := 23) rfl, rfl⟩
theorem dL_989 : dc code 989 992 (.goto 1009) 3 := ⟨dr_at drL_law_943 (i := 24) rfl, rfl⟩
theorem dL_992 : dc code 992 993 (.aload_n 1) 1 := ⟨dr_at drL_law_943 (i := 25) rfl, rfl⟩
theorem dL_993 : dc code 993 994 (.aload_n 0) 1 := ⟨dr_at drL_law_943 (i := 26) rfl, rfl⟩
theorem dL_994 : dc code 994 996 (.iload 4) 2 := ⟨dr_at drL_law_943 (i := 27) rfl, rfl⟩
theorem dL_996 : dc code 996 997 (.iconst 1) 1 := ⟨dr_at drL_law_943 (i := 28) rfl, rfl⟩
theorem dL_997 : dc code 997 998 .iadd 1 := ⟨dr_at drL_law_943 (i := 29) rfl, rfl⟩
theorem dL_998 : dc code 998 999 .iaload 1 := ⟨dr_at drL_law_943 (i := 30) rfl, rfl⟩
theorem dL_999 : dc code 999 1000 (.aload_n 0) 1 := ⟨dr_at drL_law_943 (i := 31) rfl, rfl⟩
theorem dL_1000 : dc code 1000 1002 (.iload 4) 2 := ⟨dr_at drL_law_943 (i := 32) rfl, rfl⟩
theorem dL_1002 : dc code 1002 1003 (.iconst 2) 1 := ⟨dr_at drL_law_943 (i := 33) rfl, rfl⟩
theorem dL_1003 : dc code 1003 1004 .iadd 1 := ⟨dr_at drL_law_943 (i := 34) rfl, rfl⟩
theorem dL_1004 : dc code 1004 1005 .iaload 1 := ⟨dr_at drL_law_943 (i := 35) rfl, rfl⟩
theorem dL_1005 : dc code 1005 1008 (.ifCond .eq 7) 3 := ⟨dr_at drL_law_943 (i := 36) rfl, rfl⟩
theorem dL_1008 : dc code 1008 1009 (.iconst 1) 1 := ⟨dr_at drL_law_943 (i := 37) rfl, rfl⟩
theorem dL_1009 : dc code 1009 1012 (.goto 4) 3 := ⟨dr_at drL_law_943 (i := 38) rfl, rfl⟩
theorem dL_1012 : dc code 1012 1013 (.iconst 0) 1 := ⟨dr_at drL_law_943 (i := 39) rfl, rfl⟩
theorem dL_1013 : dc code 1013 1016 (.invokevirtual 202) 3 := ⟨dr_at drL_law_943 (i := 40) rfl, rfl⟩
theorem dL_1016 : dc code 1016 1017 .pop 1 := ⟨dr_at drL_law_943 (i := 41) rfl, rfl⟩
theorem dL_1017 : dc code 1017 1018 (.aload_n 2) 1 := ⟨dr_at drL_law_943 (i := 42) rfl, rfl⟩
theorem dL_1018 : dc code 1018 1019 (.aload_n 0) 1 := ⟨dr_at drL_law_943 (i := 43) rfl, rfl⟩
theorem dL_1019 : dc code 1019 1021 (.iload 4) 2 := ⟨dr_at drL_law_943 (i := 44) rfl, rfl⟩
theorem dL_1021 : dc code 1021 1022 (.iconst 1) 1 := ⟨dr_at drL_law_943 (i := 45) rfl, rfl⟩
theorem dL_1022 : dc code 1022 1023 .iadd 1 := ⟨dr_at drL_law_943 (i := 46) rfl, rfl⟩
theorem dL_1023 : dc code 1023 1024 .iaload 1 := ⟨dr_at drL_law_943 (i := 47) rfl, rfl⟩
theorem dL_1024 : dc code 1024 1025 (.aload_n 0) 1 := ⟨dr_at drL_law_943 (i := 48) rfl, rfl⟩
theorem dL_1025 : dc code 1025 1027 (.iload 4) 2 := ⟨dr_at drL_law_943 (i := 49) rfl, rfl⟩
theorem dL_1027 : dc code 1027 1028 (.iconst 2) 1 := ⟨dr_at drL_law_943 (i := 50) rfl, rfl⟩
theorem dL_1028 : dc code 1028 1029 .iadd 1 := ⟨dr_at drL_law_943 (i := 51) rfl, rfl⟩
theorem dL_1029 : dc code 1029 1030 .iaload 1 := ⟨dr_at drL_law_943 (i := 52) rfl, rfl⟩
theorem dL_1030 : dc code 1030 1033 (.ifCond .eq 7) 3 := ⟨dr_at drL_law_943 (i := 53) rfl, rfl⟩
theorem dL_1033 : dc code 1033 1034 (.iconst 1) 1 := ⟨dr_at drL_law_943 (i := 54) rfl, rfl⟩
theorem dL_1034 : dc code 1034 1037 (.goto 4) 3 := ⟨dr_at drL_law_943 (i := 55) rfl, rfl⟩
theorem dL_1037 : dc code 1037 1038 (.iconst 0) 1 := ⟨dr_at drL_law_943 (i := 56) rfl, rfl⟩
theorem dL_1038 : dc code 1038 1041 (.invokevirtual 205) 3 := ⟨dr_at drL_law_943 (i := 57) rfl, rfl⟩
theorem dL_1041 : dc code 1041 1042 .pop 1 := ⟨dr_at drL_law_943 (i := 58) rfl, rfl⟩
theorem dL_1042 : dc code 1042 1045 (.goto 956) 3 := ⟨dr_at drL_law_943 (i := 59) rfl, rfl⟩
theorem dL_1045 : dc code 1045 1046 (.aload_n 1) 1 := ⟨dr_at drL_law_943 (i := 60) rfl, rfl⟩
theorem dL_1046 : dc code 1046 1047 (.aload_n 0) 1 := ⟨dr_at drL_law_943 (i := 61) rfl, rfl⟩
theorem dL_1047 : dc code 1047 1049 (.iload 4) 2 := ⟨dr_at drL_law_943 (i := 62) rfl, rfl⟩
theorem dL_1049 : dc code 1049 1050 (.iconst 1) 1 := ⟨dr_at drL_law_943 (i := 63) rfl, rfl⟩
theorem dL_1050 : dc code 1050 1051 .iadd 1 := ⟨dr_at drL_law_943 (i := 64) rfl, rfl⟩
theorem dL_1051 : dc code 1051 1052 .iaload 1 := ⟨dr_at drL_law_943 (i := 65) rfl, rfl⟩
theorem dL_1052 : dc code 1052 1053 (.aload_n 0) 1 := ⟨dr_at drL_law_943 (i := 66) rfl, rfl⟩
theorem dL_1053 : dc code 1053 1055 (.iload 4) 2 := ⟨dr_at drL_law_943 (i := 67) rfl, rfl⟩
theorem dL_1055 : dc code 1055 1056 (.iconst 2) 1 := ⟨dr_at drL_law_943 (i := 68) rfl, rfl⟩
theorem dL_1056 : dc code 1056 1057 .iadd 1 := ⟨dr_at drL_law_943 (i := 69) rfl, rfl⟩
theorem dL_1057 : dc code 1057 1058 .iaload 1 := ⟨dr_at drL_law_943 (i := 70) rfl, rfl⟩
theorem dL_1058 : dc code 1058 1059 (.aload_n 0) 1 := ⟨dr_at drL_law_943 (i := 71) rfl, rfl⟩
theorem dL_1059 : dc code 1059 1061 (.iload 4) 2 := ⟨dr_at drL_law_943 (i := 72) rfl, rfl⟩
theorem dL_1061 : dc code 1061 1062 (.iconst 3) 1 := ⟨dr_at drL_law_943 (i := 73) rfl, rfl⟩
theorem dL_1062 : dc code 1062 1063 .iadd 1 := ⟨dr_at drL_law_943 (i := 74) rfl, rfl⟩
theorem dL_1063 : dc code 1063 1064 .iaload 1 := ⟨dr_at drL_law_943 (i := 75) rfl, rfl⟩
theorem dL_1064 : dc code 1064 1065 (.aload_n 0) 1 := ⟨dr_at drL_law_943 (i := 76) rfl, rfl⟩
theorem dL_1065 : dc code 1065 1067 (.iload 4) 2 := ⟨dr_at drL_law_943 (i := 77) rfl, rfl⟩
theorem dL_1067 : dc code 1067 1068 (.iconst 4) 1 := ⟨dr_at drL_law_943 (i := 78) rfl, rfl⟩
theorem dL_1068 : dc code 1068 1069 .iadd 1 := ⟨dr_at drL_law_943 (i := 79) rfl, rfl⟩
theorem dL_1069 : dc code 1069 1070 .iaload 1 := ⟨dr_at drL_law_943 (i := 80) rfl, rfl⟩
theorem dL_1070 : dc code 1070 1073 (.ifCond .eq 7) 3 := ⟨dr_at drL_law_943 (i := 81) rfl, rfl⟩
theorem dL_1073 : dc code 1073 1074 (.iconst 1) 1 := ⟨dr_at drL_law_943 (i := 82) rfl, rfl⟩
theorem dL_1074 : dc code 1074 1077 (.goto 4) 3 := ⟨dr_at drL_law_943 (i := 83) rfl, rfl⟩
theorem drL_law_1077 : ([(1077, (.iconst 0), 1), (1078, (.aload_n 3), 1), (1079, (.invokestatic 206), 3), (1082, (.istore 5), 2), (1084, (.aload_n 2), 1), (1085, (.aload_n 0), 1), (1086, (.iload 4), 2), (1088, (.iconst 1), 1), (1089, .iadd, 1), (1090, .iaload, 1), (1091, (.aload_n 0), 1), (1092, (.iload 4), 2), (1094, (.iconst 2), 1), (1095, .iadd, 1), (1096, .iaload, 1), (1097, (.aload_n 0), 1), (1098, (.iload 4), 2), (1100, (.iconst 3), 1), (1101, .iadd, 1), (1102, .iaload, 1), (1103, (.aload_n 0), 1), (1104, (.iload 4), 2), (1106, (.iconst 4), 1), (1107, .iadd, 1), (1108, .iaload, 1), (1109, (.ifCond .eq 7), 3), (1112, (.iconst 1), 1), (1113, (.goto 4), 3), (1116, (.iconst 0), 1), (1117, (.invokevirtual 208), 3), (1120, (.istore 6), 2), (1122, (.goto 876), 3), (1125, (.aload_n 1), 1), (1126, (.aload_n 0), 1), (1127, (.iload 4), 2), (1129, (.iconst 1), 1), (1130, .iadd, 1), (1131, .iaload, 1), (1132, (.aload_n 0), 1), (1133, (.iload 4), 2), (1135, (.iconst 2), 1), (1136, .iadd, 1), (1137, .iaload, 1), (1138, (.aload_n 0), 1), (1139, (.iload 4), 2), (1141, (.iconst 3), 1), (1142, .iadd, 1), (1143, .iaload, 1), (1144, (.aload_n 0), 1), (1145, (.iload 4), 2), (1147, (.iconst 4), 1), (1148, .iadd, 1), (1149, .iaload, 1), (1150, (.aload_n 3), 1), (1151, (.invokestatic 209), 3), (1154, (.istore 5), 2), (1156, (.aload_n 2), 1), (1157, (.aload_n 0), 1), (1158, (.iload 4), 2), (1160, (.iconst 1), 1), (1161, .iadd, 1), (1162, .iaload, 1), (1163, (.aload_n 0), 1), (1164, (.iload 4), 2), (1166, (.iconst 2), 1), (1167, .iadd, 1), (1168, .iaload, 1), (1169, (.aload_n 0), 1), (1170, (.iload 4), 2), (1172, (.iconst 3), 1), (1173, .iadd, 1), (1174, .iaload, 1), (1175, (.aload_n 0), 1), (1176, (.iload 4), 2)] : List (Nat × Instr × Nat)).all (fun q => decide (decode code q.1 = .ok q.2)) = true := by decide +kernel
theorem dL_1077 : dc code 1077 1078 (.iconst 0) 1 := ⟨dr_at drL_law_1077 (i := 0) rfl, rfl⟩
theorem dL_1078 : dc code 1078 1079 (.aload_n 3) 1 := ⟨dr_at drL_law_1077 (i := 1) rfl, rfl⟩
theorem dL_1079 : dc code 1079 1082 (.invokestatic 206) 3 := ⟨dr_at drL_law_1077 (i := 2) rfl, rfl⟩
theorem dL_1082 : dc code 1082 1084 (.istore 5) 2 := ⟨dr_at drL_law_1077 (i := 3) rfl, rfl⟩
theorem dL_1084 : dc code 1084 1085 (.aload_n 2) 1 := ⟨dr_at drL_law_1077 (i := 4) rfl, rfl⟩
theorem dL_1085 : dc code 1085 1086 (.aload_n 0) 1 := ⟨dr_at drL_law_1077 (i := 5) rfl, rfl⟩
theorem dL_1086 : dc code 1086 1088 (.iload 4) 2 := ⟨dr_at drL_law_1077 (i := 6) rfl, rfl⟩
theorem dL_1088 : dc code 1088 1089 (.iconst 1) 1 := ⟨dr_at drL_law_1077 (i := 7) rfl, rfl⟩
theorem dL_1089 : dc code 1089 1090 .iadd 1 := ⟨dr_at drL_law_1077 (i := 8) rfl, rfl⟩
theorem dL_1090 : dc code 1090 1091 .iaload 1 := ⟨dr_at drL_law_1077 (i := 9) rfl, rfl⟩
theorem dL_1091 : dc code 1091 1092 (.aload_n 0) 1 := ⟨dr_at drL_law_1077 (i := 10) rfl, rfl⟩
theorem dL_1092 : dc code 1092 1094 (.iload 4) 2 := ⟨dr_at drL_law_1077 (i := 11) rfl, rfl⟩
theorem dL_1094 : dc code 1094 1095 (.iconst 2) 1 := ⟨dr_at drL_law_1077 (i := 12) rfl, rfl⟩
theorem dL_1095 : dc code 1095 1096 .iadd 1 := ⟨dr_at drL_law_1077 (i := 13) rfl, rfl⟩
theorem dL_1096 : dc code 1096 1097 .iaload 1 := ⟨dr_at drL_law_1077 (i := 14) rfl, rfl⟩
theorem dL_1097 : dc code 1097 1098 (.aload_n 0) 1 := ⟨dr_at drL_law_1077 (i := 15) rfl, rfl⟩
theorem dL_1098 : dc code 1098 1100 (.iload 4) 2 := ⟨dr_at drL_law_1077 (i := 16) rfl, rfl⟩
theorem dL_1100 : dc code 1100 1101 (.iconst 3) 1 := ⟨dr_at drL_law_1077 (i := 17) rfl, rfl⟩
theorem dL_1101 : dc code 1101 1102 .iadd 1 := ⟨dr_at drL_law_1077 (i := 18) rfl, rfl⟩
theorem dL_1102 : dc code 1102 1103 .iaload 1 := ⟨dr_at drL_law_1077 (i := 19) rfl, rfl⟩
theorem dL_1103 : dc code 1103 1104 (.aload_n 0) 1 := ⟨dr_at drL_law_1077 (i := 20) rfl, rfl⟩
theorem dL_1104 : dc code 1104 1106 (.iload 4) 2 := ⟨dr_at drL_law_1077 (i := 21) rfl, rfl⟩
theorem dL_1106 : dc code 1106 1107 (.iconst 4) 1 := ⟨dr_at drL_law_1077 (i := 22) rfl, rfl⟩
theorem dL_1107 : dc code 1107 1108 .iadd 1 := ⟨dr_at drL_law_1077 (i := 23) rfl, rfl⟩
theorem dL_1108 : dc code 1108 1109 .iaload 1 := ⟨dr_at drL_law_1077 (i := 24) rfl, rfl⟩
theorem dL_1109 : dc code 1109 1112 (.ifCond .eq 7) 3 := ⟨dr_at drL_law_1077 (i := 25) rfl, rfl⟩
theorem dL_1112 : dc code 1112 1113 (.iconst 1) 1 := ⟨dr_at drL_law_1077 (i := 26) rfl, rfl⟩
theorem dL_1113 : dc code 1113 1116 (.goto 4) 3 := ⟨dr_at drL_law_1077 (i := 27) rfl, rfl⟩
theorem dL_1116 : dc code 1116 1117 (.iconst 0) 1 := ⟨dr_at drL_law_1077 (i := 28) rfl, rfl⟩
theorem dL_1117 : dc code 1117 1120 (.invokevirtual 208) 3 := ⟨dr_at drL_law_1077 (i := 29) rfl, rfl⟩
theorem dL_1120 : dc code 1120 1122 (.istore 6) 2 := ⟨dr_at drL_law_1077 (i := 30) rfl, rfl⟩
theorem dL_1122 : dc code 1122 1125 (.goto 876) 3 := ⟨dr_at drL_law_1077 (i := 31) rfl, rfl⟩
theorem dL_1125 : dc code 1125 1126 (.aload_n 1) 1 := ⟨dr_at drL_law_1077 (i := 32) rfl, rfl⟩
theorem dL_1126 : dc code 1126 1127 (.aload_n 0) 1 := ⟨dr_at drL_law_1077 (i := 33) rfl, rfl⟩
theorem dL_1127 : dc code 1127 1129 (.iload 4) 2 := ⟨dr_at drL_law_1077 (i := 34) rfl, rfl⟩
theorem dL_1129 : dc code 1129 1130 (.iconst 1) 1 := ⟨dr_at drL_law_1077 (i := 35) rfl, rfl⟩
theorem dL_1130 : dc code 1130 1131 .iadd 1 := ⟨dr_at drL_law_1077 (i := 36) rfl, rfl⟩
theorem dL_1131 : dc code 1131 1132 .iaload 1 := ⟨dr_at drL_law_1077 (i := 37) rfl, rfl⟩
theorem dL_1132 : dc code 1132 1133 (.aload_n 0) 1 := ⟨dr_at drL_law_1077 (i := 38) rfl, rfl⟩
theorem dL_1133 : dc code 1133 1135 (.iload 4) 2 := ⟨dr_at drL_law_1077 (i := 39) rfl, rfl⟩
theorem dL_1135 : dc code 1135 1136 (.iconst 2) 1 := ⟨dr_at drL_law_1077 (i := 40) rfl, rfl⟩
theorem dL_1136 : dc code 1136 1137 .iadd 1 := ⟨dr_at drL_law_1077 (i := 41) rfl, rfl⟩
theorem dL_1137 : dc code 1137 1138 .iaload 1 := ⟨dr_at drL_law_1077 (i := 42) rfl, rfl⟩
theorem dL_1138 : dc code 1138 1139 (.aload_n 0) 1 := ⟨dr_at drL_law_1077 (i := 43) rfl, rfl⟩
theorem dL_1139 : dc code 1139 1141 (.iload 4) 2 := ⟨dr_at drL_law_1077 (i := 44) rfl, rfl⟩
theorem dL_1141 : dc code 1141 1142 (.iconst 3) 1 := ⟨dr_at drL_law_1077 (i := 45) rfl, rfl⟩
theorem dL_1142 : dc code 1142 1143 .iadd 1 := ⟨dr_at drL_law_1077 (i := 46) rfl, rfl⟩
theorem dL_1143 : dc code 1143 1144 .iaload 1 := ⟨dr_at drL_law_1077 (i := 47) rfl, rfl⟩
theorem dL_1144 : dc code 1144 1145 (.aload_n 0) 1 := ⟨dr_at drL_law_1077 (i := 48) rfl, rfl⟩
theorem dL_1145 : dc code 1145 1147 (.iload 4) 2 := ⟨dr_at drL_law_1077 (i := 49) rfl, rfl⟩
theorem dL_1147 : dc code 1147 1148 (.iconst 4) 1 := ⟨dr_at drL_law_1077 (i := 50) rfl, rfl⟩
theorem dL_1148 : dc code 1148 1149 .iadd 1 := ⟨dr_at drL_law_1077 (i := 51) rfl, rfl⟩
theorem dL_1149 : dc code 1149 1150 .iaload 1 := ⟨dr_at drL_law_1077 (i := 52) rfl, rfl⟩
theorem dL_1150 : dc code 1150 1151 (.aload_n 3) 1 := ⟨dr_at drL_law_1077 (i := 53) rfl, rfl⟩
theorem dL_1151 : dc code 1151 1154 (.invokestatic 209) 3 := ⟨dr_at drL_law_1077 (i := 54) rfl, rfl⟩
theorem dL_1154 : dc code 1154 1156 (.istore 5) 2 := ⟨dr_at drL_law_1077 (i := 55) rfl, rfl⟩
theorem dL_1156 : dc code 1156 1157 (.aload_n 2) 1 := ⟨dr_at drL_law_1077 (i := 56) rfl, rfl⟩
theorem dL_1157 : dc code 1157 1158 (.aload_n 0) 1 := ⟨dr_at drL_law_1077 (i := 57) rfl, rfl⟩
theorem dL_1158 : dc code 1158 1160 (.iload 4) 2 := ⟨dr_at drL_law_1077 (i := 58) rfl, rfl⟩
theorem dL_1160 : dc code 1160 1161 (.iconst 1) 1 := ⟨dr_at drL_law_1077 (i := 59) rfl, rfl⟩
theorem dL_1161 : dc code 1161 1162 .iadd 1 := ⟨dr_at drL_law_1077 (i := 60) rfl, rfl⟩
theorem dL_1162 : dc code 1162 1163 .iaload 1 := ⟨dr_at drL_law_1077 (i := 61) rfl, rfl⟩
theorem dL_1163 : dc code 1163 1164 (.aload_n 0) 1 := ⟨dr_at drL_law_1077 (i := 62) rfl, rfl⟩
theorem dL_1164 : dc code 1164 1166 (.iload 4) 2 := ⟨dr_at drL_law_1077 (i := 63) rfl, rfl⟩
theorem dL_1166 : dc code 1166 1167 (.iconst 2) 1 := ⟨dr_at drL_law_1077 (i := 64) rfl, rfl⟩
theorem dL_1167 : dc code 1167 1168 .iadd 1 := ⟨dr_at drL_law_1077 (i := 65) rfl, rfl⟩
theorem dL_1168 : dc code 1168 1169 .iaload 1 := ⟨dr_at drL_law_1077 (i := 66) rfl, rfl⟩
theorem dL_1169 : dc code 1169 1170 (.aload_n 0) 1 := ⟨dr_at drL_law_1077 (i := 67) rfl, rfl⟩
theorem dL_1170 : dc code 1170 1172 (.iload 4) 2 := ⟨dr_at drL_law_1077 (i := 68) rfl, rfl⟩
theorem dL_1172 : dc code 1172 1173 (.iconst 3) 1 := ⟨dr_at drL_law_1077 (i := 69) rfl, rfl⟩
theorem dL_1173 : dc code 1173 1174 .iadd 1 := ⟨dr_at drL_law_1077 (i := 70) rfl, rfl⟩
theorem dL_1174 : dc code 1174 1175 .iaload 1 := ⟨dr_at drL_law_1077 (i := 71) rfl, rfl⟩
theorem dL_1175 : dc code 1175 1176 (.aload_n 0) 1 := ⟨dr_at drL_law_1077 (i := 72) rfl, rfl⟩
theorem dL_1176 : dc code 1176 1178 (.iload 4) 2 := ⟨dr_at drL_law_1077 (i := 73) rfl, rfl⟩
