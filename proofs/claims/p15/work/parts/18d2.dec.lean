theorem drL_law_789 : ([(789, (.goto 4), 3), (792, (.iconst 0), 1), (793, (.aload_n 3), 1), (794, (.invokestatic 184), 3), (797, (.istore 5), 2), (799, (.aload_n 2), 1), (800, (.aload_n 0), 1), (801, (.iload 4), 2), (803, (.iconst 1), 1), (804, .iadd, 1), (805, .iaload, 1), (806, (.aload_n 0), 1), (807, (.iload 4), 2), (809, (.iconst 2), 1), (810, .iadd, 1), (811, .iaload, 1), (812, (.aload_n 0), 1), (813, (.iload 4), 2), (815, (.iconst 3), 1), (816, .iadd, 1), (817, .iaload, 1), (818, (.aload_n 0), 1), (819, (.iload 4), 2), (821, (.iconst 4), 1), (822, .iadd, 1), (823, .iaload, 1), (824, (.ifCond .eq 7), 3), (827, (.iconst 1), 1), (828, (.goto 4), 3), (831, (.iconst 0), 1), (832, (.invokevirtual 187), 3), (835, (.lstore 6), 2), (837, (.goto 1162), 3), (840, (.aload_n 1), 1), (841, (.aload_n 0), 1), (842, (.iload 4), 2), (844, (.iconst 1), 1), (845, .iadd, 1), (846, .iaload, 1), (847, (.aload_n 0), 1), (848, (.iload 4), 2), (850, (.iconst 2), 1), (851, .iadd, 1), (852, .iaload, 1), (853, (.ifCond .eq 7), 3), (856, (.iconst 1), 1), (857, (.goto 4), 3), (860, (.iconst 0), 1), (861, (.aload_n 3), 1), (862, (.invokestatic 188), 3), (865, (.istore 5), 2), (867, (.aload_n 2), 1), (868, (.aload_n 0), 1), (869, (.iload 4), 2), (871, (.iconst 1), 1), (872, .iadd, 1), (873, .iaload, 1), (874, (.aload_n 0), 1), (875, (.iload 4), 2), (877, (.iconst 2), 1), (878, .iadd, 1), (879, .iaload, 1), (880, (.ifCond .eq 7), 3), (883, (.iconst 1), 1), (884, (.goto 4), 3), (887, (.iconst 0), 1), (888, (.invokevirtual 191), 3), (891, (.istore 6), 2), (893, (.aload_n 2), 1), (894, (.invokevirtual 192), 3), (897, (.iload 5), 2), (899, (.if_icmp .eq 5), 3), (902, (.iconst 0), 1), (904, (.iload 5), 2), (906, (.ifCond .ne 15), 3), (909, (.aload_n 3), 1), (910, (.iconst 0), 1), (911, .laload, 1), (912, (.iload 6), 2), (914, .i2l, 1), (915, .lcmp, 1), (916, (.ifCond .eq 5), 3), (919, (.iconst 0), 1), (921, (.goto 1078), 3), (924, (.aload_n 1), 1), (925, (.aload_n 0), 1), (926, (.iload 4), 2), (928, (.iconst 1), 1), (929, .iadd, 1), (930, .iaload, 1), (931, (.aload_n 0), 1), (932, (.iload 4), 2), (934, (.iconst 2), 1), (935, .iadd, 1), (936, .iaload, 1), (937, (.ifCond .eq 7), 3), (940, (.iconst 1), 1), (941, (.goto 4), 3), (944, (.iconst 0), 1), (945, (.aload_n 3), 1), (946, (.invokestatic 195), 3)] : List (Nat × Instr × Nat)).all (fun q => decide (decode code q.1 = .ok q.2)) = true := by decide +kernel
theorem dL_789 : dc code 789 792 (.goto 4) 3 := ⟨dr_at drL_law_789 (i := 0) rfl, rfl⟩
theorem dL_792 : dc code 792 793 (.iconst 0) 1 := ⟨dr_at drL_law_789 (i := 1) rfl, rfl⟩
theorem dL_793 : dc code 793 794 (.aload_n 3) 1 := ⟨dr_at drL_law_789 (i := 2) rfl, rfl⟩
theorem dL_794 : dc code 794 797 (.invokestatic 184) 3 := ⟨dr_at drL_law_789 (i := 3) rfl, rfl⟩
theorem dL_797 : dc code 797 799 (.istore 5) 2 := ⟨dr_at drL_law_789 (i := 4) rfl, rfl⟩
theorem dL_799 : dc code 799 800 (.aload_n 2) 1 := ⟨dr_at drL_law_789 (i := 5) rfl, rfl⟩
theorem dL_800 : dc code 800 801 (.aload_n 0) 1 := ⟨dr_at drL_law_789 (i := 6) rfl, rfl⟩
theorem dL_801 : dc code 801 803 (.iload 4) 2 := ⟨dr_at drL_law_789 (i := 7) rfl, rfl⟩
theorem dL_803 : dc code 803 804 (.iconst 1) 1 := ⟨dr_at drL_law_789 (i := 8) rfl, rfl⟩
theorem dL_804 : dc code 804 805 .iadd 1 := ⟨dr_at drL_law_789 (i := 9) rfl, rfl⟩
theorem dL_805 : dc code 805 806 .iaload 1 := ⟨dr_at drL_law_789 (i := 10) rfl, rfl⟩
theorem dL_806 : dc code 806 807 (.aload_n 0) 1 := ⟨dr_at drL_law_789 (i := 11) rfl, rfl⟩
theorem dL_807 : dc code 807 809 (.iload 4) 2 := ⟨dr_at drL_law_789 (i := 12) rfl, rfl⟩
theorem dL_809 : dc code 809 810 (.iconst 2) 1 := ⟨dr_at drL_law_789 (i := 13) rfl, rfl⟩
theorem dL_810 : dc code 810 811 .iadd 1 := ⟨dr_at drL_law_789 (i := 14) rfl, rfl⟩
theorem dL_811 : dc code 811 812 .iaload 1 := ⟨dr_at drL_law_789 (i := 15) rfl, rfl⟩
theorem dL_812 : dc code 812 813 (.aload_n 0) 1 := ⟨dr_at drL_law_789 (i := 16) rfl, rfl⟩
theorem dL_813 : dc code 813 815 (.iload 4) 2 := ⟨dr_at drL_law_789 (i := 17) rfl, rfl⟩
theorem dL_815 : dc code 815 816 (.iconst 3) 1 := ⟨dr_at drL_law_789 (i := 18) rfl, rfl⟩
theorem dL_816 : dc code 816 817 .iadd 1 := ⟨dr_at drL_law_789 (i := 19) rfl, rfl⟩
theorem dL_817 : dc code 817 818 .iaload 1 := ⟨dr_at drL_law_789 (i := 20) rfl, rfl⟩
theorem dL_818 : dc code 818 819 (.aload_n 0) 1 := ⟨dr_at drL_law_789 (i := 21) rfl, rfl⟩
theorem dL_819 : dc code 819 821 (.iload 4) 2 := ⟨dr_at drL_law_789 (i := 22) rfl, rfl⟩
theorem dL_821 : dc code 821 822 (.iconst 4) 1 := ⟨dr_at drL_law_789 (i := 23) rfl, rfl⟩
theorem dL_822 : dc code 822 823 .iadd 1 := ⟨dr_at drL_law_789 (i := 24) rfl, rfl⟩
theorem dL_823 : dc code 823 824 .iaload 1 := ⟨dr_at drL_law_789 (i := 25) rfl, rfl⟩
theorem dL_824 : dc code 824 827 (.ifCond .eq 7) 3 := ⟨dr_at drL_law_789 (i := 26) rfl, rfl⟩
theorem dL_827 : dc code 827 828 (.iconst 1) 1 := ⟨dr_at drL_law_789 (i := 27) rfl, rfl⟩
theorem dL_828 : dc code 828 831 (.goto 4) 3 := ⟨dr_at drL_law_789 (i := 28) rfl, rfl⟩
theorem dL_831 : dc code 831 832 (.iconst 0) 1 := ⟨dr_at drL_law_789 (i := 29) rfl, rfl⟩
theorem dL_832 : dc code 832 835 (.invokevirtual 187) 3 := ⟨dr_at drL_law_789 (i := 30) rfl, rfl⟩
theorem dL_835 : dc code 835 837 (.lstore 6) 2 := ⟨dr_at drL_law_789 (i := 31) rfl, rfl⟩
theorem dL_837 : dc code 837 840 (.goto 1162) 3 := ⟨dr_at drL_law_789 (i := 32) rfl, rfl⟩
theorem dL_840 : dc code 840 841 (.aload_n 1) 1 := ⟨dr_at drL_law_789 (i := 33) rfl, rfl⟩
theorem dL_841 : dc code 841 842 (.aload_n 0) 1 := ⟨dr_at drL_law_789 (i := 34) rfl, rfl⟩
theorem dL_842 : dc code 842 844 (.iload 4) 2 := ⟨dr_at drL_law_789 (i := 35) rfl, rfl⟩
theorem dL_844 : dc code 844 845 (.iconst 1) 1 := ⟨dr_at drL_law_789 (i := 36) rfl, rfl⟩
theorem dL_845 : dc code 845 846 .iadd 1 := ⟨dr_at drL_law_789 (i := 37) rfl, rfl⟩
theorem dL_846 : dc code 846 847 .iaload 1 := ⟨dr_at drL_law_789 (i := 38) rfl, rfl⟩
theorem dL_847 : dc code 847 848 (.aload_n 0) 1 := ⟨dr_at drL_law_789 (i := 39) rfl, rfl⟩
theorem dL_848 : dc code 848 850 (.iload 4) 2 := ⟨dr_at drL_law_789 (i := 40) rfl, rfl⟩
theorem dL_850 : dc code 850 851 (.iconst 2) 1 := ⟨dr_at drL_law_789 (i := 41) rfl, rfl⟩
theorem dL_851 : dc code 851 852 .iadd 1 := ⟨dr_at drL_law_789 (i := 42) rfl, rfl⟩
theorem dL_852 : dc code 852 853 .iaload 1 := ⟨dr_at drL_law_789 (i := 43) rfl, rfl⟩
theorem dL_853 : dc code 853 856 (.ifCond .eq 7) 3 := ⟨dr_at drL_law_789 (i := 44) rfl, rfl⟩
theorem dL_856 : dc code 856 857 (.iconst 1) 1 := ⟨dr_at drL_law_789 (i := 45) rfl, rfl⟩
theorem dL_857 : dc code 857 860 (.goto 4) 3 := ⟨dr_at drL_law_789 (i := 46) rfl, rfl⟩
theorem dL_860 : dc code 860 861 (.iconst 0) 1 := ⟨dr_at drL_law_789 (i := 47) rfl, rfl⟩
theorem dL_861 : dc code 861 862 (.aload_n 3) 1 := ⟨dr_at drL_law_789 (i := 48) rfl, rfl⟩
theorem dL_862 : dc code 862 865 (.invokestatic 188) 3 := ⟨dr_at drL_law_789 (i := 49) rfl, rfl⟩
theorem dL_865 : dc code 865 867 (.istore 5) 2 := ⟨dr_at drL_law_789 (i := 50) rfl, rfl⟩
theorem dL_867 : dc code 867 868 (.aload_n 2) 1 := ⟨dr_at drL_law_789 (i := 51) rfl, rfl⟩
theorem dL_868 : dc code 868 869 (.aload_n 0) 1 := ⟨dr_at drL_law_789 (i := 52) rfl, rfl⟩
theorem dL_869 : dc code 869 871 (.iload 4) 2 := ⟨dr_at drL_law_789 (i := 53) rfl, rfl⟩
theorem dL_871 : dc code 871 872 (.iconst 1) 1 := ⟨dr_at drL_law_789 (i := 54) rfl, rfl⟩
theorem dL_872 : dc code 872 873 .iadd 1 := ⟨dr_at drL_law_789 (i := 55) rfl, rfl⟩
theorem dL_873 : dc code 873 874 .iaload 1 := ⟨dr_at drL_law_789 (i := 56) rfl, rfl⟩
theorem dL_874 : dc code 874 875 (.aload_n 0) 1 := ⟨dr_at drL_law_789 (i := 57) rfl, rfl⟩
theorem dL_875 : dc code 875 877 (.iload 4) 2 := ⟨dr_at drL_law_789 (i := 58) rfl, rfl⟩
theorem dL_877 : dc code 877 878 (.iconst 2) 1 := ⟨dr_at drL_law_789 (i := 59) rfl, rfl⟩
theorem dL_878 : dc code 878 879 .iadd 1 := ⟨dr_at drL_law_789 (i := 60) rfl, rfl⟩
theorem dL_879 : dc code 879 880 .iaload 1 := ⟨dr_at drL_law_789 (i := 61) rfl, rfl⟩
theorem dL_880 : dc code 880 883 (.ifCond .eq 7) 3 := ⟨dr_at drL_law_789 (i := 62) rfl, rfl⟩
theorem dL_883 : dc code 883 884 (.iconst 1) 1 := ⟨dr_at drL_law_789 (i := 63) rfl, rfl⟩
theorem dL_884 : dc code 884 887 (.goto 4) 3 := ⟨dr_at drL_law_789 (i := 64) rfl, rfl⟩
theorem dL_887 : dc code 887 888 (.iconst 0) 1 := ⟨dr_at drL_law_789 (i := 65) rfl, rfl⟩
theorem dL_888 : dc code 888 891 (.invokevirtual 191) 3 := ⟨dr_at drL_law_789 (i := 66) rfl, rfl⟩
theorem dL_891 : dc code 891 893 (.istore 6) 2 := ⟨dr_at drL_law_789 (i := 67) rfl, rfl⟩
theorem dL_893 : dc code 893 894 (.aload_n 2) 1 := ⟨dr_at drL_law_789 (i := 68) rfl, rfl⟩
theorem dL_894 : dc code 894 897 (.invokevirtual 192) 3 := ⟨dr_at drL_law_789 (i := 69) rfl, rfl⟩
theorem dL_897 : dc code 897 899 (.iload 5) 2 := ⟨dr_at drL_law_789 (i := 70) rfl, rfl⟩
theorem dL_899 : dc code 899 902 (.if_icmp .eq 5) 3 := ⟨dr_at drL_law_789 (i := 71) rfl, rfl⟩
theorem dL_902 : dc code 902 903 (.iconst 0) 1 := ⟨dr_at drL_law_789 (i := 72) rfl, rfl⟩
theorem dL_904 : dc code 904 906 (.iload 5) 2 := ⟨dr_at drL_law_789 (i := 73) rfl, rfl⟩
theorem dL_906 : dc code 906 909 (.ifCond .ne 15) 3 := ⟨dr_at drL_law_789 (i := 74) rfl, rfl⟩
theorem dL_909 : dc code 909 910 (.aload_n 3) 1 := ⟨dr_at drL_law_789 (i := 75) rfl, rfl⟩
theorem dL_910 : dc code 910 911 (.iconst 0) 1 := ⟨dr_at drL_law_789 (i := 76) rfl, rfl⟩
theorem dL_911 : dc code 911 912 .laload 1 := ⟨dr_at drL_law_789 (i := 77) rfl, rfl⟩
theorem dL_912 : dc code 912 914 (.iload 6) 2 := ⟨dr_at drL_law_789 (i := 78) rfl, rfl⟩
theorem dL_914 : dc code 914 915 .i2l 1 := ⟨dr_at drL_law_789 (i := 79) rfl, rfl⟩
theorem dL_915 : dc code 915 916 .lcmp 1 := ⟨dr_at drL_law_789 (i := 80) rfl, rfl⟩
theorem dL_916 : dc code 916 919 (.ifCond .eq 5) 3 := ⟨dr_at drL_law_789 (i := 81) rfl, rfl⟩
theorem dL_919 : dc code 919 920 (.iconst 0) 1 := ⟨dr_at drL_law_789 (i := 82) rfl, rfl⟩
theorem dL_921 : dc code 921 924 (.goto 1078) 3 := ⟨dr_at drL_law_789 (i := 83) rfl, rfl⟩
theorem dL_924 : dc code 924 925 (.aload_n 1) 1 := ⟨dr_at drL_law_789 (i := 84) rfl, rfl⟩
theorem dL_925 : dc code 925 926 (.aload_n 0) 1 := ⟨dr_at drL_law_789 (i := 85) rfl, rfl⟩
theorem dL_926 : dc code 926 928 (.iload 4) 2 := ⟨dr_at drL_law_789 (i := 86) rfl, rfl⟩
theorem dL_928 : dc code 928 929 (.iconst 1) 1 := ⟨dr_at drL_law_789 (i := 87) rfl, rfl⟩
theorem dL_929 : dc code 929 930 .iadd 1 := ⟨dr_at drL_law_789 (i := 88) rfl, rfl⟩
theorem dL_930 : dc code 930 931 .iaload 1 := ⟨dr_at drL_law_789 (i := 89) rfl, rfl⟩
theorem dL_931 : dc code 931 932 (.aload_n 0) 1 := ⟨dr_at drL_law_789 (i := 90) rfl, rfl⟩
theorem dL_932 : dc code 932 934 (.iload 4) 2 := ⟨dr_at drL_law_789 (i := 91) rfl, rfl⟩
theorem dL_934 : dc code 934 935 (.iconst 2) 1 := ⟨dr_at drL_law_789 (i := 92) rfl, rfl⟩
theorem dL_935 : dc code 935 936 .iadd 1 := ⟨dr_at drL_law_789 (i := 93) rfl, rfl⟩
theorem dL_936 : dc code 936 937 .iaload 1 := ⟨dr_at drL_law_789 (i := 94) rfl, rfl⟩
theorem dL_937 : dc code 937 940 (.ifCond .eq 7) 3 := ⟨dr_at drL_law_789 (i := 95) rfl, rfl⟩
theorem dL_940 : dc code 940 941 (.iconst 1) 1 := ⟨dr_at drL_law_789 (i := 96) rfl, rfl⟩
theorem dL_941 : dc code 941 944 (.goto 4) 3 := ⟨dr_at drL_law_789 (i := 97) rfl, rfl⟩
theorem dL_944 : dc code 944 945 (.iconst 0) 1 := ⟨dr_at drL_law_789 (i := 98) rfl, rfl⟩
theorem dL_945 : dc code 945 946 (.aload_n 3) 1 := ⟨dr_at drL_law_789 (i := 99) rfl, rfl⟩
theorem dL_946 : dc code 946 949 (.invokestatic 195) 3 := ⟨dr_at drL_law_789 (i := 100) rfl, rfl⟩
theorem drL_law_949 : ([(949, (.istore 5), 2), (951, (.aload_n 2), 1), (952, (.aload_n 0), 1), (953, (.iload 4), 2), (955, (.iconst 1), 1), (956, .iadd, 1), (957, .iaload, 1), (958, (.aload_n 0), 1), (959, (.iload 4), 2), (961, (.iconst 2), 1), (962, .iadd, 1), (963, .iaload, 1), (964, (.ifCond .eq 7), 3), (967, (.iconst 1), 1), (968, (.goto 4), 3), (971, (.iconst 0), 1), (972, (.invokevirtual 197), 3), (975, (.lstore 6), 2), (977, (.goto 1022), 3), (980, (.aload_n 1), 1), (981, (.invokevirtual 198), 3), (984, .pop, 1), (985, (.aload_n 2), 1), (986, (.invokevirtual 201), 3), (989, .pop, 1), (990, (.goto 1009), 3), (993, (.aload_n 1), 1), (994, (.aload_n 0), 1), (995, (.iload 4), 2), (997, (.iconst 1), 1), (998, .iadd, 1), (999, .iaload, 1), (1000, (.aload_n 0), 1), (1001, (.iload 4), 2), (1003, (.iconst 2), 1), (1004, .iadd, 1), (1005, .iaload, 1), (1006, (.ifCond .eq 7), 3), (1009, (.iconst 1), 1), (1010, (.goto 4), 3), (1013, (.iconst 0), 1), (1014, (.invokevirtual 202), 3), (1017, .pop, 1), (1018, (.aload_n 2), 1), (1019, (.aload_n 0), 1), (1020, (.iload 4), 2), (1022, (.iconst 1), 1), (1023, .iadd, 1), (1024, .iaload, 1), (1025, (.aload_n 0), 1), (1026, (.iload 4), 2), (1028, (.iconst 2), 1), (1029, .iadd, 1), (1030, .iaload, 1), (1031, (.ifCond .eq 7), 3), (1034, (.iconst 1), 1), (1035, (.goto 4), 3), (1038, (.iconst 0), 1), (1039, (.invokevirtual 205), 3), (1042, .pop, 1), (1043, (.goto 956), 3), (1046, (.aload_n 1), 1), (1047, (.aload_n 0), 1), (1048, (.iload 4), 2), (1050, (.iconst 1), 1), (1051, .iadd, 1), (1052, .iaload, 1), (1053, (.aload_n 0), 1), (1054, (.iload 4), 2), (1056, (.iconst 2), 1), (1057, .iadd, 1), (1058, .iaload, 1), (1059, (.aload_n 0), 1), (1060, (.iload 4), 2), (1062, (.iconst 3), 1), (1063, .iadd, 1), (1064, .iaload, 1), (1065, (.aload_n 0), 1), (1066, (.iload 4), 2), (1068, (.iconst 4), 1), (1069, .iadd, 1), (1070, .iaload, 1), (1071, (.ifCond .eq 7), 3), (1074, (.iconst 1), 1)] : List (Nat × Instr × Nat)).all (fun q => decide (decode code q.1 = .ok q.2)) = true := by decide +kernel
theorem dL_949 : dc code 949 951 (.istore 5) 2 := ⟨dr_at drL_law_949 (i := 0) rfl, rfl⟩
theorem dL_951 : dc code 951 952 (.aload_n 2) 1 := ⟨dr_at drL_law_949 (i := 1) rfl, rfl⟩
theorem dL_952 : dc code 952 953 (.aload_n 0) 1 := ⟨dr_at drL_law_949 (i := 2) rfl, rfl⟩
theorem dL_953 : dc code 953 955 (.iload 4) 2 := ⟨dr_at drL_law_949 (i := 3) rfl, rfl⟩
theorem dL_955 : dc code 955 956 (.iconst 1) 1 := ⟨dr_at drL_law_949 (i := 4) rfl, rfl⟩
theorem dL_956 : dc code 956 957 .iadd 1 := ⟨dr_at drL_law_949 (i := 5) rfl, rfl⟩
theorem dL_957 : dc code 957 958 .iaload 1 := ⟨dr_at drL_law_949 (i := 6) rfl, rfl⟩
theorem dL_958 : dc code 958 959 (.aload_n 0) 1 := ⟨dr_at drL_law_949 (i := 7) rfl, rfl⟩
theorem dL_959 : dc code 959 961 (.iload 4) 2 := ⟨dr_at drL_law_949 (i := 8) rfl, rfl⟩
theorem dL_961 : dc code 961 962 (.iconst 2) 1 := ⟨dr_at drL_law_949 (i := 9) rfl, rfl⟩
theorem dL_962 : dc code 962 963 .iadd 1 := ⟨dr_at drL_law_949 (i := 10) rfl, rfl⟩
theorem dL_963 : dc code 963 964 .iaload 1 := ⟨dr_at drL_law_949 (i := 11) rfl, rfl⟩
theorem dL_964 : dc code 964 967 (.ifCond .eq 7) 3 := ⟨dr_at drL_law_949 (i := 12) rfl, rfl⟩
theorem dL_967 : dc code 967 968 (.iconst 1) 1 := ⟨dr_at drL_law_949 (i := 13) rfl, rfl⟩
theorem dL_968 : dc code 968 971 (.goto 4) 3 := ⟨dr_at drL_law_949 (i := 14) rfl, rfl⟩
theorem dL_971 : dc code 971 972 (.iconst 0) 1 := ⟨dr_at drL_law_949 (i := 15) rfl, rfl⟩
theorem dL_972 : dc code 972 975 (.invokevirtual 197) 3 := ⟨dr_at drL_law_949 (i := 16) rfl, rfl⟩
theorem dL_975 : dc code 975 977 (.lstore 6) 2 := ⟨dr_at drL_law_949 (i := 17) rfl, rfl⟩
theorem dL_977 : dc code 977 980 (.goto 1022) 3 := ⟨dr_at drL_law_949 (i := 18) rfl, rfl⟩
theorem dL_980 : dc code 980 981 (.aload_n 1) 1 := ⟨dr_at drL_law_949 (i := 19) rfl, rfl⟩
theorem dL_981 : dc code 981 984 (.invokevirtual 198) 3 := ⟨dr_at drL_law_949 (i := 20) rfl, rfl⟩
theorem dL_984 : dc code 984 985 .pop 1 := ⟨dr_at drL_law_949 (i := 21) rfl, rfl⟩
theorem dL_985 : dc code 985 986 (.aload_n 2) 1 := ⟨dr_at drL_law_949 (i := 22) rfl, rfl⟩
theorem dL_986 : dc code 986 989 (.invokevirtual 201) 3 := ⟨dr_at drL_law_949 (i := 23) rfl, rfl⟩
theorem dL_989 : dc code 989 990 .pop 1 := ⟨dr_at drL_law_949 (i := 24) rfl, rfl⟩
theorem dL_990 : dc code 990 993 (.goto 1009) 3 := ⟨dr_at drL_law_949 (i := 25) rfl, rfl⟩
theorem dL_993 : dc code 993 994 (.aload_n 1) 1 := ⟨dr_at drL_law_949 (i := 26) rfl, rfl⟩
theorem dL_994 : dc code 994 995 (.aload_n 0) 1 := ⟨dr_at drL_law_949 (i := 27) rfl, rfl⟩
theorem dL_995 : dc code 995 997 (.iload 4) 2 := ⟨dr_at drL_law_949 (i := 28) rfl, rfl⟩
theorem dL_997 : dc code 997 998 (.iconst 1) 1 := ⟨dr_at drL_law_949 (i := 29) rfl, rfl⟩
theorem dL_998 : dc code 998 999 .iadd 1 := ⟨dr_at drL_law_949 (i := 30) rfl, rfl⟩
theorem dL_999 : dc code 999 1000 .iaload 1 := ⟨dr_at drL_law_949 (i := 31) rfl, rfl⟩
theorem dL_1000 : dc code 1000 1001 (.aload_n 0) 1 := ⟨dr_at drL_law_949 (i := 32) rfl, rfl⟩
theorem dL_1001 : dc code 1001 1003 (.iload 4) 2 := ⟨dr_at drL_law_949 (i := 33) rfl, rfl⟩
theorem dL_1003 : dc code 1003 1004 (.iconst 2) 1 := ⟨dr_at drL_law_949 (i := 34) rfl, rfl⟩
theorem dL_1004 : dc code 1004 1005 .iadd 1 := ⟨dr_at drL_law_949 (i := 35) rfl, rfl⟩
theorem dL_1005 : dc code 1005 1006 .iaload 1 := ⟨dr_at drL_law_949 (i := 36) rfl, rfl⟩
theorem dL_1006 : dc code 1006 1009 (.ifCond .eq 7) 3 := ⟨dr_at drL_law_949 (i := 37) rfl, rfl⟩
theorem dL_1009 : dc code 1009 1010 (.iconst 1) 1 := ⟨dr_at drL_law_949 (i := 38) rfl, rfl⟩
theorem dL_1010 : dc code 1010 1013 (.goto 4) 3 := ⟨dr_at drL_law_949 (i := 39) rfl, rfl⟩
theorem dL_1013 : dc code 1013 1014 (.iconst 0) 1 := ⟨dr_at drL_law_949 (i := 40) rfl, rfl⟩
theorem dL_1014 : dc code 1014 1017 (.invokevirtual 202) 3 := ⟨dr_at drL_law_949 (i := 41) rfl, rfl⟩
theorem dL_1017 : dc code 1017 1018 .pop 1 := ⟨dr_at drL_law_949 (i := 42) rfl, rfl⟩
theorem dL_1018 : dc code 1018 1019 (.aload_n 2) 1 := ⟨dr_at drL_law_949 (i := 43) rfl, rfl⟩
theorem dL_1019 : dc code 1019 1020 (.aload_n 0) 1 := ⟨dr_at drL_law_949 (i := 44) rfl, rfl⟩
theorem dL_1020 : dc code 1020 1022 (.iload 4) 2 := ⟨dr_at drL_law_949 (i := 45) rfl, rfl⟩
theorem dL_1022 : dc code 1022 1023 (.iconst 1) 1 := ⟨dr_at drL_law_949 (i := 46) rfl, rfl⟩
theorem dL_1023 : dc code 1023 1024 .iadd 1 := ⟨dr_at drL_law_949 (i := 47) rfl, rfl⟩
theorem dL_1024 : dc code 1024 1025 .iaload 1 := ⟨dr_at drL_law_949 (i := 48) rfl, rfl⟩
theorem dL_1025 : dc code 1025 1026 (.aload_n 0) 1 := ⟨dr_at drL_law_949 (i := 49) rfl, rfl⟩
theorem dL_1026 : dc code 1026 1028 (.iload 4) 2 := ⟨dr_at drL_law_949 (i := 50) rfl, rfl⟩
theorem dL_1028 : dc code 1028 1029 (.iconst 2) 1 := ⟨dr_at drL_law_949 (i := 51) rfl, rfl⟩
theorem dL_1029 : dc code 1029 1030 .iadd 1 := ⟨dr_at drL_law_949 (i := 52) rfl, rfl⟩
theorem dL_1030 : dc code 1030 1031 .iaload 1 := ⟨dr_at drL_law_949 (i := 53) rfl, rfl⟩
theorem dL_1031 : dc code 1031 1034 (.ifCond .eq 7) 3 := ⟨dr_at drL_law_949 (i := 54) rfl, rfl⟩
theorem dL_1034 : dc code 1034 1035 (.iconst 1) 1 := ⟨dr_at drL_law_949 (i := 55) rfl, rfl⟩
theorem dL_1035 : dc code 1035 1038 (.goto 4) 3 := ⟨dr_at drL_law_949 (i := 56) rfl, rfl⟩
theorem dL_1038 : dc code 1038 1039 (.iconst 0) 1 := ⟨dr_at drL_law_949 (i := 57) rfl, rfl⟩
theorem dL_1039 : dc code 1039 1042 (.invokevirtual 205) 3 := ⟨dr_at drL_law_949 (i := 58) rfl, rfl⟩
theorem dL_1042 : dc code 1042 1043 .pop 1 := ⟨dr_at drL_law_949 (i := 59) rfl, rfl⟩
theorem dL_1043 : dc code 1043 1046 (.goto 956) 3 := ⟨dr_at drL_law_949 (i := 60) rfl, rfl⟩
theorem dL_1046 : dc code 1046 1047 (.aload_n 1) 1 := ⟨dr_at drL_law_949 (i := 61) rfl, rfl⟩
theorem dL_1047 : dc code 1047 1048 (.aload_n 0) 1 := ⟨dr_at drL_law_949 (i := 62) rfl, rfl⟩
theorem dL_1048 : dc code 1048 1050 (.iload 4) 2 := ⟨dr_at drL_law_949 (i := 63) rfl, rfl⟩
theorem dL_1050 : dc code 1050 1051 (.iconst 1) 1 := ⟨dr_at drL_law_949 (i := 64) rfl, rfl⟩
theorem dL_1051 : dc code 1051 1052 .iadd 1 := ⟨dr_at drL_law_949 (i := 65) rfl, rfl⟩
theorem dL_1052 : dc code 1052 1053 .iaload 1 := ⟨dr_at drL_law_949 (i := 66) rfl, rfl⟩
theorem dL_1053 : dc code 1053 1054 (.aload_n 0) 1 := ⟨dr_at drL_law_949 (i := 67) rfl, rfl⟩
theorem dL_1054 : dc code 1054 1056 (.iload 4) 2 := ⟨dr_at drL_law_949 (i := 68) rfl, rfl⟩
theorem dL_1056 : dc code 1056 1057 (.iconst 2) 1 := ⟨dr_at drL_law_949 (i := 69) rfl, rfl⟩
theorem dL_1057 : dc code 1057 1058 .iadd 1 := ⟨dr_at drL_law_949 (i := 70) rfl, rfl⟩
theorem dL_1058 : dc code 1058 1059 .iaload 1 := ⟨dr_at drL_law_949 (i := 71) rfl, rfl⟩
theorem dL_1059 : dc code 1059 1060 (.aload_n 0) 1 := ⟨dr_at drL_law_949 (i := 72) rfl, rfl⟩
theorem dL_1060 : dc code 1060 1062 (.iload 4) 2 := ⟨dr_at drL_law_949 (i := 73) rfl, rfl⟩
theorem dL_1062 : dc code 1062 1063 (.iconst 3) 1 := ⟨dr_at drL_law_949 (i := 74) rfl, rfl⟩
theorem dL_1063 : dc code 1063 1064 .iadd 1 := ⟨dr_at drL_law_949 (i := 75) rfl, rfl⟩
theorem dL_1064 : dc code 1064 1065 .iaload 1 := ⟨dr_at drL_law_949 (i := 76) rfl, rfl⟩
theorem dL_1065 : dc code 1065 1066 (.aload_n 0) 1 := ⟨dr_at drL_law_949 (i := 77) rfl, rfl⟩
theorem dL_1066 : dc code 1066 1068 (.iload 4) 2 := ⟨dr_at drL_law_949 (i := 78) rfl, rfl⟩
theorem dL_1068 : dc code 1068 1069 (.iconst 4) 1 := ⟨dr_at drL_law_949 (i := 79) rfl, rfl⟩
theorem dL_1069 : dc code 1069 1070 .iadd 1 := ⟨dr_at drL_law_949 (i := 80) rfl, rfl⟩
theorem dL_1070 : dc code 1070 1071 .iaload 1 := ⟨dr_at drL_law_949 (i := 81) rfl, rfl⟩
theorem dL_1071 : dc code 1071 1074 (.ifCond .eq 7) 3 := ⟨dr_at drL_law_949 (i := 82) rfl, rfl⟩
theorem dL_1074 : dc code 1074 1075 (.iconst 1) 1 := ⟨dr_at drL_law_949 (i := 83) rfl, rfl⟩
theorem drL_law_1075 : ([(1075, (.goto 4), 3), (1078, (.iconst 0), 1), (1079, (.aload_n 3), 1), (1080, (.invokestatic 206), 3), (1083, (.istore 5), 2), (1085, (.aload_n 2), 1), (1086, (.aload_n 0), 1), (1087, (.iload 4), 2), (1089, (.iconst 1), 1), (1090, .iadd, 1), (1091, .iaload, 1), (1092, (.aload_n 0), 1), (1093, (.iload 4), 2), (1095, (.iconst 2), 1), (1096, .iadd, 1), (1097, .iaload, 1), (1098, (.aload_n 0), 1), (1099, (.iload 4), 2), (1101, (.iconst 3), 1), (1102, .iadd, 1), (1103, .iaload, 1), (1104, (.aload_n 0), 1), (1105, (.iload 4), 2), (1107, (.iconst 4), 1), (1108, .iadd, 1), (1109, .iaload, 1), (1110, (.ifCond .eq 7), 3), (1113, (.iconst 1), 1), (1114, (.goto 4), 3), (1117, (.iconst 0), 1), (1118, (.invokevirtual 208), 3), (1121, (.istore 6), 2), (1123, (.goto 876), 3), (1126, (.aload_n 1), 1), (1127, (.aload_n 0), 1), (1128, (.iload 4), 2), (1130, (.iconst 1), 1), (1131, .iadd, 1), (1132, .iaload, 1), (1133, (.aload_n 0), 1), (1134, (.iload 4), 2), (1136, (.iconst 2), 1), (1137, .iadd, 1), (1138, .iaload, 1), (1139, (.aload_n 0), 1), (1140, (.iload 4), 2), (1142, (.iconst 3), 1), (1143, .iadd, 1), (1144, .iaload, 1), (1145, (.aload_n 0), 1), (1146, (.iload 4), 2), (1148, (.iconst 4), 1), (1149, .iadd, 1), (1150, .iaload, 1), (1151, (.aload_n 3), 1), (1152, (.invokestatic 209), 3), (1155, (.istore 5), 2), (1157, (.aload_n 2), 1), (1158, (.aload_n 0), 1), (1159, (.iload 4), 2), (1161, (.iconst 1), 1), (1162, .iadd, 1), (1163, .iaload, 1), (1164, (.aload_n 0), 1), (1165, (.iload 4), 2), (1167, (.iconst 2), 1), (1168, .iadd, 1), (1169, .iaload, 1), (1170, (.aload_n 0), 1), (1171, (.iload 4), 2), (1173, (.iconst 3), 1), (1174, .iadd, 1), (1175, .iaload, 1), (1176, (.aload_n 0), 1)] : List (Nat × Instr × Nat)).all (fun q => decide (decode code q.1 = .ok q.2)) = true := by decide +kernel
theorem dL_1075 : dc code 1075 1078 (.goto 4) 3 := ⟨dr_at drL_law_1075 (i := 0) rfl, rfl⟩
theorem dL_1078 : dc code 1078 1079 (.iconst 0) 1 := ⟨dr_at drL_law_1075 (i := 1) rfl, rfl⟩
theorem dL_1079 : dc code 1079 1080 (.aload_n 3) 1 := ⟨dr_at drL_law_1075 (i := 2) rfl, rfl⟩
theorem dL_1080 : dc code 1080 1083 (.invokestatic 206) 3 := ⟨dr_at drL_law_1075 (i := 3) rfl, rfl⟩
theorem dL_1083 : dc code 1083 1085 (.istore 5) 2 := ⟨dr_at drL_law_1075 (i := 4) rfl, rfl⟩
theorem dL_1085 : dc code 1085 1086 (.aload_n 2) 1 := ⟨dr_at drL_law_1075 (i := 5) rfl, rfl⟩
theorem dL_1086 : dc code 1086 1087 (.aload_n 0) 1 := ⟨dr_at drL_law_1075 (i := 6) rfl, rfl⟩
theorem dL_1087 : dc code 1087 1089 (.iload 4) 2 := ⟨dr_at drL_law_1075 (i := 7) rfl, rfl⟩
theorem dL_1089 : dc code 1089 1090 (.iconst 1) 1 := ⟨dr_at drL_law_1075 (i := 8) rfl, rfl⟩
theorem dL_1090 : dc code 1090 1091 .iadd 1 := ⟨dr_at drL_law_1075 (i := 9) rfl, rfl⟩
theorem dL_1091 : dc code 1091 1092 .iaload 1 := ⟨dr_at drL_law_1075 (i := 10) rfl, rfl⟩
theorem dL_1092 : dc code 1092 1093 (.aload_n 0) 1 := ⟨dr_at drL_law_1075 (i := 11) rfl, rfl⟩
theorem dL_1093 : dc code 1093 1095 (.iload 4) 2 := ⟨dr_at drL_law_1075 (i := 12) rfl, rfl⟩
theorem dL_1095 : dc code 1095 1096 (.iconst 2) 1 := ⟨dr_at drL_law_1075 (i := 13) rfl, rfl⟩
theorem dL_1096 : dc code 1096 1097 .iadd 1 := ⟨dr_at drL_law_1075 (i := 14) rfl, rfl⟩
theorem dL_1097 : dc code 1097 1098 .iaload 1 := ⟨dr_at drL_law_1075 (i := 15) rfl, rfl⟩
theorem dL_1098 : dc code 1098 1099 (.aload_n 0) 1 := ⟨dr_at drL_law_1075 (i := 16) rfl, rfl⟩
theorem dL_1099 : dc code 1099 1101 (.iload 4) 2 := ⟨dr_at drL_law_1075 (i := 17) rfl, rfl⟩
theorem dL_1101 : dc code 1101 1102 (.iconst 3) 1 := ⟨dr_at drL_law_1075 (i := 18) rfl, rfl⟩
theorem dL_1102 : dc code 1102 1103 .iadd 1 := ⟨dr_at drL_law_1075 (i := 19) rfl, rfl⟩
theorem dL_1103 : dc code 1103 1104 .iaload 1 := ⟨dr_at drL_law_1075 (i := 20) rfl, rfl⟩
theorem dL_1104 : dc code 1104 1105 (.aload_n 0) 1 := ⟨dr_at drL_law_1075 (i := 21) rfl, rfl⟩
theorem dL_1105 : dc code 1105 1107 (.iload 4) 2 := ⟨dr_at drL_law_1075 (i := 22) rfl, rfl⟩
theorem dL_1107 : dc code 1107 1108 (.iconst 4) 1 := ⟨dr_at drL_law_1075 (i := 23) rfl, rfl⟩
theorem dL_1108 : dc code 1108 1109 .iadd 1 := ⟨dr_at drL_law_1075 (i := 24) rfl, rfl⟩
theorem dL_1109 : dc code 1109 1110 .iaload 1 := ⟨dr_at drL_law_1075 (i := 25) rfl, rfl⟩
theorem dL_1110 : dc code 1110 1113 (.ifCond .eq 7) 3 := ⟨dr_at drL_law_1075 (i := 26) rfl, rfl⟩
theorem dL_1113 : dc code 1113 1114 (.iconst 1) 1 := ⟨dr_at drL_law_1075 (i := 27) rfl, rfl⟩
theorem dL_1114 : dc code 1114 1117 (.goto 4) 3 := ⟨dr_at drL_law_1075 (i := 28) rfl, rfl⟩
theorem dL_1117 : dc code 1117 1118 (.iconst 0) 1 := ⟨dr_at drL_law_1075 (i := 29) rfl, rfl⟩
theorem dL_1118 : dc code 1118 1121 (.invokevirtual 208) 3 := ⟨dr_at drL_law_1075 (i := 30) rfl, rfl⟩
theorem dL_1121 : dc code 1121 1123 (.istore 6) 2 := ⟨dr_at drL_law_1075 (i := 31) rfl, rfl⟩
theorem dL_1123 : dc code 1123 1126 (.goto 876) 3 := ⟨dr_at drL_law_1075 (i := 32) rfl, rfl⟩
theorem dL_1126 : dc code 1126 1127 (.aload_n 1) 1 := ⟨dr_at drL_law_1075 (i := 33) rfl, rfl⟩
theorem dL_1127 : dc code 1127 1128 (.aload_n 0) 1 := ⟨dr_at drL_law_1075 (i := 34) rfl, rfl⟩
theorem dL_1128 : dc code 1128 1130 (.iload 4) 2 := ⟨dr_at drL_law_1075 (i := 35) rfl, rfl⟩
theorem dL_1130 : dc code 1130 1131 (.iconst 1) 1 := ⟨dr_at drL_law_1075 (i := 36) rfl, rfl⟩
theorem dL_1131 : dc code 1131 1132 .iadd 1 := ⟨dr_at drL_law_1075 (i := 37) rfl, rfl⟩
theorem dL_1132 : dc code 1132 1133 .iaload 1 := ⟨dr_at drL_law_1075 (i := 38) rfl, rfl⟩
theorem dL_1133 : dc code 1133 1134 (.aload_n 0) 1 := ⟨dr_at drL_law_1075 (i := 39) rfl, rfl⟩
theorem dL_1134 : dc code 1134 1136 (.iload 4) 2 := ⟨dr_at drL_law_1075 (i := 40) rfl, rfl⟩
theorem dL_1136 : dc code 1136 1137 (.iconst 2) 1 := ⟨dr_at drL_law_1075 (i := 41) rfl, rfl⟩
theorem dL_1137 : dc code 1137 1138 .iadd 1 := ⟨dr_at drL_law_1075 (i := 42) rfl, rfl⟩
theorem dL_1138 : dc code 1138 1139 .iaload 1 := ⟨dr_at drL_law_1075 (i := 43) rfl, rfl⟩
theorem dL_1139 : dc code 1139 1140 (.aload_n 0) 1 := ⟨dr_at drL_law_1075 (i := 44) rfl, rfl⟩
theorem dL_1140 : dc code 1140 1142 (.iload 4) 2 := ⟨dr_at drL_law_1075 (i := 45) rfl, rfl⟩
theorem dL_1142 : dc code 1142 1143 (.iconst 3) 1 := ⟨dr_at drL_law_1075 (i := 46) rfl, rfl⟩
theorem dL_1143 : dc code 1143 1144 .iadd 1 := ⟨dr_at drL_law_1075 (i := 47) rfl, rfl⟩
theorem dL_1144 : dc code 1144 1145 .iaload 1 := ⟨dr_at drL_law_1075 (i := 48) rfl, rfl⟩
theorem dL_1145 : dc code 1145 1146 (.aload_n 0) 1 := ⟨dr_at drL_law_1075 (i := 49) rfl, rfl⟩
theorem dL_1146 : dc code 1146 1148 (.iload 4) 2 := ⟨dr_at drL_law_1075 (i := 50) rfl, rfl⟩
theorem dL_1148 : dc code 1148 1149 (.iconst 4) 1 := ⟨dr_at drL_law_1075 (i := 51) rfl, rfl⟩
theorem dL_1149 : dc code 1149 1150 .iadd 1 := ⟨dr_at drL_law_1075 (i := 52) rfl, rfl⟩
theorem dL_1150 : dc code 1150 1151 .iaload 1 := ⟨dr_at drL_law_1075 (i := 53) rfl, rfl⟩
theorem dL_1151 : dc code 1151 1152 (.aload_n 3) 1 := ⟨dr_at drL_law_1075 (i := 54) rfl, rfl⟩
theorem dL_1152 : dc code 1152 1155 (.invokestatic 209) 3 := ⟨dr_at drL_law_1075 (i := 55) rfl, rfl⟩
theorem dL_1155 : dc code 1155 1157 (.istore 5) 2 := ⟨dr_at drL_law_1075 (i := 56) rfl, rfl⟩
theorem dL_1157 : dc code 1157 1158 (.aload_n 2) 1 := ⟨dr_at drL_law_1075 (i := 57) rfl, rfl⟩
theorem dL_1158 : dc code 1158 1159 (.aload_n 0) 1 := ⟨dr_at drL_law_1075 (i := 58) rfl, rfl⟩
theorem dL_1159 : dc code 1159 1161 (.iload 4) 2 := ⟨dr_at drL_law_1075 (i := 59) rfl, rfl⟩
theorem dL_1161 : dc code 1161 1162 (.iconst 1) 1 := ⟨dr_at drL_law_1075 (i := 60) rfl, rfl⟩
theorem dL_1162 : dc code 1162 1163 .iadd 1 := ⟨dr_at drL_law_1075 (i := 61) rfl, rfl⟩
theorem dL_1163 : dc code 1163 1164 .iaload 1 := ⟨dr_at drL_law_1075 (i := 62) rfl, rfl⟩
theorem dL_1164 : dc code 1164 1165 (.aload_n 0) 1 := ⟨dr_at drL_law_1075 (i := 63) rfl, rfl⟩
theorem dL_1165 : dc code 1165 1167 (.iload 4) 2 := ⟨dr_at drL_law_1075 (i := 64) rfl, rfl⟩
theorem dL_1167 : dc code 1167 1168 (.iconst 2) 1 := ⟨dr_at drL_law_1075 (i := 65) rfl, rfl⟩
theorem dL_1168 : dc code 1168 1169 .iadd 1 := ⟨dr_at drL_law_1075 (i := 66) rfl, rfl⟩
theorem dL_1169 : dc code 1169 1170 .iaload 1 := ⟨dr_at drL_law_1075 (i := 67) rfl, rfl⟩
theorem dL_1170 : dc code 1170 1171 (.aload_n 0) 1 := ⟨dr_at drL_law_1075 (i := 68) rfl, rfl⟩
theorem dL_1171 : dc code 1171 1173 (.iload 4) 2 := ⟨dr_at drL_law_1075 (i := 69) rfl, rfl⟩
theorem dL_1173 : dc code 1173 1174 (.iconst 3) 1 := ⟨dr_at drL_law_1075 (i := 70) rfl, rfl⟩
theorem dL_1174 : dc code 1174 1175 .iadd 1 := ⟨dr_at drL_law_1075 (i := 71) rfl, rfl⟩
theorem dL_1175 : dc code 1175 1176 .iaload 1 := ⟨dr_at drL_law_1075 (i := 72) rfl, rfl⟩
theorem dL_1176 : dc code 1176 1177 (.aload_n 0) 1 := ⟨dr_at drL_law_1075 (i := 73) rfl, rfl⟩
