theorem drL_law_789 : ([(789, (.goto 4), 3), (792, (.iconst 0), 1), (793, (.aload_n 3), 1), (794, (.invokestatic 184), 3), (797, (.istore 5), 2), (799, (.aload_n 2), 1), (800, (.aload_n 0), 1), (801, (.iload 4), 2), (803, (.iconst 1), 1), (804, .iadd, 1), (805, .iaload, 1), (806, (.aload_n 0), 1), (807, (.iload 4), 2), (809, (.iconst 2), 1), (810, .iadd, 1), (811, .iaload, 1), (812, (.aload_n 0), 1), (813, (.iload 4), 2), (815, (.iconst 3), 1), (816, .iadd, 1), (817, .iaload, 1), (818, (.aload_n 0), 1), (819, (.iload 4), 2), (821, (.iconst 4), 1), (822, .iadd, 1), (823, .iaload, 1), (824, (.ifCond .eq 7), 3), (827, (.iconst 1), 1), (828, (.goto 4), 3), (831, (.iconst 0), 1), (832, (.invokevirtual 187), 3), (835, (.lstore 6), 2), (837, (.goto 1162), 3), (840, (.aload_n 1), 1), (841, (.aload_n 0), 1), (842, (.iload 4), 2), (844, (.iconst 1), 1), (845, .iadd, 1), (846, .iaload, 1), (847, (.aload_n 0), 1), (848, (.iload 4), 2), (850, (.iconst 2), 1), (851, .iadd, 1), (852, .iaload, 1), (853, (.ifCond .eq 7), 3), (856, (.iconst 1), 1), (857, (.goto 4), 3), (860, (.iconst 0), 1), (861, (.aload_n 3), 1), (862, (.invokestatic 188), 3), (865, (.istore 5), 2), (867, (.aload_n 2), 1), (868, (.aload_n 0), 1), (869, (.iload 4), 2), (871, (.iconst 1), 1), (872, .iadd, 1), (873, .iaload, 1), (874, (.aload_n 0), 1), (875, (.iload 4), 2), (877, (.iconst 2), 1), (878, .iadd, 1), (879, .iaload, 1), (880, (.ifCond .eq 7), 3), (883, (.iconst 1), 1), (884, (.goto 4), 3), (887, (.iconst 0), 1), (888, (.invokevirtual 191), 3), (891, (.istore 6), 2), (893, (.goto 1106), 3), (896, (.aload_n 1), 1), (897, (.aload_n 0), 1), (898, (.iload 4), 2), (900, (.iconst 1), 1), (901, .iadd, 1), (902, .iaload, 1), (903, (.aload_n 0), 1), (904, (.iload 4), 2), (906, (.iconst 2), 1), (907, .iadd, 1), (908, .iaload, 1), (909, (.ifCond .eq 7), 3), (912, (.iconst 1), 1), (913, (.goto 4), 3), (916, (.iconst 0), 1), (917, (.aload_n 3), 1), (918, (.invokestatic 192), 3), (921, (.istore 5), 2), (923, (.aload_n 2), 1), (924, (.aload_n 0), 1), (925, (.iload 4), 2), (927, (.iconst 1), 1), (928, .iadd, 1), (929, .iaload, 1), (930, (.aload_n 0), 1), (931, (.iload 4), 2), (933, (.iconst 2), 1), (934, .iadd, 1), (935, .iaload, 1), (936, (.ifCond .eq 7), 3), (939, (.iconst 1), 1), (940, (.goto 4), 3)] : List (Nat × Instr × Nat)).all (fun q => decide (decode code q.1 = .ok q.2)) = true := by decide +kernel
theorem dL_789 : dc code 789 792 (.goto 4) 3 := ⟨dr_at drL_law_789 (i := 0) rfl, rfl⟩
theorem dL_792 : dc code 792 793 (.iconst 0) 1 := ⟨dr_at drL_law_789 (i := 1) rfl, rfl⟩
theorem dL_793 : dc code 793 794 (.aload_n 3) 1 := ⟨dr_at drL_law_789 (i := 2) rfl, rfl⟩
theorem dL_794 : dc code 794 797 (.invokestatic 184) 3 := ⟨dr_at drL_law_789 (i := 3) rfl, rfl⟩
theorem dL_797 : dc code 797 799 (.istore 5) 2 := ⟨dr_at drL_law_789 (i := 4) rfl, rfl⟩
theorem dL_799 : dc code 799 800 (.aload_n 2) 1 := ⟨dr_at drL_law_789 (i := 5) rfl, rfl⟩
theorem dL_800 : dc code 800 801 (.aload_n 0) 1 := ⟨dr_at drL_law_789 (i := 6) rfl, rfl⟩
theorem dL_801 : dc code 801 803 (.iload 4) 2 := ⟨dr_at drL_law_789 (i := 7) rfl, rfl⟩
theorem dL_803 : dc code 803 804 (.iconst 1) 1 := ⟨dr_at drL_law_789 (i := 8) rfl, rfl⟩
theorem dL_804 : dc code 804 805 .iadd 1 := ⟨dr_at drL_law_789 (i := 9) rfl, rfl⟩
theorem dL_805 : dc code 805 806 .iaload 1 := ⟨dr_at drL_law_789 (i := 10) rfl, rfl⟩
theorem dL_806 : dc code 806 807 (.aload_n 0) 1 := ⟨dr_at drL_law_789 (i := 11) rfl, rfl⟩
theorem dL_807 : dc code 807 809 (.iload 4) 2 := ⟨dr_at drL_law_789 (i := 12) rfl, rfl⟩
theorem dL_809 : dc code 809 810 (.iconst 2) 1 := ⟨dr_at drL_law_789 (i := 13) rfl, rfl⟩
theorem dL_810 : dc code 810 811 .iadd 1 := ⟨dr_at drL_law_789 (i := 14) rfl, rfl⟩
theorem dL_811 : dc code 811 812 .iaload 1 := ⟨dr_at drL_law_789 (i := 15) rfl, rfl⟩
theorem dL_812 : dc code 812 813 (.aload_n 0) 1 := ⟨dr_at drL_law_789 (i := 16) rfl, rfl⟩
theorem dL_813 : dc code 813 815 (.iload 4) 2 := ⟨dr_at drL_law_789 (i := 17) rfl, rfl⟩
theorem dL_815 : dc code 815 816 (.iconst 3) 1 := ⟨dr_at drL_law_789 (i := 18) rfl, rfl⟩
theorem dL_816 : dc code 816 817 .iadd 1 := ⟨dr_at drL_law_789 (i := 19) rfl, rfl⟩
theorem dL_817 : dc code 817 818 .iaload 1 := ⟨dr_at drL_law_789 (i := 20) rfl, rfl⟩
theorem dL_818 : dc code 818 819 (.aload_n 0) 1 := ⟨dr_at drL_law_789 (i := 21) rfl, rfl⟩
theorem dL_819 : dc code 819 821 (.iload 4) 2 := ⟨dr_at drL_law_789 (i := 22) rfl, rfl⟩
theorem dL_821 : dc code 821 822 (.iconst 4) 1 := ⟨dr_at drL_law_789 (i := 23) rfl, rfl⟩
theorem dL_822 : dc code 822 823 .iadd 1 := ⟨dr_at drL_law_789 (i := 24) rfl, rfl⟩
theorem dL_823 : dc code 823 824 .iaload 1 := ⟨dr_at drL_law_789 (i := 25) rfl, rfl⟩
theorem dL_824 : dc code 824 827 (.ifCond .eq 7) 3 := ⟨dr_at drL_law_789 (i := 26) rfl, rfl⟩
theorem dL_827 : dc code 827 828 (.iconst 1) 1 := ⟨dr_at drL_law_789 (i := 27) rfl, rfl⟩
theorem dL_828 : dc code 828 831 (.goto 4) 3 := ⟨dr_at drL_law_789 (i := 28) rfl, rfl⟩
theorem dL_831 : dc code 831 832 (.iconst 0) 1 := ⟨dr_at drL_law_789 (i := 29) rfl, rfl⟩
theorem dL_832 : dc code 832 835 (.invokevirtual 187) 3 := ⟨dr_at drL_law_789 (i := 30) rfl, rfl⟩
theorem dL_835 : dc code 835 837 (.lstore 6) 2 := ⟨dr_at drL_law_789 (i := 31) rfl, rfl⟩
theorem dL_837 : dc code 837 840 (.goto 1162) 3 := ⟨dr_at drL_law_789 (i := 32) rfl, rfl⟩
theorem dL_840 : dc code 840 841 (.aload_n 1) 1 := ⟨dr_at drL_law_789 (i := 33) rfl, rfl⟩
theorem dL_841 : dc code 841 842 (.aload_n 0) 1 := ⟨dr_at drL_law_789 (i := 34) rfl, rfl⟩
theorem dL_842 : dc code 842 844 (.iload 4) 2 := ⟨dr_at drL_law_789 (i := 35) rfl, rfl⟩
theorem dL_844 : dc code 844 845 (.iconst 1) 1 := ⟨dr_at drL_law_789 (i := 36) rfl, rfl⟩
theorem dL_845 : dc code 845 846 .iadd 1 := ⟨dr_at drL_law_789 (i := 37) rfl, rfl⟩
theorem dL_846 : dc code 846 847 .iaload 1 := ⟨dr_at drL_law_789 (i := 38) rfl, rfl⟩
theorem dL_847 : dc code 847 848 (.aload_n 0) 1 := ⟨dr_at drL_law_789 (i := 39) rfl, rfl⟩
theorem dL_848 : dc code 848 850 (.iload 4) 2 := ⟨dr_at drL_law_789 (i := 40) rfl, rfl⟩
theorem dL_850 : dc code 850 851 (.iconst 2) 1 := ⟨dr_at drL_law_789 (i := 41) rfl, rfl⟩
theorem dL_851 : dc code 851 852 .iadd 1 := ⟨dr_at drL_law_789 (i := 42) rfl, rfl⟩
theorem dL_852 : dc code 852 853 .iaload 1 := ⟨dr_at drL_law_789 (i := 43) rfl, rfl⟩
theorem dL_853 : dc code 853 856 (.ifCond .eq 7) 3 := ⟨dr_at drL_law_789 (i := 44) rfl, rfl⟩
theorem dL_856 : dc code 856 857 (.iconst 1) 1 := ⟨dr_at drL_law_789 (i := 45) rfl, rfl⟩
theorem dL_857 : dc code 857 860 (.goto 4) 3 := ⟨dr_at drL_law_789 (i := 46) rfl, rfl⟩
theorem dL_860 : dc code 860 861 (.iconst 0) 1 := ⟨dr_at drL_law_789 (i := 47) rfl, rfl⟩
theorem dL_861 : dc code 861 862 (.aload_n 3) 1 := ⟨dr_at drL_law_789 (i := 48) rfl, rfl⟩
theorem dL_862 : dc code 862 865 (.invokestatic 188) 3 := ⟨dr_at drL_law_789 (i := 49) rfl, rfl⟩
theorem dL_865 : dc code 865 867 (.istore 5) 2 := ⟨dr_at drL_law_789 (i := 50) rfl, rfl⟩
theorem dL_867 : dc code 867 868 (.aload_n 2) 1 := ⟨dr_at drL_law_789 (i := 51) rfl, rfl⟩
theorem dL_868 : dc code 868 869 (.aload_n 0) 1 := ⟨dr_at drL_law_789 (i := 52) rfl, rfl⟩
theorem dL_869 : dc code 869 871 (.iload 4) 2 := ⟨dr_at drL_law_789 (i := 53) rfl, rfl⟩
theorem dL_871 : dc code 871 872 (.iconst 1) 1 := ⟨dr_at drL_law_789 (i := 54) rfl, rfl⟩
theorem dL_872 : dc code 872 873 .iadd 1 := ⟨dr_at drL_law_789 (i := 55) rfl, rfl⟩
theorem dL_873 : dc code 873 874 .iaload 1 := ⟨dr_at drL_law_789 (i := 56) rfl, rfl⟩
theorem dL_874 : dc code 874 875 (.aload_n 0) 1 := ⟨dr_at drL_law_789 (i := 57) rfl, rfl⟩
theorem dL_875 : dc code 875 877 (.iload 4) 2 := ⟨dr_at drL_law_789 (i := 58) rfl, rfl⟩
theorem dL_877 : dc code 877 878 (.iconst 2) 1 := ⟨dr_at drL_law_789 (i := 59) rfl, rfl⟩
theorem dL_878 : dc code 878 879 .iadd 1 := ⟨dr_at drL_law_789 (i := 60) rfl, rfl⟩
theorem dL_879 : dc code 879 880 .iaload 1 := ⟨dr_at drL_law_789 (i := 61) rfl, rfl⟩
theorem dL_880 : dc code 880 883 (.ifCond .eq 7) 3 := ⟨dr_at drL_law_789 (i := 62) rfl, rfl⟩
theorem dL_883 : dc code 883 884 (.iconst 1) 1 := ⟨dr_at drL_law_789 (i := 63) rfl, rfl⟩
theorem dL_884 : dc code 884 887 (.goto 4) 3 := ⟨dr_at drL_law_789 (i := 64) rfl, rfl⟩
theorem dL_887 : dc code 887 888 (.iconst 0) 1 := ⟨dr_at drL_law_789 (i := 65) rfl, rfl⟩
theorem dL_888 : dc code 888 891 (.invokevirtual 191) 3 := ⟨dr_at drL_law_789 (i := 66) rfl, rfl⟩
theorem dL_891 : dc code 891 893 (.istore 6) 2 := ⟨dr_at drL_law_789 (i := 67) rfl, rfl⟩
theorem dL_893 : dc code 893 896 (.goto 1106) 3 := ⟨dr_at drL_law_789 (i := 68) rfl, rfl⟩
theorem dL_896 : dc code 896 897 (.aload_n 1) 1 := ⟨dr_at drL_law_789 (i := 69) rfl, rfl⟩
theorem dL_897 : dc code 897 898 (.aload_n 0) 1 := ⟨dr_at drL_law_789 (i := 70) rfl, rfl⟩
theorem dL_898 : dc code 898 900 (.iload 4) 2 := ⟨dr_at drL_law_789 (i := 71) rfl, rfl⟩
theorem dL_900 : dc code 900 901 (.iconst 1) 1 := ⟨dr_at drL_law_789 (i := 72) rfl, rfl⟩
theorem dL_901 : dc code 901 902 .iadd 1 := ⟨dr_at drL_law_789 (i := 73) rfl, rfl⟩
theorem dL_902 : dc code 902 903 .iaload 1 := ⟨dr_at drL_law_789 (i := 74) rfl, rfl⟩
theorem dL_903 : dc code 903 904 (.aload_n 0) 1 := ⟨dr_at drL_law_789 (i := 75) rfl, rfl⟩
theorem dL_904 : dc code 904 906 (.iload 4) 2 := ⟨dr_at drL_law_789 (i := 76) rfl, rfl⟩
theorem dL_906 : dc code 906 907 (.iconst 2) 1 := ⟨dr_at drL_law_789 (i := 77) rfl, rfl⟩
theorem dL_907 : dc code 907 908 .iadd 1 := ⟨dr_at drL_law_789 (i := 78) rfl, rfl⟩
theorem dL_908 : dc code 908 909 .iaload 1 := ⟨dr_at drL_law_789 (i := 79) rfl, rfl⟩
theorem dL_909 : dc code 909 912 (.ifCond .eq 7) 3 := ⟨dr_at drL_law_789 (i := 80) rfl, rfl⟩
theorem dL_912 : dc code 912 913 (.iconst 1) 1 := ⟨dr_at drL_law_789 (i := 81) rfl, rfl⟩
theorem dL_913 : dc code 913 916 (.goto 4) 3 := ⟨dr_at drL_law_789 (i := 82) rfl, rfl⟩
theorem dL_916 : dc code 916 917 (.iconst 0) 1 := ⟨dr_at drL_law_789 (i := 83) rfl, rfl⟩
theorem dL_917 : dc code 917 918 (.aload_n 3) 1 := ⟨dr_at drL_law_789 (i := 84) rfl, rfl⟩
theorem dL_918 : dc code 918 921 (.invokestatic 192) 3 := ⟨dr_at drL_law_789 (i := 85) rfl, rfl⟩
theorem dL_921 : dc code 921 923 (.istore 5) 2 := ⟨dr_at drL_law_789 (i := 86) rfl, rfl⟩
theorem dL_923 : dc code 923 924 (.aload_n 2) 1 := ⟨dr_at drL_law_789 (i := 87) rfl, rfl⟩
theorem dL_924 : dc code 924 925 (.aload_n 0) 1 := ⟨dr_at drL_law_789 (i := 88) rfl, rfl⟩
theorem dL_925 : dc code 925 927 (.iload 4) 2 := ⟨dr_at drL_law_789 (i := 89) rfl, rfl⟩
theorem dL_927 : dc code 927 928 (.iconst 1) 1 := ⟨dr_at drL_law_789 (i := 90) rfl, rfl⟩
theorem dL_928 : dc code 928 929 .iadd 1 := ⟨dr_at drL_law_789 (i := 91) rfl, rfl⟩
theorem dL_929 : dc code 929 930 .iaload 1 := ⟨dr_at drL_law_789 (i := 92) rfl, rfl⟩
theorem dL_930 : dc code 930 931 (.aload_n 0) 1 := ⟨dr_at drL_law_789 (i := 93) rfl, rfl⟩
theorem dL_931 : dc code 931 933 (.iload 4) 2 := ⟨dr_at drL_law_789 (i := 94) rfl, rfl⟩
theorem dL_933 : dc code 933 934 (.iconst 2) 1 := ⟨dr_at drL_law_789 (i := 95) rfl, rfl⟩
theorem dL_934 : dc code 934 935 .iadd 1 := ⟨dr_at drL_law_789 (i := 96) rfl, rfl⟩
theorem dL_935 : dc code 935 936 .iaload 1 := ⟨dr_at drL_law_789 (i := 97) rfl, rfl⟩
theorem dL_936 : dc code 936 939 (.ifCond .eq 7) 3 := ⟨dr_at drL_law_789 (i := 98) rfl, rfl⟩
theorem dL_939 : dc code 939 940 (.iconst 1) 1 := ⟨dr_at drL_law_789 (i := 99) rfl, rfl⟩
theorem dL_940 : dc code 940 943 (.goto 4) 3 := ⟨dr_at drL_law_789 (i := 100) rfl, rfl⟩
theorem drL_law_943 : ([(943, (.iconst 0), 1), (944, (.invokevirtual 194), 3), (947, (.lstore 6), 2), (949, (.goto 1050), 3), (952, (.aload_n 1), 1), (953, (.invokevirtual 195), 3), (956, .pop, 1), (957, (.aload_n 2), 1), (958, (.invokevirtual 198), 3), (961, .pop, 1), (962, (.goto 1037), 3), (965, (.aload_n 1), 1), (966, (.aload_n 0), 1), (967, (.iload 4), 2), (969, (.iconst 1), 1), (970, .iadd, 1), (971, .iaload, 1), (972, (.aload_n 0), 1), (973, (.iload 4), 2), (975, (.iconst 2), 1), (976, .iadd, 1), (977, .iaload, 1), (978, (.ifCond .eq 7), 3), (981, (.iconst 1), 1), (982, (.goto 4), 3), (985, (.iconst 0), 1), (986, (.invokevirtual 199), 3), (989, .pop, 1), (990, (.aload_n 2), 1), (991, (.aload_n 0), 1), (992, (.iload 4), 2), (994, (.iconst 1), 1), (995, .iadd, 1), (996, .iaload, 1), (997, (.aload_n 0), 1), (998, (.iload 4), 2), (1000, (.iconst 2), 1), (1001, .iadd, 1), (1002, .iaload, 1), (1003, (.ifCond .eq 7), 3), (1006, (.iconst 1), 1), (1007, (.goto 4), 3), (1010, (.iconst 0), 1), (1011, (.invokevirtual 202), 3), (1014, .pop, 1), (1015, (.goto 984), 3), (1018, (.aload_n 1), 1), (1019, (.aload_n 0), 1), (1020, (.iload 4), 2), (1022, (.iconst 1), 1), (1023, .iadd, 1), (1024, .iaload, 1), (1025, (.aload_n 0), 1), (1026, (.iload 4), 2), (1028, (.iconst 2), 1), (1029, .iadd, 1), (1030, .iaload, 1), (1031, (.aload_n 0), 1), (1032, (.iload 4), 2), (1034, (.iconst 3), 1), (1035, .iadd, 1), (1036, .iaload, 1), (1037, (.aload_n 0), 1), (1038, (.iload 4), 2), (1040, (.iconst 4), 1), (1041, .iadd, 1), (1042, .iaload, 1), (1043, (.ifCond .eq 7), 3), (1046, (.iconst 1), 1), (1047, (.goto 4), 3), (1050, (.iconst 0), 1), (1051, (.aload_n 3), 1), (1052, (.invokestatic 203), 3), (1055, (.istore 5), 2), (1057, (.aload_n 2), 1), (1058, (.aload_n 0), 1), (1059, (.iload 4), 2), (1061, (.iconst 1), 1), (1062, .iadd, 1), (1063, .iaload, 1), (1064, (.aload_n 0), 1), (1065, (.iload 4), 2), (1067, (.iconst 2), 1), (1068, .iadd, 1)] : List (Nat × Instr × Nat)).all (fun q => decide (decode code q.1 = .ok q.2)) = true := by decide +kernel
theorem dL_943 : dc code 943 944 (.iconst 0) 1 := ⟨dr_at drL_law_943 (i := 0) rfl, rfl⟩
theorem dL_944 : dc code 944 947 (.invokevirtual 194) 3 := ⟨dr_at drL_law_943 (i := 1) rfl, rfl⟩
theorem dL_947 : dc code 947 949 (.lstore 6) 2 := ⟨dr_at drL_law_943 (i := 2) rfl, rfl⟩
theorem dL_949 : dc code 949 952 (.goto 1050) 3 := ⟨dr_at drL_law_943 (i := 3) rfl, rfl⟩
theorem dL_952 : dc code 952 953 (.aload_n 1) 1 := ⟨dr_at drL_law_943 (i := 4) rfl, rfl⟩
theorem dL_953 : dc code 953 956 (.invokevirtual 195) 3 := ⟨dr_at drL_law_943 (i := 5) rfl, rfl⟩
theorem dL_956 : dc code 956 957 .pop 1 := ⟨dr_at drL_law_943 (i := 6) rfl, rfl⟩
theorem dL_957 : dc code 957 958 (.aload_n 2) 1 := ⟨dr_at drL_law_943 (i := 7) rfl, rfl⟩
theorem dL_958 : dc code 958 961 (.invokevirtual 198) 3 := ⟨dr_at drL_law_943 (i := 8) rfl, rfl⟩
theorem dL_961 : dc code 961 962 .pop 1 := ⟨dr_at drL_law_943 (i := 9) rfl, rfl⟩
theorem dL_962 : dc code 962 965 (.goto 1037) 3 := ⟨dr_at drL_law_943 (i := 10) rfl, rfl⟩
theorem dL_965 : dc code 965 966 (.aload_n 1) 1 := ⟨dr_at drL_law_943 (i := 11) rfl, rfl⟩
theorem dL_966 : dc code 966 967 (.aload_n 0) 1 := ⟨dr_at drL_law_943 (i := 12) rfl, rfl⟩
theorem dL_967 : dc code 967 969 (.iload 4) 2 := ⟨dr_at drL_law_943 (i := 13) rfl, rfl⟩
theorem dL_969 : dc code 969 970 (.iconst 1) 1 := ⟨dr_at drL_law_943 (i := 14) rfl, rfl⟩
theorem dL_970 : dc code 970 971 .iadd 1 := ⟨dr_at drL_law_943 (i := 15) rfl, rfl⟩
theorem dL_971 : dc code 971 972 .iaload 1 := ⟨dr_at drL_law_943 (i := 16) rfl, rfl⟩
theorem dL_972 : dc code 972 973 (.aload_n 0) 1 := ⟨dr_at drL_law_943 (i := 17) rfl, rfl⟩
theorem dL_973 : dc code 973 975 (.iload 4) 2 := ⟨dr_at drL_law_943 (i := 18) rfl, rfl⟩
theorem dL_975 : dc code 975 976 (.iconst 2) 1 := ⟨dr_at drL_law_943 (i := 19) rfl, rfl⟩
theorem dL_976 : dc code 976 977 .iadd 1 := ⟨dr_at drL_law_943 (i := 20) rfl, rfl⟩
theorem dL_977 : dc code 977 978 .iaload 1 := ⟨dr_at drL_law_943 (i := 21) rfl, rfl⟩
theorem dL_978 : dc code 978 981 (.ifCond .eq 7) 3 := ⟨dr_at drL_law_943 (i := 22) rfl, rfl⟩
theorem dL_981 : dc code 981 982 (.iconst 1) 1 := ⟨dr_at drL_law_943 (i := 23) rfl, rfl⟩
theorem dL_982 : dc code 982 985 (.goto 4) 3 := ⟨dr_at drL_law_943 (i := 24) rfl, rfl⟩
theorem dL_985 : dc code 985 986 (.iconst 0) 1 := ⟨dr_at drL_law_943 (i := 25) rfl, rfl⟩
theorem dL_986 : dc code 986 989 (.invokevirtual 199) 3 := ⟨dr_at drL_law_943 (i := 26) rfl, rfl⟩
theorem dL_989 : dc code 989 990 .pop 1 := ⟨dr_at drL_law_943 (i := 27) rfl, rfl⟩
theorem dL_990 : dc code 990 991 (.aload_n 2) 1 := ⟨dr_at drL_law_943 (i := 28) rfl, rfl⟩
theorem dL_991 : dc code 991 992 (.aload_n 0) 1 := ⟨dr_at drL_law_943 (i := 29) rfl, rfl⟩
theorem dL_992 : dc code 992 994 (.iload 4) 2 := ⟨dr_at drL_law_943 (i := 30) rfl, rfl⟩
theorem dL_994 : dc code 994 995 (.iconst 1) 1 := ⟨dr_at drL_law_943 (i := 31) rfl, rfl⟩
theorem dL_995 : dc code 995 996 .iadd 1 := ⟨dr_at drL_law_943 (i := 32) rfl, rfl⟩
theorem dL_996 : dc code 996 997 .iaload 1 := ⟨dr_at drL_law_943 (i := 33) rfl, rfl⟩
theorem dL_997 : dc code 997 998 (.aload_n 0) 1 := ⟨dr_at drL_law_943 (i := 34) rfl, rfl⟩
theorem dL_998 : dc code 998 1000 (.iload 4) 2 := ⟨dr_at drL_law_943 (i := 35) rfl, rfl⟩
theorem dL_1000 : dc code 1000 1001 (.iconst 2) 1 := ⟨dr_at drL_law_943 (i := 36) rfl, rfl⟩
theorem dL_1001 : dc code 1001 1002 .iadd 1 := ⟨dr_at drL_law_943 (i := 37) rfl, rfl⟩
theorem dL_1002 : dc code 1002 1003 .iaload 1 := ⟨dr_at drL_law_943 (i := 38) rfl, rfl⟩
theorem dL_1003 : dc code 1003 1006 (.ifCond .eq 7) 3 := ⟨dr_at drL_law_943 (i := 39) rfl, rfl⟩
theorem dL_1006 : dc code 1006 1007 (.iconst 1) 1 := ⟨dr_at drL_law_943 (i := 40) rfl, rfl⟩
theorem dL_1007 : dc code 1007 1010 (.goto 4) 3 := ⟨dr_at drL_law_943 (i := 41) rfl, rfl⟩
theorem dL_1010 : dc code 1010 1011 (.iconst 0) 1 := ⟨dr_at drL_law_943 (i := 42) rfl, rfl⟩
theorem dL_1011 : dc code 1011 1014 (.invokevirtual 202) 3 := ⟨dr_at drL_law_943 (i := 43) rfl, rfl⟩
theorem dL_1014 : dc code 1014 1015 .pop 1 := ⟨dr_at drL_law_943 (i := 44) rfl, rfl⟩
theorem dL_1015 : dc code 1015 1018 (.goto 984) 3 := ⟨dr_at drL_law_943 (i := 45) rfl, rfl⟩
theorem dL_1018 : dc code 1018 1019 (.aload_n 1) 1 := ⟨dr_at drL_law_943 (i := 46) rfl, rfl⟩
theorem dL_1019 : dc code 1019 1020 (.aload_n 0) 1 := ⟨dr_at drL_law_943 (i := 47) rfl, rfl⟩
theorem dL_1020 : dc code 1020 1022 (.iload 4) 2 := ⟨dr_at drL_law_943 (i := 48) rfl, rfl⟩
theorem dL_1022 : dc code 1022 1023 (.iconst 1) 1 := ⟨dr_at drL_law_943 (i := 49) rfl, rfl⟩
theorem dL_1023 : dc code 1023 1024 .iadd 1 := ⟨dr_at drL_law_943 (i := 50) rfl, rfl⟩
theorem dL_1024 : dc code 1024 1025 .iaload 1 := ⟨dr_at drL_law_943 (i := 51) rfl, rfl⟩
theorem dL_1025 : dc code 1025 1026 (.aload_n 0) 1 := ⟨dr_at drL_law_943 (i := 52) rfl, rfl⟩
theorem dL_1026 : dc code 1026 1028 (.iload 4) 2 := ⟨dr_at drL_law_943 (i := 53) rfl, rfl⟩
theorem dL_1028 : dc code 1028 1029 (.iconst 2) 1 := ⟨dr_at drL_law_943 (i := 54) rfl, rfl⟩
theorem dL_1029 : dc code 1029 1030 .iadd 1 := ⟨dr_at drL_law_943 (i := 55) rfl, rfl⟩
theorem dL_1030 : dc code 1030 1031 .iaload 1 := ⟨dr_at drL_law_943 (i := 56) rfl, rfl⟩
theorem dL_1031 : dc code 1031 1032 (.aload_n 0) 1 := ⟨dr_at drL_law_943 (i := 57) rfl, rfl⟩
theorem dL_1032 : dc code 1032 1034 (.iload 4) 2 := ⟨dr_at drL_law_943 (i := 58) rfl, rfl⟩
theorem dL_1034 : dc code 1034 1035 (.iconst 3) 1 := ⟨dr_at drL_law_943 (i := 59) rfl, rfl⟩
theorem dL_1035 : dc code 1035 1036 .iadd 1 := ⟨dr_at drL_law_943 (i := 60) rfl, rfl⟩
theorem dL_1036 : dc code 1036 1037 .iaload 1 := ⟨dr_at drL_law_943 (i := 61) rfl, rfl⟩
theorem dL_1037 : dc code 1037 1038 (.aload_n 0) 1 := ⟨dr_at drL_law_943 (i := 62) rfl, rfl⟩
theorem dL_1038 : dc code 1038 1040 (.iload 4) 2 := ⟨dr_at drL_law_943 (i := 63) rfl, rfl⟩
theorem dL_1040 : dc code 1040 1041 (.iconst 4) 1 := ⟨dr_at drL_law_943 (i := 64) rfl, rfl⟩
theorem dL_1041 : dc code 1041 1042 .iadd 1 := ⟨dr_at drL_law_943 (i := 65) rfl, rfl⟩
theorem dL_1042 : dc code 1042 1043 .iaload 1 := ⟨dr_at drL_law_943 (i := 66) rfl, rfl⟩
theorem dL_1043 : dc code 1043 1046 (.ifCond .eq 7) 3 := ⟨dr_at drL_law_943 (i := 67) rfl, rfl⟩
theorem dL_1046 : dc code 1046 1047 (.iconst 1) 1 := ⟨dr_at drL_law_943 (i := 68) rfl, rfl⟩
theorem dL_1047 : dc code 1047 1050 (.goto 4) 3 := ⟨dr_at drL_law_943 (i := 69) rfl, rfl⟩
theorem dL_1050 : dc code 1050 1051 (.iconst 0) 1 := ⟨dr_at drL_law_943 (i := 70) rfl, rfl⟩
theorem dL_1051 : dc code 1051 1052 (.aload_n 3) 1 := ⟨dr_at drL_law_943 (i := 71) rfl, rfl⟩
theorem dL_1052 : dc code 1052 1055 (.invokestatic 203) 3 := ⟨dr_at drL_law_943 (i := 72) rfl, rfl⟩
theorem dL_1055 : dc code 1055 1057 (.istore 5) 2 := ⟨dr_at drL_law_943 (i := 73) rfl, rfl⟩
theorem dL_1057 : dc code 1057 1058 (.aload_n 2) 1 := ⟨dr_at drL_law_943 (i := 74) rfl, rfl⟩
theorem dL_1058 : dc code 1058 1059 (.aload_n 0) 1 := ⟨dr_at drL_law_943 (i := 75) rfl, rfl⟩
theorem dL_1059 : dc code 1059 1061 (.iload 4) 2 := ⟨dr_at drL_law_943 (i := 76) rfl, rfl⟩
theorem dL_1061 : dc code 1061 1062 (.iconst 1) 1 := ⟨dr_at drL_law_943 (i := 77) rfl, rfl⟩
theorem dL_1062 : dc code 1062 1063 .iadd 1 := ⟨dr_at drL_law_943 (i := 78) rfl, rfl⟩
theorem dL_1063 : dc code 1063 1064 .iaload 1 := ⟨dr_at drL_law_943 (i := 79) rfl, rfl⟩
theorem dL_1064 : dc code 1064 1065 (.aload_n 0) 1 := ⟨dr_at drL_law_943 (i := 80) rfl, rfl⟩
theorem dL_1065 : dc code 1065 1067 (.iload 4) 2 := ⟨dr_at drL_law_943 (i := 81) rfl, rfl⟩
theorem dL_1067 : dc code 1067 1068 (.iconst 2) 1 := ⟨dr_at drL_law_943 (i := 82) rfl, rfl⟩
theorem dL_1068 : dc code 1068 1069 .iadd 1 := ⟨dr_at drL_law_943 (i := 83) rfl, rfl⟩
theorem drL_law_1069 : ([(1069, .iaload, 1), (1070, (.aload_n 0), 1), (1071, (.iload 4), 2), (1073, (.iconst 3), 1), (1074, .iadd, 1), (1075, .iaload, 1), (1076, (.aload_n 0), 1), (1077, (.iload 4), 2), (1079, (.iconst 4), 1), (1080, .iadd, 1), (1081, .iaload, 1), (1082, (.ifCond .eq 7), 3), (1085, (.iconst 1), 1), (1086, (.goto 4), 3), (1089, (.iconst 0), 1), (1090, (.invokevirtual 205), 3), (1093, (.istore 6), 2), (1095, (.goto 904), 3), (1098, (.aload_n 1), 1), (1099, (.aload_n 0), 1), (1100, (.iload 4), 2), (1102, (.iconst 1), 1), (1103, .iadd, 1), (1104, .iaload, 1), (1105, (.aload_n 0), 1), (1106, (.iload 4), 2), (1108, (.iconst 2), 1), (1109, .iadd, 1), (1110, .iaload, 1), (1111, (.aload_n 0), 1), (1112, (.iload 4), 2), (1114, (.iconst 3), 1), (1115, .iadd, 1), (1116, .iaload, 1), (1117, (.aload_n 0), 1), (1118, (.iload 4), 2), (1120, (.iconst 4), 1), (1121, .iadd, 1), (1122, .iaload, 1), (1123, (.aload_n 3), 1), (1124, (.invokestatic 206), 3), (1127, (.istore 5), 2), (1129, (.aload_n 2), 1), (1130, (.aload_n 0), 1), (1131, (.iload 4), 2), (1133, (.iconst 1), 1), (1134, .iadd, 1), (1135, .iaload, 1), (1136, (.aload_n 0), 1), (1137, (.iload 4), 2), (1139, (.iconst 2), 1), (1140, .iadd, 1), (1141, .iaload, 1), (1142, (.aload_n 0), 1), (1143, (.iload 4), 2), (1145, (.iconst 3), 1), (1146, .iadd, 1), (1147, .iaload, 1), (1148, (.aload_n 0), 1), (1149, (.iload 4), 2), (1151, (.iconst 4), 1), (1152, .iadd, 1), (1153, .iaload, 1), (1154, (.invokevirtual 209), 3), (1157, (.istore 6), 2), (1159, (.goto 840), 3), (1162, (.aload_n 1), 1), (1163, (.aload_n 0), 1), (1164, (.iload 4), 2), (1166, (.iconst 1), 1), (1167, .iadd, 1), (1168, .iaload, 1), (1169, (.aload_n 0), 1), (1170, (.iload 4), 2)] : List (Nat × Instr × Nat)).all (fun q => decide (decode code q.1 = .ok q.2)) = true := by decide +kernel
theorem dL_1069 : dc code 1069 1070 .iaload 1 := ⟨dr_at drL_law_1069 (i := 0) rfl, rfl⟩
theorem dL_1070 : dc code 1070 1071 (.aload_n 0) 1 := ⟨dr_at drL_law_1069 (i := 1) rfl, rfl⟩
theorem dL_1071 : dc code 1071 1073 (.iload 4) 2 := ⟨dr_at drL_law_1069 (i := 2) rfl, rfl⟩
theorem dL_1073 : dc code 1073 1074 (.iconst 3) 1 := ⟨dr_at drL_law_1069 (i := 3) rfl, rfl⟩
theorem dL_1074 : dc code 1074 1075 .iadd 1 := ⟨dr_at drL_law_1069 (i := 4) rfl, rfl⟩
theorem dL_1075 : dc code 1075 1076 .iaload 1 := ⟨dr_at drL_law_1069 (i := 5) rfl, rfl⟩
theorem dL_1076 : dc code 1076 1077 (.aload_n 0) 1 := ⟨dr_at drL_law_1069 (i := 6) rfl, rfl⟩
theorem dL_1077 : dc code 1077 1079 (.iload 4) 2 := ⟨dr_at drL_law_1069 (i := 7) rfl, rfl⟩
theorem dL_1079 : dc code 1079 1080 (.iconst 4) 1 := ⟨dr_at drL_law_1069 (i := 8) rfl, rfl⟩
theorem dL_1080 : dc code 1080 1081 .iadd 1 := ⟨dr_at drL_law_1069 (i := 9) rfl, rfl⟩
theorem dL_1081 : dc code 1081 1082 .iaload 1 := ⟨dr_at drL_law_1069 (i := 10) rfl, rfl⟩
theorem dL_1082 : dc code 1082 1085 (.ifCond .eq 7) 3 := ⟨dr_at drL_law_1069 (i := 11) rfl, rfl⟩
theorem dL_1085 : dc code 1085 1086 (.iconst 1) 1 := ⟨dr_at drL_law_1069 (i := 12) rfl, rfl⟩
theorem dL_1086 : dc code 1086 1089 (.goto 4) 3 := ⟨dr_at drL_law_1069 (i := 13) rfl, rfl⟩
theorem dL_1089 : dc code 1089 1090 (.iconst 0) 1 := ⟨dr_at drL_law_1069 (i := 14) rfl, rfl⟩
theorem dL_1090 : dc code 1090 1093 (.invokevirtual 205) 3 := ⟨dr_at drL_law_1069 (i := 15) rfl, rfl⟩
theorem dL_1093 : dc code 1093 1095 (.istore 6) 2 := ⟨dr_at drL_law_1069 (i := 16) rfl, rfl⟩
theorem dL_1095 : dc code 1095 1098 (.goto 904) 3 := ⟨dr_at drL_law_1069 (i := 17) rfl, rfl⟩
theorem dL_1098 : dc code 1098 1099 (.aload_n 1) 1 := ⟨dr_at drL_law_1069 (i := 18) rfl, rfl⟩
theorem dL_1099 : dc code 1099 1100 (.aload_n 0) 1 := ⟨dr_at drL_law_1069 (i := 19) rfl, rfl⟩
theorem dL_1100 : dc code 1100 1102 (.iload 4) 2 := ⟨dr_at drL_law_1069 (i := 20) rfl, rfl⟩
theorem dL_1102 : dc code 1102 1103 (.iconst 1) 1 := ⟨dr_at drL_law_1069 (i := 21) rfl, rfl⟩
theorem dL_1103 : dc code 1103 1104 .iadd 1 := ⟨dr_at drL_law_1069 (i := 22) rfl, rfl⟩
theorem dL_1104 : dc code 1104 1105 .iaload 1 := ⟨dr_at drL_law_1069 (i := 23) rfl, rfl⟩
theorem dL_1105 : dc code 1105 1106 (.aload_n 0) 1 := ⟨dr_at drL_law_1069 (i := 24) rfl, rfl⟩
theorem dL_1106 : dc code 1106 1108 (.iload 4) 2 := ⟨dr_at drL_law_1069 (i := 25) rfl, rfl⟩
theorem dL_1108 : dc code 1108 1109 (.iconst 2) 1 := ⟨dr_at drL_law_1069 (i := 26) rfl, rfl⟩
theorem dL_1109 : dc code 1109 1110 .iadd 1 := ⟨dr_at drL_law_1069 (i := 27) rfl, rfl⟩
theorem dL_1110 : dc code 1110 1111 .iaload 1 := ⟨dr_at drL_law_1069 (i := 28) rfl, rfl⟩
theorem dL_1111 : dc code 1111 1112 (.aload_n 0) 1 := ⟨dr_at drL_law_1069 (i := 29) rfl, rfl⟩
theorem dL_1112 : dc code 1112 1114 (.iload 4) 2 := ⟨dr_at drL_law_1069 (i := 30) rfl, rfl⟩
theorem dL_1114 : dc code 1114 1115 (.iconst 3) 1 := ⟨dr_at drL_law_1069 (i := 31) rfl, rfl⟩
theorem dL_1115 : dc code 1115 1116 .iadd 1 := ⟨dr_at drL_law_1069 (i := 32) rfl, rfl⟩
theorem dL_1116 : dc code 1116 1117 .iaload 1 := ⟨dr_at drL_law_1069 (i := 33) rfl, rfl⟩
theorem dL_1117 : dc code 1117 1118 (.aload_n 0) 1 := ⟨dr_at drL_law_1069 (i := 34) rfl, rfl⟩
theorem dL_1118 : dc code 1118 1120 (.iload 4) 2 := ⟨dr_at drL_law_1069 (i := 35) rfl, rfl⟩
theorem dL_1120 : dc code 1120 1121 (.iconst 4) 1 := ⟨dr_at drL_law_1069 (i := 36) rfl, rfl⟩
theorem dL_1121 : dc code 1121 1122 .iadd 1 := ⟨dr_at drL_law_1069 (i := 37) rfl, rfl⟩
theorem dL_1122 : dc code 1122 1123 .iaload 1 := ⟨dr_at drL_law_1069 (i := 38) rfl, rfl⟩
theorem dL_1123 : dc code 1123 1124 (.aload_n 3) 1 := ⟨dr_at drL_law_1069 (i := 39) rfl, rfl⟩
theorem dL_1124 : dc code 1124 1127 (.invokestatic 206) 3 := ⟨dr_at drL_law_1069 (i := 40) rfl, rfl⟩
theorem dL_1127 : dc code 1127 1129 (.istore 5) 2 := ⟨dr_at drL_law_1069 (i := 41) rfl, rfl⟩
theorem dL_1129 : dc code 1129 1130 (.aload_n 2) 1 := ⟨dr_at drL_law_1069 (i := 42) rfl, rfl⟩
theorem dL_1130 : dc code 1130 1131 (.aload_n 0) 1 := ⟨dr_at drL_law_1069 (i := 43) rfl, rfl⟩
theorem dL_1131 : dc code 1131 1133 (.iload 4) 2 := ⟨dr_at drL_law_1069 (i := 44) rfl, rfl⟩
theorem dL_1133 : dc code 1133 1134 (.iconst 1) 1 := ⟨dr_at drL_law_1069 (i := 45) rfl, rfl⟩
theorem dL_1134 : dc code 1134 1135 .iadd 1 := ⟨dr_at drL_law_1069 (i := 46) rfl, rfl⟩
theorem dL_1135 : dc code 1135 1136 .iaload 1 := ⟨dr_at drL_law_1069 (i := 47) rfl, rfl⟩
theorem dL_1136 : dc code 1136 1137 (.aload_n 0) 1 := ⟨dr_at drL_law_1069 (i := 48) rfl, rfl⟩
theorem dL_1137 : dc code 1137 1139 (.iload 4) 2 := ⟨dr_at drL_law_1069 (i := 49) rfl, rfl⟩
theorem dL_1139 : dc code 1139 1140 (.iconst 2) 1 := ⟨dr_at drL_law_1069 (i := 50) rfl, rfl⟩
theorem dL_1140 : dc code 1140 1141 .iadd 1 := ⟨dr_at drL_law_1069 (i := 51) rfl, rfl⟩
theorem dL_1141 : dc code 1141 1142 .iaload 1 := ⟨dr_at drL_law_1069 (i := 52) rfl, rfl⟩
theorem dL_1142 : dc code 1142 1143 (.aload_n 0) 1 := ⟨dr_at drL_law_1069 (i := 53) rfl, rfl⟩
theorem dL_1143 : dc code 1143 1145 (.iload 4) 2 := ⟨dr_at drL_law_1069 (i := 54) rfl, rfl⟩
theorem dL_1145 : dc code 1145 1146 (.iconst 3) 1 := ⟨dr_at drL_law_1069 (i := 55) rfl, rfl⟩
theorem dL_1146 : dc code 1146 1147 .iadd 1 := ⟨dr_at drL_law_1069 (i := 56) rfl, rfl⟩
theorem dL_1147 : dc code 1147 1148 .iaload 1 := ⟨dr_at drL_law_1069 (i := 57) rfl, rfl⟩
theorem dL_1148 : dc code 1148 1149 (.aload_n 0) 1 := ⟨dr_at drL_law_1069 (i := 58) rfl, rfl⟩
theorem dL_1149 : dc code 1149 1151 (.iload 4) 2 := ⟨dr_at drL_law_1069 (i := 59) rfl, rfl⟩
theorem dL_1151 : dc code 1151 1152 (.iconst 4) 1 := ⟨dr_at drL_law_1069 (i := 60) rfl, rfl⟩
theorem dL_1152 : dc code 1152 1153 .iadd 1 := ⟨dr_at drL_law_1069 (i := 61) rfl, rfl⟩
theorem dL_1153 : dc code 1153 1154 .iaload 1 := ⟨dr_at drL_law_1069 (i := 62) rfl, rfl⟩
theorem dL_1154 : dc code 1154 1157 (.invokevirtual 209) 3 := ⟨dr_at drL_law_1069 (i := 63) rfl, rfl⟩
theorem dL_1157 : dc code 1157 1159 (.istore 6) 2 := ⟨dr_at drL_law_1069 (i := 64) rfl, rfl⟩
theorem dL_1159 : dc code 1159 1162 (.goto 840) 3 := ⟨dr_at drL_law_1069 (i := 65) rfl, rfl⟩
theorem dL_1162 : dc code 1162 1163 (.aload_n 1) 1 := ⟨dr_at drL_law_1069 (i := 66) rfl, rfl⟩
theorem dL_1163 : dc code 1163 1164 (.aload_n 0) 1 := ⟨dr_at drL_law_1069 (i := 67) rfl, rfl⟩
theorem dL_1164 : dc code 1164 1166 (.iload 4) 2 := ⟨dr_at drL_law_1069 (i := 68) rfl, rfl⟩
theorem dL_1166 : dc code 1166 1167 (.iconst 1) 1 := ⟨dr_at drL_law_1069 (i := 69) rfl, rfl⟩
theorem dL_1167 : dc code 1167 1168 .iadd 1 := ⟨dr_at drL_law_1069 (i := 70) rfl, rfl⟩
theorem dL_1168 : dc code 1168 1169 .iaload 1 := ⟨dr_at drL_law_1069 (i := 71) rfl, rfl⟩
theorem dL_1169 : dc code 1169 1170 (.aload_n 0) 1 := ⟨dr_at drL_law_1069 (i := 72) rfl, rfl⟩
theorem dL_1170 : dc code 1170 1172 (.iload 4) 2 := ⟨dr_at drL_law_1069 (i := 73) rfl, rfl⟩
