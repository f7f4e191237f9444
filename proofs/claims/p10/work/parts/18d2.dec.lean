theorem drL_law_798 : ([(798, .iadd, 1), (799, .iaload, 1), (800, (.aload_n 0), 1), (801, (.iload 4), 2), (803, (.iconst 3), 1), (804, .iadd, 1), (805, .iaload, 1), (806, (.aload_n 0), 1), (807, (.iload 4), 2), (809, (.iconst 4), 1), (810, .iadd, 1), (811, .iaload, 1), (812, (.ifCond .eq 7), 3), (815, (.iconst 1), 1), (816, (.goto 4), 3), (819, (.iconst 0), 1), (820, (.aload_n 3), 1), (821, (.invokestatic 187), 3), (824, (.istore 5), 2), (826, (.aload_n 2), 1), (827, (.aload_n 0), 1), (828, (.iload 4), 2), (830, (.iconst 1), 1), (831, .iadd, 1), (832, .iaload, 1), (833, (.aload_n 0), 1), (834, (.iload 4), 2), (836, (.iconst 2), 1), (837, .iadd, 1), (838, .iaload, 1), (839, (.aload_n 0), 1), (840, (.iload 4), 2), (842, (.iconst 3), 1), (843, .iadd, 1), (844, .iaload, 1), (845, (.aload_n 0), 1), (846, (.iload 4), 2), (848, (.iconst 4), 1), (849, .iadd, 1), (850, .iaload, 1), (851, (.ifCond .eq 7), 3), (854, (.iconst 1), 1), (855, (.goto 4), 3), (858, (.iconst 0), 1), (859, (.invokevirtual 190), 3), (862, (.lstore 6), 2), (864, (.goto 1134), 3), (867, (.aload_n 1), 1), (868, (.aload_n 0), 1), (869, (.iload 4), 2), (871, (.iconst 1), 1), (872, .iadd, 1), (873, .iaload, 1), (874, (.aload_n 0), 1), (875, (.iload 4), 2), (877, (.iconst 2), 1), (878, .iadd, 1), (879, .iaload, 1), (880, (.ifCond .eq 7), 3), (883, (.iconst 1), 1), (884, (.goto 4), 3), (887, (.iconst 0), 1), (888, (.aload_n 3), 1), (889, (.invokestatic 191), 3), (892, (.istore 5), 2), (894, (.aload_n 2), 1), (895, (.aload_n 0), 1), (896, (.iload 4), 2), (898, (.iconst 1), 1), (899, .iadd, 1), (900, .iaload, 1), (901, (.aload_n 0), 1), (902, (.iload 4), 2), (904, (.iconst 2), 1), (905, .iadd, 1), (906, .iaload, 1), (907, (.ifCond .eq 7), 3), (910, (.iconst 1), 1), (911, (.goto 4), 3), (914, (.iconst 0), 1), (915, (.invokevirtual 194), 3), (918, (.istore 6), 2), (920, (.goto 1078), 3), (923, (.aload_n 1), 1), (924, (.aload_n 0), 1), (925, (.iload 4), 2), (927, (.iconst 1), 1), (928, .iadd, 1), (929, .iaload, 1), (930, (.aload_n 0), 1), (931, (.iload 4), 2), (933, (.iconst 2), 1), (934, .iadd, 1), (935, .iaload, 1), (936, (.ifCond .eq 7), 3), (939, (.iconst 1), 1), (940, (.goto 4), 3), (943, (.iconst 0), 1), (944, (.aload_n 3), 1), (945, (.invokestatic 195), 3)] : List (Nat × Instr × Nat)).all (fun q => decide (decode code q.1 = .ok q.2)) = true := by decide +kernel
theorem dL_798 : dc code 798 799 .iadd 1 := ⟨dr_at drL_law_798 (i := 0) rfl, rfl⟩
theorem dL_799 : dc code 799 800 .iaload 1 := ⟨dr_at drL_law_798 (i := 1) rfl, rfl⟩
theorem dL_800 : dc code 800 801 (.aload_n 0) 1 := ⟨dr_at drL_law_798 (i := 2) rfl, rfl⟩
theorem dL_801 : dc code 801 803 (.iload 4) 2 := ⟨dr_at drL_law_798 (i := 3) rfl, rfl⟩
theorem dL_803 : dc code 803 804 (.iconst 3) 1 := ⟨dr_at drL_law_798 (i := 4) rfl, rfl⟩
theorem dL_804 : dc code 804 805 .iadd 1 := ⟨dr_at drL_law_798 (i := 5) rfl, rfl⟩
theorem dL_805 : dc code 805 806 .iaload 1 := ⟨dr_at drL_law_798 (i := 6) rfl, rfl⟩
theorem dL_806 : dc code 806 807 (.aload_n 0) 1 := ⟨dr_at drL_law_798 (i := 7) rfl, rfl⟩
theorem dL_807 : dc code 807 809 (.iload 4) 2 := ⟨dr_at drL_law_798 (i := 8) rfl, rfl⟩
theorem dL_809 : dc code 809 810 (.iconst 4) 1 := ⟨dr_at drL_law_798 (i := 9) rfl, rfl⟩
theorem dL_810 : dc code 810 811 .iadd 1 := ⟨dr_at drL_law_798 (i := 10) rfl, rfl⟩
theorem dL_811 : dc code 811 812 .iaload 1 := ⟨dr_at drL_law_798 (i := 11) rfl, rfl⟩
theorem dL_812 : dc code 812 815 (.ifCond .eq 7) 3 := ⟨dr_at drL_law_798 (i := 12) rfl, rfl⟩
theorem dL_815 : dc code 815 816 (.iconst 1) 1 := ⟨dr_at drL_law_798 (i := 13) rfl, rfl⟩
theorem dL_816 : dc code 816 819 (.goto 4) 3 := ⟨dr_at drL_law_798 (i := 14) rfl, rfl⟩
theorem dL_819 : dc code 819 820 (.iconst 0) 1 := ⟨dr_at drL_law_798 (i := 15) rfl, rfl⟩
theorem dL_820 : dc code 820 821 (.aload_n 3) 1 := ⟨dr_at drL_law_798 (i := 16) rfl, rfl⟩
theorem dL_821 : dc code 821 824 (.invokestatic 187) 3 := ⟨dr_at drL_law_798 (i := 17) rfl, rfl⟩
theorem dL_824 : dc code 824 826 (.istore 5) 2 := ⟨dr_at drL_law_798 (i := 18) rfl, rfl⟩
theorem dL_826 : dc code 826 827 (.aload_n 2) 1 := ⟨dr_at drL_law_798 (i := 19) rfl, rfl⟩
theorem dL_827 : dc code 827 828 (.aload_n 0) 1 := ⟨dr_at drL_law_798 (i := 20) rfl, rfl⟩
theorem dL_828 : dc code 828 830 (.iload 4) 2 := ⟨dr_at drL_law_798 (i := 21) rfl, rfl⟩
theorem dL_830 : dc code 830 831 (.iconst 1) 1 := ⟨dr_at drL_law_798 (i := 22) rfl, rfl⟩
theorem dL_831 : dc code 831 832 .iadd 1 := ⟨dr_at drL_law_798 (i := 23) rfl, rfl⟩
theorem dL_832 : dc code 832 833 .iaload 1 := ⟨dr_at drL_law_798 (i := 24) rfl, rfl⟩
theorem dL_833 : dc code 833 834 (.aload_n 0) 1 := ⟨dr_at drL_law_798 (i := 25) rfl, rfl⟩
theorem dL_834 : dc code 834 836 (.iload 4) 2 := ⟨dr_at drL_law_798 (i := 26) rfl, rfl⟩
theorem dL_836 : dc code 836 837 (.iconst 2) 1 := ⟨dr_at drL_law_798 (i := 27) rfl, rfl⟩
theorem dL_837 : dc code 837 838 .iadd 1 := ⟨dr_at drL_law_798 (i := 28) rfl, rfl⟩
theorem dL_838 : dc code 838 839 .iaload 1 := ⟨dr_at drL_law_798 (i := 29) rfl, rfl⟩
theorem dL_839 : dc code 839 840 (.aload_n 0) 1 := ⟨dr_at drL_law_798 (i := 30) rfl, rfl⟩
theorem dL_840 : dc code 840 842 (.iload 4) 2 := ⟨dr_at drL_law_798 (i := 31) rfl, rfl⟩
theorem dL_842 : dc code 842 843 (.iconst 3) 1 := ⟨dr_at drL_law_798 (i := 32) rfl, rfl⟩
theorem dL_843 : dc code 843 844 .iadd 1 := ⟨dr_at drL_law_798 (i := 33) rfl, rfl⟩
theorem dL_844 : dc code 844 845 .iaload 1 := ⟨dr_at drL_law_798 (i := 34) rfl, rfl⟩
theorem dL_845 : dc code 845 846 (.aload_n 0) 1 := ⟨dr_at drL_law_798 (i := 35) rfl, rfl⟩
theorem dL_846 : dc code 846 848 (.iload 4) 2 := ⟨dr_at drL_law_798 (i := 36) rfl, rfl⟩
theorem dL_848 : dc code 848 849 (.iconst 4) 1 := ⟨dr_at drL_law_798 (i := 37) rfl, rfl⟩
theorem dL_849 : dc code 849 850 .iadd 1 := ⟨dr_at drL_law_798 (i := 38) rfl, rfl⟩
theorem dL_850 : dc code 850 851 .iaload 1 := ⟨dr_at drL_law_798 (i := 39) rfl, rfl⟩
theorem dL_851 : dc code 851 854 (.ifCond .eq 7) 3 := ⟨dr_at drL_law_798 (i := 40) rfl, rfl⟩
theorem dL_854 : dc code 854 855 (.iconst 1) 1 := ⟨dr_at drL_law_798 (i := 41) rfl, rfl⟩
theorem dL_855 : dc code 855 858 (.goto 4) 3 := ⟨dr_at drL_law_798 (i := 42) rfl, rfl⟩
theorem dL_858 : dc code 858 859 (.iconst 0) 1 := ⟨dr_at drL_law_798 (i := 43) rfl, rfl⟩
theorem dL_859 : dc code 859 862 (.invokevirtual 190) 3 := ⟨dr_at drL_law_798 (i := 44) rfl, rfl⟩
theorem dL_862 : dc code 862 864 (.lstore 6) 2 := ⟨dr_at drL_law_798 (i := 45) rfl, rfl⟩
theorem dL_864 : dc code 864 867 (.goto 1134) 3 := ⟨dr_at drL_law_798 (i := 46) rfl, rfl⟩
theorem dL_867 : dc code 867 868 (.aload_n 1) 1 := ⟨dr_at drL_law_798 (i := 47) rfl, rfl⟩
theorem dL_868 : dc code 868 869 (.aload_n 0) 1 := ⟨dr_at drL_law_798 (i := 48) rfl, rfl⟩
theorem dL_869 : dc code 869 871 (.iload 4) 2 := ⟨dr_at drL_law_798 (i := 49) rfl, rfl⟩
theorem dL_871 : dc code 871 872 (.iconst 1) 1 := ⟨dr_at drL_law_798 (i := 50) rfl, rfl⟩
theorem dL_872 : dc code 872 873 .iadd 1 := ⟨dr_at drL_law_798 (i := 51) rfl, rfl⟩
theorem dL_873 : dc code 873 874 .iaload 1 := ⟨dr_at drL_law_798 (i := 52) rfl, rfl⟩
theorem dL_874 : dc code 874 875 (.aload_n 0) 1 := ⟨dr_at drL_law_798 (i := 53) rfl, rfl⟩
theorem dL_875 : dc code 875 877 (.iload 4) 2 := ⟨dr_at drL_law_798 (i := 54) rfl, rfl⟩
theorem dL_877 : dc code 877 878 (.iconst 2) 1 := ⟨dr_at drL_law_798 (i := 55) rfl, rfl⟩
theorem dL_878 : dc code 878 879 .iadd 1 := ⟨dr_at drL_law_798 (i := 56) rfl, rfl⟩
theorem dL_879 : dc code 879 880 .iaload 1 := ⟨dr_at drL_law_798 (i := 57) rfl, rfl⟩
theorem dL_880 : dc code 880 883 (.ifCond .eq 7) 3 := ⟨dr_at drL_law_798 (i := 58) rfl, rfl⟩
theorem dL_883 : dc code 883 884 (.iconst 1) 1 := ⟨dr_at drL_law_798 (i := 59) rfl, rfl⟩
theorem dL_884 : dc code 884 887 (.goto 4) 3 := ⟨dr_at drL_law_798 (i := 60) rfl, rfl⟩
theorem dL_887 : dc code 887 888 (.iconst 0) 1 := ⟨dr_at drL_law_798 (i := 61) rfl, rfl⟩
theorem dL_888 : dc code 888 889 (.aload_n 3) 1 := ⟨dr_at drL_law_798 (i := 62) rfl, rfl⟩
theorem dL_889 : dc code 889 892 (.invokestatic 191) 3 := ⟨dr_at drL_law_798 (i := 63) rfl, rfl⟩
theorem dL_892 : dc code 892 894 (.istore 5) 2 := ⟨dr_at drL_law_798 (i := 64) rfl, rfl⟩
theorem dL_894 : dc code 894 895 (.aload_n 2) 1 := ⟨dr_at drL_law_798 (i := 65) rfl, rfl⟩
theorem dL_895 : dc code 895 896 (.aload_n 0) 1 := ⟨dr_at drL_law_798 (i := 66) rfl, rfl⟩
theorem dL_896 : dc code 896 898 (.iload 4) 2 := ⟨dr_at drL_law_798 (i := 67) rfl, rfl⟩
theorem dL_898 : dc code 898 899 (.iconst 1) 1 := ⟨dr_at drL_law_798 (i := 68) rfl, rfl⟩
theorem dL_899 : dc code 899 900 .iadd 1 := ⟨dr_at drL_law_798 (i := 69) rfl, rfl⟩
theorem dL_900 : dc code 900 901 .iaload 1 := ⟨dr_at drL_law_798 (i := 70) rfl, rfl⟩
theorem dL_901 : dc code 901 902 (.aload_n 0) 1 := ⟨dr_at drL_law_798 (i := 71) rfl, rfl⟩
theorem dL_902 : dc code 902 904 (.iload 4) 2 := ⟨dr_at drL_law_798 (i := 72) rfl, rfl⟩
theorem dL_904 : dc code 904 905 (.iconst 2) 1 := ⟨dr_at drL_law_798 (i := 73) rfl, rfl⟩
theorem dL_905 : dc code 905 906 .iadd 1 := ⟨dr_at drL_law_798 (i := 74) rfl, rfl⟩
theorem dL_906 : dc code 906 907 .iaload 1 := ⟨dr_at drL_law_798 (i := 75) rfl, rfl⟩
theorem dL_907 : dc code 907 910 (.ifCond .eq 7) 3 := ⟨dr_at drL_law_798 (i := 76) rfl, rfl⟩
theorem dL_910 : dc code 910 911 (.iconst 1) 1 := ⟨dr_at drL_law_798 (i := 77) rfl, rfl⟩
theorem dL_911 : dc code 911 914 (.goto 4) 3 := ⟨dr_at drL_law_798 (i := 78) rfl, rfl⟩
theorem dL_914 : dc code 914 915 (.iconst 0) 1 := ⟨dr_at drL_law_798 (i := 79) rfl, rfl⟩
theorem dL_915 : dc code 915 918 (.invokevirtual 194) 3 := ⟨dr_at drL_law_798 (i := 80) rfl, rfl⟩
theorem dL_918 : dc code 918 920 (.istore 6) 2 := ⟨dr_at drL_law_798 (i := 81) rfl, rfl⟩
theorem dL_920 : dc code 920 923 (.goto 1078) 3 := ⟨dr_at drL_law_798 (i := 82) rfl, rfl⟩
theorem dL_923 : dc code 923 924 (.aload_n 1) 1 := ⟨dr_at drL_law_798 (i := 83) rfl, rfl⟩
theorem dL_924 : dc code 924 925 (.aload_n 0) 1 := ⟨dr_at drL_law_798 (i := 84) rfl, rfl⟩
theorem dL_925 : dc code 925 927 (.iload 4) 2 := ⟨dr_at drL_law_798 (i := 85) rfl, rfl⟩
theorem dL_927 : dc code 927 928 (.iconst 1) 1 := ⟨dr_at drL_law_798 (i := 86) rfl, rfl⟩
theorem dL_928 : dc code 928 929 .iadd 1 := ⟨dr_at drL_law_798 (i := 87) rfl, rfl⟩
theorem dL_929 : dc code 929 930 .iaload 1 := ⟨dr_at drL_law_798 (i := 88) rfl, rfl⟩
theorem dL_930 : dc code 930 931 (.aload_n 0) 1 := ⟨dr_at drL_law_798 (i := 89) rfl, rfl⟩
theorem dL_931 : dc code 931 933 (.iload 4) 2 := ⟨dr_at drL_law_798 (i := 90) rfl, rfl⟩
theorem dL_933 : dc code 933 934 (.iconst 2) 1 := ⟨dr_at drL_law_798 (i := 91) rfl, rfl⟩
theorem dL_934 : dc code 934 935 .iadd 1 := ⟨dr_at drL_law_798 (i := 92) rfl, rfl⟩
theorem dL_935 : dc code 935 936 .iaload 1 := ⟨dr_at drL_law_798 (i := 93) rfl, rfl⟩
theorem dL_936 : dc code 936 939 (.ifCond .eq 7) 3 := ⟨dr_at drL_law_798 (i := 94) rfl, rfl⟩
theorem dL_939 : dc code 939 940 (.iconst 1) 1 := ⟨dr_at drL_law_798 (i := 95) rfl, rfl⟩
theorem dL_940 : dc code 940 943 (.goto 4) 3 := ⟨dr_at drL_law_798 (i := 96) rfl, rfl⟩
theorem dL_943 : dc code 943 944 (.iconst 0) 1 := ⟨dr_at drL_law_798 (i := 97) rfl, rfl⟩
theorem dL_944 : dc code 944 945 (.aload_n 3) 1 := ⟨dr_at drL_law_798 (i := 98) rfl, rfl⟩
theorem dL_945 : dc code 945 948 (.invokestatic 195) 3 := ⟨dr_at drL_law_798 (i := 99) rfl, rfl⟩
theorem drL_law_948 : ([(948, (.istore 5), 2), (950, (.aload_n 2), 1), (951, (.aload_n 0), 1), (952, (.iload 4), 2), (954, (.iconst 1), 1), (955, .iadd, 1), (956, .iaload, 1), (957, (.aload_n 0), 1), (958, (.iload 4), 2), (960, (.iconst 2), 1), (961, .iadd, 1), (962, .iaload, 1), (963, (.ifCond .eq 7), 3), (966, (.iconst 1), 1), (967, (.goto 4), 3), (970, (.iconst 0), 1), (971, (.invokevirtual 197), 3), (974, (.lstore 6), 2), (976, (.goto 1022), 3), (979, (.aload_n 1), 1), (980, (.invokevirtual 198), 3), (983, .pop, 1), (984, (.aload_n 2), 1), (985, (.invokevirtual 201), 3), (988, .pop, 1), (989, (.goto 1009), 3), (992, (.aload_n 1), 1), (993, (.aload_n 0), 1), (994, (.iload 4), 2), (996, (.iconst 1), 1), (997, .iadd, 1), (998, .iaload, 1), (999, (.aload_n 0), 1), (1000, (.iload 4), 2), (1002, (.iconst 2), 1), (1003, .iadd, 1), (1004, .iaload, 1), (1005, (.ifCond .eq 7), 3), (1008, (.iconst 1), 1), (1009, (.goto 4), 3), (1012, (.iconst 0), 1), (1013, (.invokevirtual 202), 3), (1016, .pop, 1), (1017, (.aload_n 2), 1), (1018, (.aload_n 0), 1), (1019, (.iload 4), 2), (1021, (.iconst 1), 1), (1022, .iadd, 1), (1023, .iaload, 1), (1024, (.aload_n 0), 1), (1025, (.iload 4), 2), (1027, (.iconst 2), 1), (1028, .iadd, 1), (1029, .iaload, 1), (1030, (.ifCond .eq 7), 3), (1033, (.iconst 1), 1), (1034, (.goto 4), 3), (1037, (.iconst 0), 1), (1038, (.invokevirtual 205), 3), (1041, .pop, 1), (1042, (.goto 956), 3), (1045, (.aload_n 1), 1), (1046, (.aload_n 0), 1), (1047, (.iload 4), 2), (1049, (.iconst 1), 1), (1050, .iadd, 1), (1051, .iaload, 1), (1052, (.aload_n 0), 1), (1053, (.iload 4), 2), (1055, (.iconst 2), 1), (1056, .iadd, 1), (1057, .iaload, 1), (1058, (.aload_n 0), 1), (1059, (.iload 4), 2), (1061, (.iconst 3), 1), (1062, .iadd, 1), (1063, .iaload, 1), (1064, (.aload_n 0), 1), (1065, (.iload 4), 2), (1067, (.iconst 4), 1), (1068, .iadd, 1), (1069, .iaload, 1), (1070, (.ifCond .eq 7), 3), (1073, (.iconst 1), 1)] : List (Nat × Instr × Nat)).all (fun q => decide (decode code q.1 = .ok q.2)) = true := by decide +kernel
theorem dL_948 : dc code 948 950 (.istore 5) 2 := ⟨dr_at drL_law_948 (i := 0) rfl, rfl⟩
theorem dL_950 : dc code 950 951 (.aload_n 2) 1 := ⟨dr_at drL_law_948 (i := 1) rfl, rfl⟩
theorem dL_951 : dc code 951 952 (.aload_n 0) 1 := ⟨dr_at drL_law_948 (i := 2) rfl, rfl⟩
theorem dL_952 : dc code 952 954 (.iload 4) 2 := ⟨dr_at drL_law_948 (i := 3) rfl, rfl⟩
theorem dL_954 : dc code 954 955 (.iconst 1) 1 := ⟨dr_at drL_law_948 (i := 4) rfl, rfl⟩
theorem dL_955 : dc code 955 956 .iadd 1 := ⟨dr_at drL_law_948 (i := 5) rfl, rfl⟩
theorem dL_956 : dc code 956 957 .iaload 1 := ⟨dr_at drL_law_948 (i := 6) rfl, rfl⟩
theorem dL_957 : dc code 957 958 (.aload_n 0) 1 := ⟨dr_at drL_law_948 (i := 7) rfl, rfl⟩
theorem dL_958 : dc code 958 960 (.iload 4) 2 := ⟨dr_at drL_law_948 (i := 8) rfl, rfl⟩
theorem dL_960 : dc code 960 961 (.iconst 2) 1 := ⟨dr_at drL_law_948 (i := 9) rfl, rfl⟩
theorem dL_961 : dc code 961 962 .iadd 1 := ⟨dr_at drL_law_948 (i := 10) rfl, rfl⟩
theorem dL_962 : dc code 962 963 .iaload 1 := ⟨dr_at drL_law_948 (i := 11) rfl, rfl⟩
theorem dL_963 : dc code 963 966 (.ifCond .eq 7) 3 := ⟨dr_at drL_law_948 (i := 12) rfl, rfl⟩
theorem dL_966 : dc code 966 967 (.iconst 1) 1 := ⟨dr_at drL_law_948 (i := 13) rfl, rfl⟩
theorem dL_967 : dc code 967 970 (.goto 4) 3 := ⟨dr_at drL_law_948 (i := 14) rfl, rfl⟩
theorem dL_970 : dc code 970 971 (.iconst 0) 1 := ⟨dr_at drL_law_948 (i := 15) rfl, rfl⟩
theorem dL_971 : dc code 971 974 (.invokevirtual 197) 3 := ⟨dr_at drL_law_948 (i := 16) rfl, rfl⟩
theorem dL_974 : dc code 974 976 (.lstore 6) 2 := ⟨dr_at drL_law_948 (i := 17) rfl, rfl⟩
theorem dL_976 : dc code 976 979 (.goto 1022) 3 := ⟨dr_at drL_law_948 (i := 18) rfl, rfl⟩
theorem dL_979 : dc code 979 980 (.aload_n 1) 1 := ⟨dr_at drL_law_948 (i := 19) rfl, rfl⟩
theorem dL_980 : dc code 980 983 (.invokevirtual 198) 3 := ⟨dr_at drL_law_948 (i := 20) rfl, rfl⟩
theorem dL_983 : dc code 983 984 .pop 1 := ⟨dr_at drL_law_948 (i := 21) rfl, rfl⟩
theorem dL_984 : dc code 984 985 (.aload_n 2) 1 := ⟨dr_at drL_law_948 (i := 22) rfl, rfl⟩
theorem dL_985 : dc code 985 988 (.invokevirtual 201) 3 := ⟨dr_at drL_law_948 (i := 23) rfl, rfl⟩
theorem dL_988 : dc code 988 989 .pop 1 := ⟨dr_at drL_law_948 (i := 24) rfl, rfl⟩
theorem dL_989 : dc code 989 992 (.goto 1009) 3 := ⟨dr_at drL_law_948 (i := 25) rfl, rfl⟩
theorem dL_992 : dc code 992 993 (.aload_n 1) 1 := ⟨dr_at drL_law_948 (i := 26) rfl, rfl⟩
theorem dL_993 : dc code 993 994 (.aload_n 0) 1 := ⟨dr_at drL_law_948 (i := 27) rfl, rfl⟩
theorem dL_994 : dc code 994 996 (.iload 4) 2 := ⟨dr_at drL_law_948 (i := 28) rfl, rfl⟩
theorem dL_996 : dc code 996 997 (.iconst 1) 1 := ⟨dr_at drL_law_948 (i := 29) rfl, rfl⟩
theorem dL_997 : dc code 997 998 .iadd 1 := ⟨dr_at drL_law_948 (i := 30) rfl, rfl⟩
theorem dL_998 : dc code 998 999 .iaload 1 := ⟨dr_at drL_law_948 (i := 31) rfl, rfl⟩
theorem dL_999 : dc code 999 1000 (.aload_n 0) 1 := ⟨dr_at drL_law_948 (i := 32) rfl, rfl⟩
theorem dL_1000 : dc code 1000 1002 (.iload 4) 2 := ⟨dr_at drL_law_948 (i := 33) rfl, rfl⟩
theorem dL_1002 : dc code 1002 1003 (.iconst 2) 1 := ⟨dr_at drL_law_948 (i := 34) rfl, rfl⟩
theorem dL_1003 : dc code 1003 1004 .iadd 1 := ⟨dr_at drL_law_948 (i := 35) rfl, rfl⟩
theorem dL_1004 : dc code 1004 1005 .iaload 1 := ⟨dr_at drL_law_948 (i := 36) rfl, rfl⟩
theorem dL_1005 : dc code 1005 1008 (.ifCond .eq 7) 3 := ⟨dr_at drL_law_948 (i := 37) rfl, rfl⟩
theorem dL_1008 : dc code 1008 1009 (.iconst 1) 1 := ⟨dr_at drL_law_948 (i := 38) rfl, rfl⟩
theorem dL_1009 : dc code 1009 1012 (.goto 4) 3 := ⟨dr_at drL_law_948 (i := 39) rfl, rfl⟩
theorem dL_1012 : dc code 1012 1013 (.iconst 0) 1 := ⟨dr_at drL_law_948 (i := 40) rfl, rfl⟩
theorem dL_1013 : dc code 1013 1016 (.invokevirtual 202) 3 := ⟨dr_at drL_law_948 (i := 41) rfl, rfl⟩
theorem dL_1016 : dc code 1016 1017 .pop 1 := ⟨dr_at drL_law_948 (i := 42) rfl, rfl⟩
theorem dL_1017 : dc code 1017 1018 (.aload_n 2) 1 := ⟨dr_at drL_law_948 (i := 43) rfl, rfl⟩
theorem dL_1018 : dc code 1018 1019 (.aload_n 0) 1 := ⟨dr_at drL_law_948 (i := 44) rfl, rfl⟩
theorem dL_1019 : dc code 1019 1021 (.iload 4) 2 := ⟨dr_at drL_law_948 (i := 45) rfl, rfl⟩
theorem dL_1021 : dc code 1021 1022 (.iconst 1) 1 := ⟨dr_at drL_law_948 (i := 46) rfl, rfl⟩
theorem dL_1022 : dc code 1022 1023 .iadd 1 := ⟨dr_at drL_law_948 (i := 47) rfl, rfl⟩
theorem dL_1023 : dc code 1023 1024 .iaload 1 := ⟨dr_at drL_law_948 (i := 48) rfl, rfl⟩
theorem dL_1024 : dc code 1024 1025 (.aload_n 0) 1 := ⟨dr_at drL_law_948 (i := 49) rfl, rfl⟩
theorem dL_1025 : dc code 1025 1027 (.iload 4) 2 := ⟨dr_at drL_law_948 (i := 50) rfl, rfl⟩
theorem dL_1027 : dc code 1027 1028 (.iconst 2) 1 := ⟨dr_at drL_law_948 (i := 51) rfl, rfl⟩
theorem dL_1028 : dc code 1028 1029 .iadd 1 := ⟨dr_at drL_law_948 (i := 52) rfl, rfl⟩
theorem dL_1029 : dc code 1029 1030 .iaload 1 := ⟨dr_at drL_law_948 (i := 53) rfl, rfl⟩
theorem dL_1030 : dc code 1030 1033 (.ifCond .eq 7) 3 := ⟨dr_at drL_law_948 (i := 54) rfl, rfl⟩
theorem dL_1033 : dc code 1033 1034 (.iconst 1) 1 := ⟨dr_at drL_law_948 (i := 55) rfl, rfl⟩
theorem dL_1034 : dc code 1034 1037 (.goto 4) 3 := ⟨dr_at drL_law_948 (i := 56) rfl, rfl⟩
theorem dL_1037 : dc code 1037 1038 (.iconst 0) 1 := ⟨dr_at drL_law_948 (i := 57) rfl, rfl⟩
theorem dL_1038 : dc code 1038 1041 (.invokevirtual 205) 3 := ⟨dr_at drL_law_948 (i := 58) rfl, rfl⟩
theorem dL_1041 : dc code 1041 1042 .pop 1 := ⟨dr_at drL_law_948 (i := 59) rfl, rfl⟩
theorem dL_1042 : dc code 1042 1045 (.goto 956) 3 := ⟨dr_at drL_law_948 (i := 60) rfl, rfl⟩
theorem dL_1045 : dc code 1045 1046 (.aload_n 1) 1 := ⟨dr_at drL_law_948 (i := 61) rfl, rfl⟩
theorem dL_1046 : dc code 1046 1047 (.aload_n 0) 1 := ⟨dr_at drL_law_948 (i := 62) rfl, rfl⟩
theorem dL_1047 : dc code 1047 1049 (.iload 4) 2 := ⟨dr_at drL_law_948 (i := 63) rfl, rfl⟩
theorem dL_1049 : dc code 1049 1050 (.iconst 1) 1 := ⟨dr_at drL_law_948 (i := 64) rfl, rfl⟩
theorem dL_1050 : dc code 1050 1051 .iadd 1 := ⟨dr_at drL_law_948 (i := 65) rfl, rfl⟩
theorem dL_1051 : dc code 1051 1052 .iaload 1 := ⟨dr_at drL_law_948 (i := 66) rfl, rfl⟩
theorem dL_1052 : dc code 1052 1053 (.aload_n 0) 1 := ⟨dr_at drL_law_948 (i := 67) rfl, rfl⟩
theorem dL_1053 : dc code 1053 1055 (.iload 4) 2 := ⟨dr_at drL_law_948 (i := 68) rfl, rfl⟩
theorem dL_1055 : dc code 1055 1056 (.iconst 2) 1 := ⟨dr_at drL_law_948 (i := 69) rfl, rfl⟩
theorem dL_1056 : dc code 1056 1057 .iadd 1 := ⟨dr_at drL_law_948 (i := 70) rfl, rfl⟩
theorem dL_1057 : dc code 1057 1058 .iaload 1 := ⟨dr_at drL_law_948 (i := 71) rfl, rfl⟩
theorem dL_1058 : dc code 1058 1059 (.aload_n 0) 1 := ⟨dr_at drL_law_948 (i := 72) rfl, rfl⟩
theorem dL_1059 : dc code 1059 1061 (.iload 4) 2 := ⟨dr_at drL_law_948 (i := 73) rfl, rfl⟩
theorem dL_1061 : dc code 1061 1062 (.iconst 3) 1 := ⟨dr_at drL_law_948 (i := 74) rfl, rfl⟩
theorem dL_1062 : dc code 1062 1063 .iadd 1 := ⟨dr_at drL_law_948 (i := 75) rfl, rfl⟩
theorem dL_1063 : dc code 1063 1064 .iaload 1 := ⟨dr_at drL_law_948 (i := 76) rfl, rfl⟩
theorem dL_1064 : dc code 1064 1065 (.aload_n 0) 1 := ⟨dr_at drL_law_948 (i := 77) rfl, rfl⟩
theorem dL_1065 : dc code 1065 1067 (.iload 4) 2 := ⟨dr_at drL_law_948 (i := 78) rfl, rfl⟩
theorem dL_1067 : dc code 1067 1068 (.iconst 4) 1 := ⟨dr_at drL_law_948 (i := 79) rfl, rfl⟩
theorem dL_1068 : dc code 1068 1069 .iadd 1 := ⟨dr_at drL_law_948 (i := 80) rfl, rfl⟩
theorem dL_1069 : dc code 1069 1070 .iaload 1 := ⟨dr_at drL_law_948 (i := 81) rfl, rfl⟩
theorem dL_1070 : dc code 1070 1073 (.ifCond .eq 7) 3 := ⟨dr_at drL_law_948 (i := 82) rfl, rfl⟩
theorem dL_1073 : dc code 1073 1074 (.iconst 1) 1 := ⟨dr_at drL_law_948 (i := 83) rfl, rfl⟩
theorem drL_law_1074 : ([(1074, (.goto 4), 3), (1077, (.iconst 0), 1), (1078, (.aload_n 3), 1), (1079, (.invokestatic 206), 3), (1082, (.istore 5), 2), (1084, (.aload_n 2), 1), (1085, (.aload_n 0), 1), (1086, (.iload 4), 2), (1088, (.iconst 1), 1), (1089, .iadd, 1), (1090, .iaload, 1), (1091, (.aload_n 0), 1), (1092, (.iload 4), 2), (1094, (.iconst 2), 1), (1095, .iadd, 1), (1096, .iaload, 1), (1097, (.aload_n 0), 1), (1098, (.iload 4), 2), (1100, (.iconst 3), 1), (1101, .iadd, 1), (1102, .iaload, 1), (1103, (.aload_n 0), 1), (1104, (.iload 4), 2), (1106, (.iconst 4), 1), (1107, .iadd, 1), (1108, .iaload, 1), (1109, (.ifCond .eq 7), 3), (1112, (.iconst 1), 1), (1113, (.goto 4), 3), (1116, (.iconst 0), 1), (1117, (.invokevirtual 208), 3), (1120, (.istore 6), 2), (1122, (.goto 876), 3), (1125, (.aload_n 1), 1), (1126, (.aload_n 0), 1), (1127, (.iload 4), 2), (1129, (.iconst 1), 1), (1130, .iadd, 1), (1131, .iaload, 1), (1132, (.aload_n 0), 1), (1133, (.iload 4), 2), (1135, (.iconst 2), 1), (1136, .iadd, 1), (1137, .iaload, 1), (1138, (.aload_n 0), 1), (1139, (.iload 4), 2), (1141, (.iconst 3), 1), (1142, .iadd, 1), (1143, .iaload, 1), (1144, (.aload_n 0), 1), (1145, (.iload 4), 2), (1147, (.iconst 4), 1), (1148, .iadd, 1), (1149, .iaload, 1), (1150, (.aload_n 3), 1), (1151, (.invokestatic 209), 3), (1154, (.istore 5), 2), (1156, (.aload_n 2), 1), (1157, (.aload_n 0), 1), (1158, (.iload 4), 2), (1160, (.iconst 1), 1), (1161, .iadd, 1), (1162, .iaload, 1), (1163, (.aload_n 0), 1), (1164, (.iload 4), 2), (1166, (.iconst 2), 1), (1167, .iadd, 1), (1168, .iaload, 1), (1169, (.aload_n 0), 1), (1170, (.iload 4), 2), (1172, (.iconst 3), 1), (1173, .iadd, 1), (1174, .iaload, 1), (1175, (.aload_n 0), 1)] : List (Nat × Instr × Nat)).all (fun q => decide (decode code q.1 = .ok q.2)) = true := by decide +kernel
theorem dL_1074 : dc code 1074 1077 (.goto 4) 3 := ⟨dr_at drL_law_1074 (i := 0) rfl, rfl⟩
theorem dL_1077 : dc code 1077 1078 (.iconst 0) 1 := ⟨dr_at drL_law_1074 (i := 1) rfl, rfl⟩
theorem dL_1078 : dc code 1078 1079 (.aload_n 3) 1 := ⟨dr_at drL_law_1074 (i := 2) rfl, rfl⟩
theorem dL_1079 : dc code 1079 1082 (.invokestatic 206) 3 := ⟨dr_at drL_law_1074 (i := 3) rfl, rfl⟩
theorem dL_1082 : dc code 1082 1084 (.istore 5) 2 := ⟨dr_at drL_law_1074 (i := 4) rfl, rfl⟩
theorem dL_1084 : dc code 1084 1085 (.aload_n 2) 1 := ⟨dr_at drL_law_1074 (i := 5) rfl, rfl⟩
theorem dL_1085 : dc code 1085 1086 (.aload_n 0) 1 := ⟨dr_at drL_law_1074 (i := 6) rfl, rfl⟩
theorem dL_1086 : dc code 1086 1088 (.iload 4) 2 := ⟨dr_at drL_law_1074 (i := 7) rfl, rfl⟩
theorem dL_1088 : dc code 1088 1089 (.iconst 1) 1 := ⟨dr_at drL_law_1074 (i := 8) rfl, rfl⟩
theorem dL_1089 : dc code 1089 1090 .iadd 1 := ⟨dr_at drL_law_1074 (i := 9) rfl, rfl⟩
theorem dL_1090 : dc code 1090 1091 .iaload 1 := ⟨dr_at drL_law_1074 (i := 10) rfl, rfl⟩
theorem dL_1091 : dc code 1091 1092 (.aload_n 0) 1 := ⟨dr_at drL_law_1074 (i := 11) rfl, rfl⟩
theorem dL_1092 : dc code 1092 1094 (.iload 4) 2 := ⟨dr_at drL_law_1074 (i := 12) rfl, rfl⟩
theorem dL_1094 : dc code 1094 1095 (.iconst 2) 1 := ⟨dr_at drL_law_1074 (i := 13) rfl, rfl⟩
theorem dL_1095 : dc code 1095 1096 .iadd 1 := ⟨dr_at drL_law_1074 (i := 14) rfl, rfl⟩
theorem dL_1096 : dc code 1096 1097 .iaload 1 := ⟨dr_at drL_law_1074 (i := 15) rfl, rfl⟩
theorem dL_1097 : dc code 1097 1098 (.aload_n 0) 1 := ⟨dr_at drL_law_1074 (i := 16) rfl, rfl⟩
theorem dL_1098 : dc code 1098 1100 (.iload 4) 2 := ⟨dr_at drL_law_1074 (i := 17) rfl, rfl⟩
theorem dL_1100 : dc code 1100 1101 (.iconst 3) 1 := ⟨dr_at drL_law_1074 (i := 18) rfl, rfl⟩
theorem dL_1101 : dc code 1101 1102 .iadd 1 := ⟨dr_at drL_law_1074 (i := 19) rfl, rfl⟩
theorem dL_1102 : dc code 1102 1103 .iaload 1 := ⟨dr_at drL_law_1074 (i := 20) rfl, rfl⟩
theorem dL_1103 : dc code 1103 1104 (.aload_n 0) 1 := ⟨dr_at drL_law_1074 (i := 21) rfl, rfl⟩
theorem dL_1104 : dc code 1104 1106 (.iload 4) 2 := ⟨dr_at drL_law_1074 (i := 22) rfl, rfl⟩
theorem dL_1106 : dc code 1106 1107 (.iconst 4) 1 := ⟨dr_at drL_law_1074 (i := 23) rfl, rfl⟩
theorem dL_1107 : dc code 1107 1108 .iadd 1 := ⟨dr_at drL_law_1074 (i := 24) rfl, rfl⟩
theorem dL_1108 : dc code 1108 1109 .iaload 1 := ⟨dr_at drL_law_1074 (i := 25) rfl, rfl⟩
theorem dL_1109 : dc code 1109 1112 (.ifCond .eq 7) 3 := ⟨dr_at drL_law_1074 (i := 26) rfl, rfl⟩
theorem dL_1112 : dc code 1112 1113 (.iconst 1) 1 := ⟨dr_at drL_law_1074 (i := 27) rfl, rfl⟩
theorem dL_1113 : dc code 1113 1116 (.goto 4) 3 := ⟨dr_at drL_law_1074 (i := 28) rfl, rfl⟩
theorem dL_1116 : dc code 1116 1117 (.iconst 0) 1 := ⟨dr_at drL_law_1074 (i := 29) rfl, rfl⟩
theorem dL_1117 : dc code 1117 1120 (.invokevirtual 208) 3 := ⟨dr_at drL_law_1074 (i := 30) rfl, rfl⟩
theorem dL_1120 : dc code 1120 1122 (.istore 6) 2 := ⟨dr_at drL_law_1074 (i := 31) rfl, rfl⟩
theorem dL_1122 : dc code 1122 1125 (.goto 876) 3 := ⟨dr_at drL_law_1074 (i := 32) rfl, rfl⟩
theorem dL_1125 : dc code 1125 1126 (.aload_n 1) 1 := ⟨dr_at drL_law_1074 (i := 33) rfl, rfl⟩
theorem dL_1126 : dc code 1126 1127 (.aload_n 0) 1 := ⟨dr_at drL_law_1074 (i := 34) rfl, rfl⟩
theorem dL_1127 : dc code 1127 1129 (.iload 4) 2 := ⟨dr_at drL_law_1074 (i := 35) rfl, rfl⟩
theorem dL_1129 : dc code 1129 1130 (.iconst 1) 1 := ⟨dr_at drL_law_1074 (i := 36) rfl, rfl⟩
theorem dL_1130 : dc code 1130 1131 .iadd 1 := ⟨dr_at drL_law_1074 (i := 37) rfl, rfl⟩
theorem dL_1131 : dc code 1131 1132 .iaload 1 := ⟨dr_at drL_law_1074 (i := 38) rfl, rfl⟩
theorem dL_1132 : dc code 1132 1133 (.aload_n 0) 1 := ⟨dr_at drL_law_1074 (i := 39) rfl, rfl⟩
theorem dL_1133 : dc code 1133 1135 (.iload 4) 2 := ⟨dr_at drL_law_1074 (i := 40) rfl, rfl⟩
theorem dL_1135 : dc code 1135 1136 (.iconst 2) 1 := ⟨dr_at drL_law_1074 (i := 41) rfl, rfl⟩
theorem dL_1136 : dc code 1136 1137 .iadd 1 := ⟨dr_at drL_law_1074 (i := 42) rfl, rfl⟩
theorem dL_1137 : dc code 1137 1138 .iaload 1 := ⟨dr_at drL_law_1074 (i := 43) rfl, rfl⟩
theorem dL_1138 : dc code 1138 1139 (.aload_n 0) 1 := ⟨dr_at drL_law_1074 (i := 44) rfl, rfl⟩
theorem dL_1139 : dc code 1139 1141 (.iload 4) 2 := ⟨dr_at drL_law_1074 (i := 45) rfl, rfl⟩
theorem dL_1141 : dc code 1141 1142 (.iconst 3) 1 := ⟨dr_at drL_law_1074 (i := 46) rfl, rfl⟩
theorem dL_1142 : dc code 1142 1143 .iadd 1 := ⟨dr_at drL_law_1074 (i := 47) rfl, rfl⟩
theorem dL_1143 : dc code 1143 1144 .iaload 1 := ⟨dr_at drL_law_1074 (i := 48) rfl, rfl⟩
theorem dL_1144 : dc code 1144 1145 (.aload_n 0) 1 := ⟨dr_at drL_law_1074 (i := 49) rfl, rfl⟩
theorem dL_1145 : dc code 1145 1147 (.iload 4) 2 := ⟨dr_at drL_law_1074 (i := 50) rfl, rfl⟩
theorem dL_1147 : dc code 1147 1148 (.iconst 4) 1 := ⟨dr_at drL_law_1074 (i := 51) rfl, rfl⟩
theorem dL_1148 : dc code 1148 1149 .iadd 1 := ⟨dr_at drL_law_1074 (i := 52) rfl, rfl⟩
theorem dL_1149 : dc code 1149 1150 .iaload 1 := ⟨dr_at drL_law_1074 (i := 53) rfl, rfl⟩
theorem dL_1150 : dc code 1150 1151 (.aload_n 3) 1 := ⟨dr_at drL_law_1074 (i := 54) rfl, rfl⟩
theorem dL_1151 : dc code 1151 1154 (.invokestatic 209) 3 := ⟨dr_at drL_law_1074 (i := 55) rfl, rfl⟩
theorem dL_1154 : dc code 1154 1156 (.istore 5) 2 := ⟨dr_at drL_law_1074 (i := 56) rfl, rfl⟩
theorem dL_1156 : dc code 1156 1157 (.aload_n 2) 1 := ⟨dr_at drL_law_1074 (i := 57) rfl, rfl⟩
theorem dL_1157 : dc code 1157 1158 (.aload_n 0) 1 := ⟨dr_at drL_law_1074 (i := 58) rfl, rfl⟩
theorem dL_1158 : dc code 1158 1160 (.iload 4) 2 := ⟨dr_at drL_law_1074 (i := 59) rfl, rfl⟩
theorem dL_1160 : dc code 1160 1161 (.iconst 1) 1 := ⟨dr_at drL_law_1074 (i := 60) rfl, rfl⟩
theorem dL_1161 : dc code 1161 1162 .iadd 1 := ⟨dr_at drL_law_1074 (i := 61) rfl, rfl⟩
theorem dL_1162 : dc code 1162 1163 .iaload 1 := ⟨dr_at drL_law_1074 (i := 62) rfl, rfl⟩
theorem dL_1163 : dc code 1163 1164 (.aload_n 0) 1 := ⟨dr_at drL_law_1074 (i := 63) rfl, rfl⟩
theorem dL_1164 : dc code 1164 1166 (.iload 4) 2 := ⟨dr_at drL_law_1074 (i := 64) rfl, rfl⟩
theorem dL_1166 : dc code 1166 1167 (.iconst 2) 1 := ⟨dr_at drL_law_1074 (i := 65) rfl, rfl⟩
theorem dL_1167 : dc code 1167 1168 .iadd 1 := ⟨dr_at drL_law_1074 (i := 66) rfl, rfl⟩
theorem dL_1168 : dc code 1168 1169 .iaload 1 := ⟨dr_at drL_law_1074 (i := 67) rfl, rfl⟩
theorem dL_1169 : dc code 1169 1170 (.aload_n 0) 1 := ⟨dr_at drL_law_1074 (i := 68) rfl, rfl⟩
theorem dL_1170 : dc code 1170 1172 (.iload 4) 2 := ⟨dr_at drL_law_1074 (i := 69) rfl, rfl⟩
theorem dL_1172 : dc code 1172 1173 (.iconst 3) 1 := ⟨dr_at drL_law_1074 (i := 70) rfl, rfl⟩
theorem dL_1173 : dc code 1173 1174 .iadd 1 := ⟨dr_at drL_law_1074 (i := 71) rfl, rfl⟩
theorem dL_1174 : dc code 1174 1175 .iaload 1 := ⟨dr_at drL_law_1074 (i := 72) rfl, rfl⟩
theorem dL_1175 : dc code 1175 1176 (.aload_n 0) 1 := ⟨dr_at drL_law_1074 (i := 73) rfl, rfl⟩
