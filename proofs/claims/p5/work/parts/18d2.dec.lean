theorem drL_law_791 : ([(791, (.iload 4), 2), (793, (.iconst 4), 1), (794, .iadd, 1), (795, .iaload, 1), (796, (.ifCond .eq 7), 3), (799, (.iconst 1), 1), (800, (.goto 4), 3), (803, (.iconst 0), 1), (804, (.aload_n 3), 1), (805, (.invokestatic 187), 3), (808, (.istore 5), 2), (810, (.aload_n 2), 1), (811, (.aload_n 0), 1), (812, (.iload 4), 2), (814, (.iconst 1), 1), (815, .iadd, 1), (816, .iaload, 1), (817, (.aload_n 0), 1), (818, (.iload 4), 2), (820, (.iconst 2), 1), (821, .iadd, 1), (822, .iaload, 1), (823, (.aload_n 0), 1), (824, (.iload 4), 2), (826, (.iconst 3), 1), (827, .iadd, 1), (828, .iaload, 1), (829, (.aload_n 0), 1), (830, (.iload 4), 2), (832, (.iconst 4), 1), (833, .iadd, 1), (834, .iaload, 1), (835, (.ifCond .eq 7), 3), (838, (.iconst 1), 1), (839, (.goto 4), 3), (842, (.iconst 0), 1), (843, (.invokevirtual 190), 3), (846, (.lstore 6), 2), (848, (.goto 1134), 3), (851, (.aload_n 1), 1), (852, (.aload_n 0), 1), (853, (.iload 4), 2), (855, (.iconst 1), 1), (856, .iadd, 1), (857, .iaload, 1), (858, (.aload_n 0), 1), (859, (.iload 4), 2), (861, (.iconst 2), 1), (862, .iadd, 1), (863, .iaload, 1), (864, (.ifCond .eq 7), 3), (867, (.iconst 1), 1), (868, (.goto 4), 3), (871, (.iconst 0), 1), (872, (.aload_n 3), 1), (873, (.invokestatic 191), 3), (876, (.istore 5), 2), (878, (.aload_n 2), 1), (879, (.aload_n 0), 1), (880, (.iload 4), 2), (882, (.iconst 1), 1), (883, .iadd, 1), (884, .iaload, 1), (885, (.aload_n 0), 1), (886, (.iload 4), 2), (888, (.iconst 2), 1), (889, .iadd, 1), (890, .iaload, 1), (891, (.ifCond .eq 7), 3), (894, (.iconst 1), 1), (895, (.goto 4), 3), (898, (.iconst 0), 1), (899, (.invokevirtual 194), 3), (902, (.istore 6), 2), (904, (.goto 1078), 3), (907, (.aload_n 1), 1), (908, (.aload_n 0), 1), (909, (.iload 4), 2), (911, (.iconst 1), 1), (912, .iadd, 1), (913, .iaload, 1), (914, (.aload_n 0), 1), (915, (.iload 4), 2), (917, (.iconst 2), 1), (918, .iadd, 1), (919, .iaload, 1), (920, (.ifCond .eq 7), 3), (923, (.iconst 1), 1), (924, (.goto 4), 3), (927, (.iconst 0), 1), (928, (.aload_n 3), 1), (929, (.invokestatic 195), 3), (932, (.istore 5), 2), (934, (.aload_n 2), 1), (935, (.aload_n 0), 1), (936, (.iload 4), 2), (938, (.iconst 1), 1), (939, .iadd, 1), (940, .iaload, 1), (941, (.aload_n 0), 1), (942, (.iload 4), 2)] : List (Nat × Instr × Nat)).all (fun q => decide (decode code q.1 = .ok q.2)) = true := by decide +kernel
theorem dL_791 : dc code 791 793 (.iload 4) 2 := ⟨dr_at drL_law_791 (i := 0) rfl, rfl⟩
theorem dL_793 : dc code 793 794 (.iconst 4) 1 := ⟨dr_at drL_law_791 (i := 1) rfl, rfl⟩
theorem dL_794 : dc code 794 795 .iadd 1 := ⟨dr_at drL_law_791 (i := 2) rfl, rfl⟩
theorem dL_795 : dc code 795 796 .iaload 1 := ⟨dr_at drL_law_791 (i := 3) rfl, rfl⟩
theorem dL_796 : dc code 796 799 (.ifCond .eq 7) 3 := ⟨dr_at drL_law_791 (i := 4) rfl, rfl⟩
theorem dL_799 : dc code 799 800 (.iconst 1) 1 := ⟨dr_at drL_law_791 (i := 5) rfl, rfl⟩
theorem dL_800 : dc code 800 803 (.goto 4) 3 := ⟨dr_at drL_law_791 (i := 6) rfl, rfl⟩
theorem dL_803 : dc code 803 804 (.iconst 0) 1 := ⟨dr_at drL_law_791 (i := 7) rfl, rfl⟩
theorem dL_804 : dc code 804 805 (.aload_n 3) 1 := ⟨dr_at drL_law_791 (i := 8) rfl, rfl⟩
theorem dL_805 : dc code 805 808 (.invokestatic 187) 3 := ⟨dr_at drL_law_791 (i := 9) rfl, rfl⟩
theorem dL_808 : dc code 808 810 (.istore 5) 2 := ⟨dr_at drL_law_791 (i := 10) rfl, rfl⟩
theorem dL_810 : dc code 810 811 (.aload_n 2) 1 := ⟨dr_at drL_law_791 (i := 11) rfl, rfl⟩
theorem dL_811 : dc code 811 812 (.aload_n 0) 1 := ⟨dr_at drL_law_791 (i := 12) rfl, rfl⟩
theorem dL_812 : dc code 812 814 (.iload 4) 2 := ⟨dr_at drL_law_791 (i := 13) rfl, rfl⟩
theorem dL_814 : dc code 814 815 (.iconst 1) 1 := ⟨dr_at drL_law_791 (i := 14) rfl, rfl⟩
theorem dL_815 : dc code 815 816 .iadd 1 := ⟨dr_at drL_law_791 (i := 15) rfl, rfl⟩
theorem dL_816 : dc code 816 817 .iaload 1 := ⟨dr_at drL_law_791 (i := 16) rfl, rfl⟩
theorem dL_817 : dc code 817 818 (.aload_n 0) 1 := ⟨dr_at drL_law_791 (i := 17) rfl, rfl⟩
theorem dL_818 : dc code 818 820 (.iload 4) 2 := ⟨dr_at drL_law_791 (i := 18) rfl, rfl⟩
theorem dL_820 : dc code 820 821 (.iconst 2) 1 := ⟨dr_at drL_law_791 (i := 19) rfl, rfl⟩
theorem dL_821 : dc code 821 822 .iadd 1 := ⟨dr_at drL_law_791 (i := 20) rfl, rfl⟩
theorem dL_822 : dc code 822 823 .iaload 1 := ⟨dr_at drL_law_791 (i := 21) rfl, rfl⟩
theorem dL_823 : dc code 823 824 (.aload_n 0) 1 := ⟨dr_at drL_law_791 (i := 22) rfl, rfl⟩
theorem dL_824 : dc code 824 826 (.iload 4) 2 := ⟨dr_at drL_law_791 (i := 23) rfl, rfl⟩
theorem dL_826 : dc code 826 827 (.iconst 3) 1 := ⟨dr_at drL_law_791 (i := 24) rfl, rfl⟩
theorem dL_827 : dc code 827 828 .iadd 1 := ⟨dr_at drL_law_791 (i := 25) rfl, rfl⟩
theorem dL_828 : dc code 828 829 .iaload 1 := ⟨dr_at drL_law_791 (i := 26) rfl, rfl⟩
theorem dL_829 : dc code 829 830 (.aload_n 0) 1 := ⟨dr_at drL_law_791 (i := 27) rfl, rfl⟩
theorem dL_830 : dc code 830 832 (.iload 4) 2 := ⟨dr_at drL_law_791 (i := 28) rfl, rfl⟩
theorem dL_832 : dc code 832 833 (.iconst 4) 1 := ⟨dr_at drL_law_791 (i := 29) rfl, rfl⟩
theorem dL_833 : dc code 833 834 .iadd 1 := ⟨dr_at drL_law_791 (i := 30) rfl, rfl⟩
theorem dL_834 : dc code 834 835 .iaload 1 := ⟨dr_at drL_law_791 (i := 31) rfl, rfl⟩
theorem dL_835 : dc code 835 838 (.ifCond .eq 7) 3 := ⟨dr_at drL_law_791 (i := 32) rfl, rfl⟩
theorem dL_838 : dc code 838 839 (.iconst 1) 1 := ⟨dr_at drL_law_791 (i := 33) rfl, rfl⟩
theorem dL_839 : dc code 839 842 (.goto 4) 3 := ⟨dr_at drL_law_791 (i := 34) rfl, rfl⟩
theorem dL_842 : dc code 842 843 (.iconst 0) 1 := ⟨dr_at drL_law_791 (i := 35) rfl, rfl⟩
theorem dL_843 : dc code 843 846 (.invokevirtual 190) 3 := ⟨dr_at drL_law_791 (i := 36) rfl, rfl⟩
theorem dL_846 : dc code 846 848 (.lstore 6) 2 := ⟨dr_at drL_law_791 (i := 37) rfl, rfl⟩
theorem dL_848 : dc code 848 851 (.goto 1134) 3 := ⟨dr_at drL_law_791 (i := 38) rfl, rfl⟩
theorem dL_851 : dc code 851 852 (.aload_n 1) 1 := ⟨dr_at drL_law_791 (i := 39) rfl, rfl⟩
theorem dL_852 : dc code 852 853 (.aload_n 0) 1 := ⟨dr_at drL_law_791 (i := 40) rfl, rfl⟩
theorem dL_853 : dc code 853 855 (.iload 4) 2 := ⟨dr_at drL_law_791 (i := 41) rfl, rfl⟩
theorem dL_855 : dc code 855 856 (.iconst 1) 1 := ⟨dr_at drL_law_791 (i := 42) rfl, rfl⟩
theorem dL_856 : dc code 856 857 .iadd 1 := ⟨dr_at drL_law_791 (i := 43) rfl, rfl⟩
theorem dL_857 : dc code 857 858 .iaload 1 := ⟨dr_at drL_law_791 (i := 44) rfl, rfl⟩
theorem dL_858 : dc code 858 859 (.aload_n 0) 1 := ⟨dr_at drL_law_791 (i := 45) rfl, rfl⟩
theorem dL_859 : dc code 859 861 (.iload 4) 2 := ⟨dr_at drL_law_791 (i := 46) rfl, rfl⟩
theorem dL_861 : dc code 861 862 (.iconst 2) 1 := ⟨dr_at drL_law_791 (i := 47) rfl, rfl⟩
theorem dL_862 : dc code 862 863 .iadd 1 := ⟨dr_at drL_law_791 (i := 48) rfl, rfl⟩
theorem dL_863 : dc code 863 864 .iaload 1 := ⟨dr_at drL_law_791 (i := 49) rfl, rfl⟩
theorem dL_864 : dc code 864 867 (.ifCond .eq 7) 3 := ⟨dr_at drL_law_791 (i := 50) rfl, rfl⟩
theorem dL_867 : dc code 867 868 (.iconst 1) 1 := ⟨dr_at drL_law_791 (i := 51) rfl, rfl⟩
theorem dL_868 : dc code 868 871 (.goto 4) 3 := ⟨dr_at drL_law_791 (i := 52) rfl, rfl⟩
theorem dL_871 : dc code 871 872 (.iconst 0) 1 := ⟨dr_at drL_law_791 (i := 53) rfl, rfl⟩
theorem dL_872 : dc code 872 873 (.aload_n 3) 1 := ⟨dr_at drL_law_791 (i := 54) rfl, rfl⟩
theorem dL_873 : dc code 873 876 (.invokestatic 191) 3 := ⟨dr_at drL_law_791 (i := 55) rfl, rfl⟩
theorem dL_876 : dc code 876 878 (.istore 5) 2 := ⟨dr_at drL_law_791 (i := 56) rfl, rfl⟩
theorem dL_878 : dc code 878 879 (.aload_n 2) 1 := ⟨dr_at drL_law_791 (i := 57) rfl, rfl⟩
theorem dL_879 : dc code 879 880 (.aload_n 0) 1 := ⟨dr_at drL_law_791 (i := 58) rfl, rfl⟩
theorem dL_880 : dc code 880 882 (.iload 4) 2 := ⟨dr_at drL_law_791 (i := 59) rfl, rfl⟩
theorem dL_882 : dc code 882 883 (.iconst 1) 1 := ⟨dr_at drL_law_791 (i := 60) rfl, rfl⟩
theorem dL_883 : dc code 883 884 .iadd 1 := ⟨dr_at drL_law_791 (i := 61) rfl, rfl⟩
theorem dL_884 : dc code 884 885 .iaload 1 := ⟨dr_at drL_law_791 (i := 62) rfl, rfl⟩
theorem dL_885 : dc code 885 886 (.aload_n 0) 1 := ⟨dr_at drL_law_791 (i := 63) rfl, rfl⟩
theorem dL_886 : dc code 886 888 (.iload 4) 2 := ⟨dr_at drL_law_791 (i := 64) rfl, rfl⟩
theorem dL_888 : dc code 888 889 (.iconst 2) 1 := ⟨dr_at drL_law_791 (i := 65) rfl, rfl⟩
theorem dL_889 : dc code 889 890 .iadd 1 := ⟨dr_at drL_law_791 (i := 66) rfl, rfl⟩
theorem dL_890 : dc code 890 891 .iaload 1 := ⟨dr_at drL_law_791 (i := 67) rfl, rfl⟩
theorem dL_891 : dc code 891 894 (.ifCond .eq 7) 3 := ⟨dr_at drL_law_791 (i := 68) rfl, rfl⟩
theorem dL_894 : dc code 894 895 (.iconst 1) 1 := ⟨dr_at drL_law_791 (i := 69) rfl, rfl⟩
theorem dL_895 : dc code 895 898 (.goto 4) 3 := ⟨dr_at drL_law_791 (i := 70) rfl, rfl⟩
theorem dL_898 : dc code 898 899 (.iconst 0) 1 := ⟨dr_at drL_law_791 (i := 71) rfl, rfl⟩
theorem dL_899 : dc code 899 902 (.invokevirtual 194) 3 := ⟨dr_at drL_law_791 (i := 72) rfl, rfl⟩
theorem dL_902 : dc code 902 904 (.istore 6) 2 := ⟨dr_at drL_law_791 (i := 73) rfl, rfl⟩
theorem dL_904 : dc code 904 907 (.goto 1078) 3 := ⟨dr_at drL_law_791 (i := 74) rfl, rfl⟩
theorem dL_907 : dc code 907 908 (.aload_n 1) 1 := ⟨dr_at drL_law_791 (i := 75) rfl, rfl⟩
theorem dL_908 : dc code 908 909 (.aload_n 0) 1 := ⟨dr_at drL_law_791 (i := 76) rfl, rfl⟩
theorem dL_909 : dc code 909 911 (.iload 4) 2 := ⟨dr_at drL_law_791 (i := 77) rfl, rfl⟩
theorem dL_911 : dc code 911 912 (.iconst 1) 1 := ⟨dr_at drL_law_791 (i := 78) rfl, rfl⟩
theorem dL_912 : dc code 912 913 .iadd 1 := ⟨dr_at drL_law_791 (i := 79) rfl, rfl⟩
theorem dL_913 : dc code 913 914 .iaload 1 := ⟨dr_at drL_law_791 (i := 80) rfl, rfl⟩
theorem dL_914 : dc code 914 915 (.aload_n 0) 1 := ⟨dr_at drL_law_791 (i := 81) rfl, rfl⟩
theorem dL_915 : dc code 915 917 (.iload 4) 2 := ⟨dr_at drL_law_791 (i := 82) rfl, rfl⟩
theorem dL_917 : dc code 917 918 (.iconst 2) 1 := ⟨dr_at drL_law_791 (i := 83) rfl, rfl⟩
theorem dL_918 : dc code 918 919 .iadd 1 := ⟨dr_at drL_law_791 (i := 84) rfl, rfl⟩
theorem dL_919 : dc code 919 920 .iaload 1 := ⟨dr_at drL_law_791 (i := 85) rfl, rfl⟩
theorem dL_920 : dc code 920 923 (.ifCond .eq 7) 3 := ⟨dr_at drL_law_791 (i := 86) rfl, rfl⟩
theorem dL_923 : dc code 923 924 (.iconst 1) 1 := ⟨dr_at drL_law_791 (i := 87) rfl, rfl⟩
theorem dL_924 : dc code 924 927 (.goto 4) 3 := ⟨dr_at drL_law_791 (i := 88) rfl, rfl⟩
theorem dL_927 : dc code 927 928 (.iconst 0) 1 := ⟨dr_at drL_law_791 (i := 89) rfl, rfl⟩
theorem dL_928 : dc code 928 929 (.aload_n 3) 1 := ⟨dr_at drL_law_791 (i := 90) rfl, rfl⟩
theorem dL_929 : dc code 929 932 (.invokestatic 195) 3 := ⟨dr_at drL_law_791 (i := 91) rfl, rfl⟩
theorem dL_932 : dc code 932 934 (.istore 5) 2 := ⟨dr_at drL_law_791 (i := 92) rfl, rfl⟩
theorem dL_934 : dc code 934 935 (.aload_n 2) 1 := ⟨dr_at drL_law_791 (i := 93) rfl, rfl⟩
theorem dL_935 : dc code 935 936 (.aload_n 0) 1 := ⟨dr_at drL_law_791 (i := 94) rfl, rfl⟩
theorem dL_936 : dc code 936 938 (.iload 4) 2 := ⟨dr_at drL_law_791 (i := 95) rfl, rfl⟩
theorem dL_938 : dc code 938 939 (.iconst 1) 1 := ⟨dr_at drL_law_791 (i := 96) rfl, rfl⟩
theorem dL_939 : dc code 939 940 .iadd 1 := ⟨dr_at drL_law_791 (i := 97) rfl, rfl⟩
theorem dL_940 : dc code 940 941 .iaload 1 := ⟨dr_at drL_law_791 (i := 98) rfl, rfl⟩
theorem dL_941 : dc code 941 942 (.aload_n 0) 1 := ⟨dr_at drL_law_791 (i := 99) rfl, rfl⟩
theorem dL_942 : dc code 942 944 (.iload 4) 2 := ⟨dr_at drL_law_791 (i := 100) rfl, rfl⟩
theorem drL_law_944 : ([(944, (.iconst 2), 1), (945, .iadd, 1), (946, .iaload, 1), (947, (.ifCond .eq 7), 3), (950, (.iconst 1), 1), (951, (.goto 4), 3), (954, (.iconst 0), 1), (955, (.invokevirtual 197), 3), (958, (.lstore 6), 2), (960, (.goto 1022), 3), (963, (.aload_n 1), 1), (964, (.invokevirtual 198), 3), (967, .pop, 1), (968, (.aload_n 2), 1), (969, (.invokevirtual 201), 3), (972, .pop, 1), (973, (.goto 1009), 3), (976, (.aload_n 1), 1), (977, (.aload_n 0), 1), (978, (.iload 4), 2), (980, (.iconst 1), 1), (981, .iadd, 1), (982, .iaload, 1), (983, (.aload_n 0), 1), (984, (.iload 4), 2), (986, (.iconst 2), 1), (987, .iadd, 1), (988, .iaload, 1), (989, (.ifCond .eq 7), 3), (992, (.iconst 1), 1), (993, (.goto 4), 3), (996, (.iconst 0), 1), (997, (.invokevirtual 202), 3), (1000, .pop, 1), (1001, (.aload_n 2), 1), (1002, (.aload_n 0), 1), (1003, (.iload 4), 2), (1005, (.iconst 1), 1), (1006, .iadd, 1), (1007, .iaload, 1), (1008, (.aload_n 0), 1), (1009, (.iload 4), 2), (1011, (.iconst 2), 1), (1012, .iadd, 1), (1013, .iaload, 1), (1014, (.ifCond .eq 7), 3), (1017, (.iconst 1), 1), (1018, (.goto 4), 3), (1021, (.iconst 0), 1), (1022, (.invokevirtual 205), 3), (1025, .pop, 1), (1026, (.goto 956), 3), (1029, (.aload_n 1), 1), (1030, (.aload_n 0), 1), (1031, (.iload 4), 2), (1033, (.iconst 1), 1), (1034, .iadd, 1), (1035, .iaload, 1), (1036, (.aload_n 0), 1), (1037, (.iload 4), 2), (1039, (.iconst 2), 1), (1040, .iadd, 1), (1041, .iaload, 1), (1042, (.aload_n 0), 1), (1043, (.iload 4), 2), (1045, (.iconst 3), 1), (1046, .iadd, 1), (1047, .iaload, 1), (1048, (.aload_n 0), 1), (1049, (.iload 4), 2), (1051, (.iconst 4), 1), (1052, .iadd, 1), (1053, .iaload, 1), (1054, (.ifCond .eq 7), 3), (1057, (.iconst 1), 1), (1058, (.goto 4), 3), (1061, (.iconst 0), 1), (1062, (.aload_n 3), 1), (1063, (.invokestatic 206), 3), (1066, (.istore 5), 2), (1068, (.aload_n 2), 1), (1069, (.aload_n 0), 1), (1070, (.iload 4), 2), (1072, (.iconst 1), 1)] : List (Nat × Instr × Nat)).all (fun q => decide (decode code q.1 = .ok q.2)) = true := by decide +kernel
theorem dL_944 : dc code 944 945 (.iconst 2) 1 := ⟨dr_at drL_law_944 (i := 0) rfl, rfl⟩
theorem dL_945 : dc code 945 946 .iadd 1 := ⟨dr_at drL_law_944 (i := 1) rfl, rfl⟩
theorem dL_946 : dc code 946 947 .iaload 1 := ⟨dr_at drL_law_944 (i := 2) rfl, rfl⟩
theorem dL_947 : dc code 947 950 (.ifCond .eq 7) 3 := ⟨dr_at drL_law_944 (i := 3) rfl, rfl⟩
theorem dL_950 : dc code 950 951 (.iconst 1) 1 := ⟨dr_at drL_law_944 (i := 4) rfl, rfl⟩
theorem dL_951 : dc code 951 954 (.goto 4) 3 := ⟨dr_at drL_law_944 (i := 5) rfl, rfl⟩
theorem dL_954 : dc code 954 955 (.iconst 0) 1 := ⟨dr_at drL_law_944 (i := 6) rfl, rfl⟩
theorem dL_955 : dc code 955 958 (.invokevirtual 197) 3 := ⟨dr_at drL_law_944 (i := 7) rfl, rfl⟩
theorem dL_958 : dc code 958 960 (.lstore 6) 2 := ⟨dr_at drL_law_944 (i := 8) rfl, rfl⟩
theorem dL_960 : dc code 960 963 (.goto 1022) 3 := ⟨dr_at drL_law_944 (i := 9) rfl, rfl⟩
theorem dL_963 : dc code 963 964 (.aload_n 1) 1 := ⟨dr_at drL_law_944 (i := 10) rfl, rfl⟩
theorem dL_964 : dc code 964 967 (.invokevirtual 198) 3 := ⟨dr_at drL_law_944 (i := 11) rfl, rfl⟩
theorem dL_967 : dc code 967 968 .pop 1 := ⟨dr_at drL_law_944 (i := 12) rfl, rfl⟩
theorem dL_968 : dc code 968 969 (.aload_n 2) 1 := ⟨dr_at drL_law_944 (i := 13) rfl, rfl⟩
theorem dL_969 : dc code 969 972 (.invokevirtual 201) 3 := ⟨dr_at drL_law_944 (i := 14) rfl, rfl⟩
theorem dL_972 : dc code 972 973 .pop 1 := ⟨dr_at drL_law_944 (i := 15) rfl, rfl⟩
theorem dL_973 : dc code 973 976 (.goto 1009) 3 := ⟨dr_at drL_law_944 (i := 16) rfl, rfl⟩
theorem dL_976 : dc code 976 977 (.aload_n 1) 1 := ⟨dr_at drL_law_944 (i := 17) rfl, rfl⟩
theorem dL_977 : dc code 977 978 (.aload_n 0) 1 := ⟨dr_at drL_law_944 (i := 18) rfl, rfl⟩
theorem dL_978 : dc code 978 980 (.iload 4) 2 := ⟨dr_at drL_law_944 (i := 19) rfl, rfl⟩
theorem dL_980 : dc code 980 981 (.iconst 1) 1 := ⟨dr_at drL_law_944 (i := 20) rfl, rfl⟩
theorem dL_981 : dc code 981 982 .iadd 1 := ⟨dr_at drL_law_944 (i := 21) rfl, rfl⟩
theorem dL_982 : dc code 982 983 .iaload 1 := ⟨dr_at drL_law_944 (i := 22) rfl, rfl⟩
theorem dL_983 : dc code 983 984 (.aload_n 0) 1 := ⟨dr_at drL_law_944 (i := 23) rfl, rfl⟩
theorem dL_984 : dc code 984 986 (.iload 4) 2 := ⟨dr_at drL_law_944 (i := 24) rfl, rfl⟩
theorem dL_986 : dc code 986 987 (.iconst 2) 1 := ⟨dr_at drL_law_944 (i := 25) rfl, rfl⟩
theorem dL_987 : dc code 987 988 .iadd 1 := ⟨dr_at drL_law_944 (i := 26) rfl, rfl⟩
theorem dL_988 : dc code 988 989 .iaload 1 := ⟨dr_at drL_law_944 (i := 27) rfl, rfl⟩
theorem dL_989 : dc code 989 992 (.ifCond .eq 7) 3 := ⟨dr_at drL_law_944 (i := 28) rfl, rfl⟩
theorem dL_992 : dc code 992 993 (.iconst 1) 1 := ⟨dr_at drL_law_944 (i := 29) rfl, rfl⟩
theorem dL_993 : dc code 993 996 (.goto 4) 3 := ⟨dr_at drL_law_944 (i := 30) rfl, rfl⟩
theorem dL_996 : dc code 996 997 (.iconst 0) 1 := ⟨dr_at drL_law_944 (i := 31) rfl, rfl⟩
theorem dL_997 : dc code 997 1000 (.invokevirtual 202) 3 := ⟨dr_at drL_law_944 (i := 32) rfl, rfl⟩
theorem dL_1000 : dc code 1000 1001 .pop 1 := ⟨dr_at drL_law_944 (i := 33) rfl, rfl⟩
theorem dL_1001 : dc code 1001 1002 (.aload_n 2) 1 := ⟨dr_at drL_law_944 (i := 34) rfl, rfl⟩
theorem dL_1002 : dc code 1002 1003 (.aload_n 0) 1 := ⟨dr_at drL_law_944 (i := 35) rfl, rfl⟩
theorem dL_1003 : dc code 1003 1005 (.iload 4) 2 := ⟨dr_at drL_law_944 (i := 36) rfl, rfl⟩
theorem dL_1005 : dc code 1005 1006 (.iconst 1) 1 := ⟨dr_at drL_law_944 (i := 37) rfl, rfl⟩
theorem dL_1006 : dc code 1006 1007 .iadd 1 := ⟨dr_at drL_law_944 (i := 38) rfl, rfl⟩
theorem dL_1007 : dc code 1007 1008 .iaload 1 := ⟨dr_at drL_law_944 (i := 39) rfl, rfl⟩
theorem dL_1008 : dc code 1008 1009 (.aload_n 0) 1 := ⟨dr_at drL_law_944 (i := 40) rfl, rfl⟩
theorem dL_1009 : dc code 1009 1011 (.iload 4) 2 := ⟨dr_at drL_law_944 (i := 41) rfl, rfl⟩
theorem dL_1011 : dc code 1011 1012 (.iconst 2) 1 := ⟨dr_at drL_law_944 (i := 42) rfl, rfl⟩
theorem dL_1012 : dc code 1012 1013 .iadd 1 := ⟨dr_at drL_law_944 (i := 43) rfl, rfl⟩
theorem dL_1013 : dc code 1013 1014 .iaload 1 := ⟨dr_at drL_law_944 (i := 44) rfl, rfl⟩
theorem dL_1014 : dc code 1014 1017 (.ifCond .eq 7) 3 := ⟨dr_at drL_law_944 (i := 45) rfl, rfl⟩
theorem dL_1017 : dc code 1017 1018 (.iconst 1) 1 := ⟨dr_at drL_law_944 (i := 46) rfl, rfl⟩
theorem dL_1018 : dc code 1018 1021 (.goto 4) 3 := ⟨dr_at drL_law_944 (i := 47) rfl, rfl⟩
theorem dL_1021 : dc code 1021 1022 (.iconst 0) 1 := ⟨dr_at drL_law_944 (i := 48) rfl, rfl⟩
theorem dL_1022 : dc code 1022 1025 (.invokevirtual 205) 3 := ⟨dr_at drL_law_944 (i := 49) rfl, rfl⟩
theorem dL_1025 : dc code 1025 1026 .pop 1 := ⟨dr_at drL_law_944 (i := 50) rfl, rfl⟩
theorem dL_1026 : dc code 1026 1029 (.goto 956) 3 := ⟨dr_at drL_law_944 (i := 51) rfl, rfl⟩
theorem dL_1029 : dc code 1029 1030 (.aload_n 1) 1 := ⟨dr_at drL_law_944 (i := 52) rfl, rfl⟩
theorem dL_1030 : dc code 1030 1031 (.aload_n 0) 1 := ⟨dr_at drL_law_944 (i := 53) rfl, rfl⟩
theorem dL_1031 : dc code 1031 1033 (.iload 4) 2 := ⟨dr_at drL_law_944 (i := 54) rfl, rfl⟩
theorem dL_1033 : dc code 1033 1034 (.iconst 1) 1 := ⟨dr_at drL_law_944 (i := 55) rfl, rfl⟩
theorem dL_1034 : dc code 1034 1035 .iadd 1 := ⟨dr_at drL_law_944 (i := 56) rfl, rfl⟩
theorem dL_1035 : dc code 1035 1036 .iaload 1 := ⟨dr_at drL_law_944 (i := 57) rfl, rfl⟩
theorem dL_1036 : dc code 1036 1037 (.aload_n 0) 1 := ⟨dr_at drL_law_944 (i := 58) rfl, rfl⟩
theorem dL_1037 : dc code 1037 1039 (.iload 4) 2 := ⟨dr_at drL_law_944 (i := 59) rfl, rfl⟩
theorem dL_1039 : dc code 1039 1040 (.iconst 2) 1 := ⟨dr_at drL_law_944 (i := 60) rfl, rfl⟩
theorem dL_1040 : dc code 1040 1041 .iadd 1 := ⟨dr_at drL_law_944 (i := 61) rfl, rfl⟩
theorem dL_1041 : dc code 1041 1042 .iaload 1 := ⟨dr_at drL_law_944 (i := 62) rfl, rfl⟩
theorem dL_1042 : dc code 1042 1043 (.aload_n 0) 1 := ⟨dr_at drL_law_944 (i := 63) rfl, rfl⟩
theorem dL_1043 : dc code 1043 1045 (.iload 4) 2 := ⟨dr_at drL_law_944 (i := 64) rfl, rfl⟩
theorem dL_1045 : dc code 1045 1046 (.iconst 3) 1 := ⟨dr_at drL_law_944 (i := 65) rfl, rfl⟩
theorem dL_1046 : dc code 1046 1047 .iadd 1 := ⟨dr_at drL_law_944 (i := 66) rfl, rfl⟩
theorem dL_1047 : dc code 1047 1048 .iaload 1 := ⟨dr_at drL_law_944 (i := 67) rfl, rfl⟩
theorem dL_1048 : dc code 1048 1049 (.aload_n 0) 1 := ⟨dr_at drL_law_944 (i := 68) rfl, rfl⟩
theorem dL_1049 : dc code 1049 1051 (.iload 4) 2 := ⟨dr_at drL_law_944 (i := 69) rfl, rfl⟩
theorem dL_1051 : dc code 1051 1052 (.iconst 4) 1 := ⟨dr_at drL_law_944 (i := 70) rfl, rfl⟩
theorem dL_1052 : dc code 1052 1053 .iadd 1 := ⟨dr_at drL_law_944 (i := 71) rfl, rfl⟩
theorem dL_1053 : dc code 1053 1054 .iaload 1 := ⟨dr_at drL_law_944 (i := 72) rfl, rfl⟩
theorem dL_1054 : dc code 1054 1057 (.ifCond .eq 7) 3 := ⟨dr_at drL_law_944 (i := 73) rfl, rfl⟩
theorem dL_1057 : dc code 1057 1058 (.iconst 1) 1 := ⟨dr_at drL_law_944 (i := 74) rfl, rfl⟩
theorem dL_1058 : dc code 1058 1061 (.goto 4) 3 := ⟨dr_at drL_law_944 (i := 75) rfl, rfl⟩
theorem dL_1061 : dc code 1061 1062 (.iconst 0) 1 := ⟨dr_at drL_law_944 (i := 76) rfl, rfl⟩
theorem dL_1062 : dc code 1062 1063 (.aload_n 3) 1 := ⟨dr_at drL_law_944 (i := 77) rfl, rfl⟩
theorem dL_1063 : dc code 1063 1066 (.invokestatic 206) 3 := ⟨dr_at drL_law_944 (i := 78) rfl, rfl⟩
theorem dL_1066 : dc code 1066 1068 (.istore 5) 2 := ⟨dr_at drL_law_944 (i := 79) rfl, rfl⟩
theorem dL_1068 : dc code 1068 1069 (.aload_n 2) 1 := ⟨dr_at drL_law_944 (i := 80) rfl, rfl⟩
theorem dL_1069 : dc code 1069 1070 (.aload_n 0) 1 := ⟨dr_at drL_law_944 (i := 81) rfl, rfl⟩
theorem dL_1070 : dc code 1070 1072 (.iload 4) 2 := ⟨dr_at drL_law_944 (i := 82) rfl, rfl⟩
theorem dL_1072 : dc code 1072 1073 (.iconst 1) 1 := ⟨dr_at drL_law_944 (i := 83) rfl, rfl⟩
theorem drL_law_1073 : ([(1073, .iadd, 1), (1074, .iaload, 1), (1075, (.aload_n 0), 1), (1076, (.iload 4), 2), (1078, (.iconst 2), 1), (1079, .iadd, 1), (1080, .iaload, 1), (1081, (.aload_n 0), 1), (1082, (.iload 4), 2), (1084, (.iconst 3), 1), (1085, .iadd, 1), (1086, .iaload, 1), (1087, (.aload_n 0), 1), (1088, (.iload 4), 2), (1090, (.iconst 4), 1), (1091, .iadd, 1), (1092, .iaload, 1), (1093, (.ifCond .eq 7), 3), (1096, (.iconst 1), 1), (1097, (.goto 4), 3), (1100, (.iconst 0), 1), (1101, (.invokevirtual 208), 3), (1104, (.istore 6), 2), (1106, (.goto 876), 3), (1109, (.aload_n 1), 1), (1110, (.aload_n 0), 1), (1111, (.iload 4), 2), (1113, (.iconst 1), 1), (1114, .iadd, 1), (1115, .iaload, 1), (1116, (.aload_n 0), 1), (1117, (.iload 4), 2), (1119, (.iconst 2), 1), (1120, .iadd, 1), (1121, .iaload, 1), (1122, (.aload_n 0), 1), (1123, (.iload 4), 2), (1125, (.iconst 3), 1), (1126, .iadd, 1), (1127, .iaload, 1), (1128, (.aload_n 0), 1), (1129, (.iload 4), 2), (1131, (.iconst 4), 1), (1132, .iadd, 1), (1133, .iaload, 1), (1134, (.aload_n 3), 1), (1135, (.invokestatic 209), 3), (1138, (.istore 5), 2), (1140, (.aload_n 2), 1), (1141, (.aload_n 0), 1), (1142, (.iload 4), 2), (1144, (.iconst 1), 1), (1145, .iadd, 1), (1146, .iaload, 1), (1147, (.aload_n 0), 1), (1148, (.iload 4), 2), (1150, (.iconst 2), 1), (1151, .iadd, 1), (1152, .iaload, 1), (1153, (.aload_n 0), 1), (1154, (.iload 4), 2), (1156, (.iconst 3), 1), (1157, .iadd, 1), (1158, .iaload, 1), (1159, (.aload_n 0), 1), (1160, (.iload 4), 2), (1162, (.iconst 4), 1), (1163, .iadd, 1), (1164, .iaload, 1), (1165, (.invokevirtual 212), 3), (1168, (.istore 6), 2), (1170, (.goto 812), 3), (1173, (.aload_n 1), 1), (1174, (.aload_n 0), 1)] : List (Nat × Instr × Nat)).all (fun q => decide (decode code q.1 = .ok q.2)) = true := by decide +kernel
theorem dL_1073 : dc code 1073 1074 .iadd 1 := ⟨dr_at drL_law_1073 (i := 0) rfl, rfl⟩
theorem dL_1074 : dc code 1074 1075 .iaload 1 := ⟨dr_at drL_law_1073 (i := 1) rfl, rfl⟩
theorem dL_1075 : dc code 1075 1076 (.aload_n 0) 1 := ⟨dr_at drL_law_1073 (i := 2) rfl, rfl⟩
theorem dL_1076 : dc code 1076 1078 (.iload 4) 2 := ⟨dr_at drL_law_1073 (i := 3) rfl, rfl⟩
theorem dL_1078 : dc code 1078 1079 (.iconst 2) 1 := ⟨dr_at drL_law_1073 (i := 4) rfl, rfl⟩
theorem dL_1079 : dc code 1079 1080 .iadd 1 := ⟨dr_at drL_law_1073 (i := 5) rfl, rfl⟩
theorem dL_1080 : dc code 1080 1081 .iaload 1 := ⟨dr_at drL_law_1073 (i := 6) rfl, rfl⟩
theorem dL_1081 : dc code 1081 1082 (.aload_n 0) 1 := ⟨dr_at drL_law_1073 (i := 7) rfl, rfl⟩
theorem dL_1082 : dc code 1082 1084 (.iload 4) 2 := ⟨dr_at drL_law_1073 (i := 8) rfl, rfl⟩
theorem dL_1084 : dc code 1084 1085 (.iconst 3) 1 := ⟨dr_at drL_law_1073 (i := 9) rfl, rfl⟩
theorem dL_1085 : dc code 1085 1086 .iadd 1 := ⟨dr_at drL_law_1073 (i := 10) rfl, rfl⟩
theorem dL_1086 : dc code 1086 1087 .iaload 1 := ⟨dr_at drL_law_1073 (i := 11) rfl, rfl⟩
theorem dL_1087 : dc code 1087 1088 (.aload_n 0) 1 := ⟨dr_at drL_law_1073 (i := 12) rfl, rfl⟩
theorem dL_1088 : dc code 1088 1090 (.iload 4) 2 := ⟨dr_at drL_law_1073 (i := 13) rfl, rfl⟩
theorem dL_1090 : dc code 1090 1091 (.iconst 4) 1 := ⟨dr_at drL_law_1073 (i := 14) rfl, rfl⟩
theorem dL_1091 : dc code 1091 1092 .iadd 1 := ⟨dr_at drL_law_1073 (i := 15) rfl, rfl⟩
theorem dL_1092 : dc code 1092 1093 .iaload 1 := ⟨dr_at drL_law_1073 (i := 16) rfl, rfl⟩
theorem dL_1093 : dc code 1093 1096 (.ifCond .eq 7) 3 := ⟨dr_at drL_law_1073 (i := 17) rfl, rfl⟩
theorem dL_1096 : dc code 1096 1097 (.iconst 1) 1 := ⟨dr_at drL_law_1073 (i := 18) rfl, rfl⟩
theorem dL_1097 : dc code 1097 1100 (.goto 4) 3 := ⟨dr_at drL_law_1073 (i := 19) rfl, rfl⟩
theorem dL_1100 : dc code 1100 1101 (.iconst 0) 1 := ⟨dr_at drL_law_1073 (i := 20) rfl, rfl⟩
theorem dL_1101 : dc code 1101 1104 (.invokevirtual 208) 3 := ⟨dr_at drL_law_1073 (i := 21) rfl, rfl⟩
theorem dL_1104 : dc code 1104 1106 (.istore 6) 2 := ⟨dr_at drL_law_1073 (i := 22) rfl, rfl⟩
theorem dL_1106 : dc code 1106 1109 (.goto 876) 3 := ⟨dr_at drL_law_1073 (i := 23) rfl, rfl⟩
theorem dL_1109 : dc code 1109 1110 (.aload_n 1) 1 := ⟨dr_at drL_law_1073 (i := 24) rfl, rfl⟩
theorem dL_1110 : dc code 1110 1111 (.aload_n 0) 1 := ⟨dr_at drL_law_1073 (i := 25) rfl, rfl⟩
theorem dL_1111 : dc code 1111 1113 (.iload 4) 2 := ⟨dr_at drL_law_1073 (i := 26) rfl, rfl⟩
theorem dL_1113 : dc code 1113 1114 (.iconst 1) 1 := ⟨dr_at drL_law_1073 (i := 27) rfl, rfl⟩
theorem dL_1114 : dc code 1114 1115 .iadd 1 := ⟨dr_at drL_law_1073 (i := 28) rfl, rfl⟩
theorem dL_1115 : dc code 1115 1116 .iaload 1 := ⟨dr_at drL_law_1073 (i := 29) rfl, rfl⟩
theorem dL_1116 : dc code 1116 1117 (.aload_n 0) 1 := ⟨dr_at drL_law_1073 (i := 30) rfl, rfl⟩
theorem dL_1117 : dc code 1117 1119 (.iload 4) 2 := ⟨dr_at drL_law_1073 (i := 31) rfl, rfl⟩
theorem dL_1119 : dc code 1119 1120 (.iconst 2) 1 := ⟨dr_at drL_law_1073 (i := 32) rfl, rfl⟩
theorem dL_1120 : dc code 1120 1121 .iadd 1 := ⟨dr_at drL_law_1073 (i := 33) rfl, rfl⟩
theorem dL_1121 : dc code 1121 1122 .iaload 1 := ⟨dr_at drL_law_1073 (i := 34) rfl, rfl⟩
theorem dL_1122 : dc code 1122 1123 (.aload_n 0) 1 := ⟨dr_at drL_law_1073 (i := 35) rfl, rfl⟩
theorem dL_1123 : dc code 1123 1125 (.iload 4) 2 := ⟨dr_at drL_law_1073 (i := 36) rfl, rfl⟩
theorem dL_1125 : dc code 1125 1126 (.iconst 3) 1 := ⟨dr_at drL_law_1073 (i := 37) rfl, rfl⟩
theorem dL_1126 : dc code 1126 1127 .iadd 1 := ⟨dr_at drL_law_1073 (i := 38) rfl, rfl⟩
theorem dL_1127 : dc code 1127 1128 .iaload 1 := ⟨dr_at drL_law_1073 (i := 39) rfl, rfl⟩
theorem dL_1128 : dc code 1128 1129 (.aload_n 0) 1 := ⟨dr_at drL_law_1073 (i := 40) rfl, rfl⟩
theorem dL_1129 : dc code 1129 1131 (.iload 4) 2 := ⟨dr_at drL_law_1073 (i := 41) rfl, rfl⟩
theorem dL_1131 : dc code 1131 1132 (.iconst 4) 1 := ⟨dr_at drL_law_1073 (i := 42) rfl, rfl⟩
theorem dL_1132 : dc code 1132 1133 .iadd 1 := ⟨dr_at drL_law_1073 (i := 43) rfl, rfl⟩
theorem dL_1133 : dc code 1133 1134 .iaload 1 := ⟨dr_at drL_law_1073 (i := 44) rfl, rfl⟩
theorem dL_1134 : dc code 1134 1135 (.aload_n 3) 1 := ⟨dr_at drL_law_1073 (i := 45) rfl, rfl⟩
theorem dL_1135 : dc code 1135 1138 (.invokestatic 209) 3 := ⟨dr_at drL_law_1073 (i := 46) rfl, rfl⟩
theorem dL_1138 : dc code 1138 1140 (.istore 5) 2 := ⟨dr_at drL_law_1073 (i := 47) rfl, rfl⟩
theorem dL_1140 : dc code 1140 1141 (.aload_n 2) 1 := ⟨dr_at drL_law_1073 (i := 48) rfl, rfl⟩
theorem dL_1141 : dc code 1141 1142 (.aload_n 0) 1 := ⟨dr_at drL_law_1073 (i := 49) rfl, rfl⟩
theorem dL_1142 : dc code 1142 1144 (.iload 4) 2 := ⟨dr_at drL_law_1073 (i := 50) rfl, rfl⟩
theorem dL_1144 : dc code 1144 1145 (.iconst 1) 1 := ⟨dr_at drL_law_1073 (i := 51) rfl, rfl⟩
theorem dL_1145 : dc code 1145 1146 .iadd 1 := ⟨dr_at drL_law_1073 (i := 52) rfl, rfl⟩
theorem dL_1146 : dc code 1146 1147 .iaload 1 := ⟨dr_at drL_law_1073 (i := 53) rfl, rfl⟩
theorem dL_1147 : dc code 1147 1148 (.aload_n 0) 1 := ⟨dr_at drL_law_1073 (i := 54) rfl, rfl⟩
theorem dL_1148 : dc code 1148 1150 (.iload 4) 2 := ⟨dr_at drL_law_1073 (i := 55) rfl, rfl⟩
theorem dL_1150 : dc code 1150 1151 (.iconst 2) 1 := ⟨dr_at drL_law_1073 (i := 56) rfl, rfl⟩
theorem dL_1151 : dc code 1151 1152 .iadd 1 := ⟨dr_at drL_law_1073 (i := 57) rfl, rfl⟩
theorem dL_1152 : dc code 1152 1153 .iaload 1 := ⟨dr_at drL_law_1073 (i := 58) rfl, rfl⟩
theorem dL_1153 : dc code 1153 1154 (.aload_n 0) 1 := ⟨dr_at drL_law_1073 (i := 59) rfl, rfl⟩
theorem dL_1154 : dc code 1154 1156 (.iload 4) 2 := ⟨dr_at drL_law_1073 (i := 60) rfl, rfl⟩
theorem dL_1156 : dc code 1156 1157 (.iconst 3) 1 := ⟨dr_at drL_law_1073 (i := 61) rfl, rfl⟩
theorem dL_1157 : dc code 1157 1158 .iadd 1 := ⟨dr_at drL_law_1073 (i := 62) rfl, rfl⟩
theorem dL_1158 : dc code 1158 1159 .iaload 1 := ⟨dr_at drL_law_1073 (i := 63) rfl, rfl⟩
theorem dL_1159 : dc code 1159 1160 (.aload_n 0) 1 := ⟨dr_at drL_law_1073 (i := 64) rfl, rfl⟩
theorem dL_1160 : dc code 1160 1162 (.iload 4) 2 := ⟨dr_at drL_law_1073 (i := 65) rfl, rfl⟩
theorem dL_1162 : dc code 1162 1163 (.iconst 4) 1 := ⟨dr_at drL_law_1073 (i := 66) rfl, rfl⟩
theorem dL_1163 : dc code 1163 1164 .iadd 1 := ⟨dr_at drL_law_1073 (i := 67) rfl, rfl⟩
theorem dL_1164 : dc code 1164 1165 .iaload 1 := ⟨dr_at drL_law_1073 (i := 68) rfl, rfl⟩
theorem dL_1165 : dc code 1165 1168 (.invokevirtual 212) 3 := ⟨dr_at drL_law_1073 (i := 69) rfl, rfl⟩
theorem dL_1168 : dc code 1168 1170 (.istore 6) 2 := ⟨dr_at drL_law_1073 (i := 70) rfl, rfl⟩
theorem dL_1170 : dc code 1170 1173 (.goto 812) 3 := ⟨dr_at drL_law_1073 (i := 71) rfl, rfl⟩
theorem dL_1173 : dc code 1173 1174 (.aload_n 1) 1 := ⟨dr_at drL_law_1073 (i := 72) rfl, rfl⟩
theorem dL_1174 : dc code 1174 1175 (.aload_n 0) 1 := ⟨dr_at drL_law_1073 (i := 73) rfl, rfl⟩
