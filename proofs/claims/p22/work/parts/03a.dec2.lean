theorem dL_step_833 : decode cL_step 833 = .ok (.iconst 4, 1) := by decide +kernel
theorem dL_step_834 : decode cL_step 834 = .ok (.irem, 1) := by decide +kernel
theorem dL_step_835 : decode cL_step 835 = .ok (.ifCond .eq 16, 3) := by decide +kernel
theorem dL_step_838 : decode cL_step 838 = .ok (.iload 19, 2) := by decide +kernel
theorem dL_step_840 : decode cL_step 840 = .ok (.iload 6, 2) := by decide +kernel
theorem dL_step_842 : decode cL_step 842 = .ok (.iconst 4, 1) := by decide +kernel
theorem dL_step_843 : decode cL_step 843 = .ok (.idiv, 1) := by decide +kernel
theorem dL_step_844 : decode cL_step 844 = .ok (.sipush 9000, 3) := by decide +kernel
theorem dL_step_847 : decode cL_step 847 = .ok (.irem, 1) := by decide +kernel
theorem dL_step_848 : decode cL_step 848 = .ok (.if_icmp .ne 7, 3) := by decide +kernel
theorem dL_step_851 : decode cL_step 851 = .ok (.iconst 1, 1) := by decide +kernel
theorem dL_step_852 : decode cL_step 852 = .ok (.goto 4, 3) := by decide +kernel
theorem dL_step_855 : decode cL_step 855 = .ok (.iconst 0, 1) := by decide +kernel
theorem dL_step_856 : decode cL_step 856 = .ok (.ireturn, 1) := by decide +kernel
theorem dL_step_857 : decode cL_step 857 = .ok (.aload_n 0, 1) := by decide +kernel
theorem dL_step_858 : decode cL_step 858 = .ok (.iload 7, 2) := by decide +kernel
theorem dL_step_860 : decode cL_step 860 = .ok (.iload 6, 2) := by decide +kernel
theorem dL_step_862 : decode cL_step 862 = .ok (.bipush 100, 2) := by decide +kernel
theorem dL_step_864 : decode cL_step 864 = .ok (.irem, 1) := by decide +kernel
theorem dL_step_865 : decode cL_step 865 = .ok (.invokestatic 91, 3) := by decide +kernel
theorem dL_step_868 : decode cL_step 868 = .ok (.istore 20, 2) := by decide +kernel
theorem dL_step_870 : decode cL_step 870 = .ok (.aload_n 3, 1) := by decide +kernel
theorem dL_step_871 : decode cL_step 871 = .ok (.iload 7, 2) := by decide +kernel
theorem dL_step_873 : decode cL_step 873 = .ok (.dup2, 1) := by decide +kernel
theorem dL_step_874 : decode cL_step 874 = .ok (.iaload, 1) := by decide +kernel
theorem dL_step_875 : decode cL_step 875 = .ok (.iload 20, 2) := by decide +kernel
theorem dL_step_877 : decode cL_step 877 = .ok (.bipush (-2), 2) := by decide +kernel
theorem dL_step_879 : decode cL_step 879 = .ok (.if_icmp .ne 7, 3) := by decide +kernel
theorem dL_step_882 : decode cL_step 882 = .ok (.iconst 0, 1) := by decide +kernel
theorem dL_step_883 : decode cL_step 883 = .ok (.goto 4, 3) := by decide +kernel
theorem dL_step_886 : decode cL_step 886 = .ok (.iconst 1, 1) := by decide +kernel
theorem dL_step_887 : decode cL_step 887 = .ok (.iadd, 1) := by decide +kernel
theorem dL_step_888 : decode cL_step 888 = .ok (.iastore, 1) := by decide +kernel
theorem dL_step_889 : decode cL_step 889 = .ok (.iload 20, 2) := by decide +kernel
theorem dL_step_891 : decode cL_step 891 = .ok (.bipush (-2), 2) := by decide +kernel
theorem dL_step_893 : decode cL_step 893 = .ok (.if_icmp .eq 19, 3) := by decide +kernel
theorem dL_step_896 : decode cL_step 896 = .ok (.iload 20, 2) := by decide +kernel
theorem dL_step_898 : decode cL_step 898 = .ok (.aload_n 3, 1) := by decide +kernel
theorem dL_step_899 : decode cL_step 899 = .ok (.iload 7, 2) := by decide +kernel
theorem dL_step_901 : decode cL_step 901 = .ok (.iaload, 1) := by decide +kernel
theorem dL_step_902 : decode cL_step 902 = .ok (.if_icmp .ne 46, 3) := by decide +kernel
theorem dL_step_905 : decode cL_step 905 = .ok (.iload 20, 2) := by decide +kernel
theorem dL_step_907 : decode cL_step 907 = .ok (.bipush 6, 2) := by decide +kernel
theorem dL_step_909 : decode cL_step 909 = .ok (.if_icmp .gt 39, 3) := by decide +kernel
theorem dL_step_912 : decode cL_step 912 = .ok (.aload_n 0, 1) := by decide +kernel
theorem dL_step_913 : decode cL_step 913 = .ok (.iload 7, 2) := by decide +kernel
theorem dL_step_915 : decode cL_step 915 = .ok (.iload 6, 2) := by decide +kernel
theorem dL_step_917 : decode cL_step 917 = .ok (.bipush 100, 2) := by decide +kernel
theorem dL_step_919 : decode cL_step 919 = .ok (.irem, 1) := by decide +kernel
theorem dL_step_920 : decode cL_step 920 = .ok (.invokevirtual 94, 3) := by decide +kernel
theorem dL_step_923 : decode cL_step 923 = .ok (.sipush 600, 3) := by decide +kernel
theorem dL_step_926 : decode cL_step 926 = .ok (.irem, 1) := by decide +kernel
theorem dL_step_927 : decode cL_step 927 = .ok (.ifCond .ne 21, 3) := by decide +kernel
theorem dL_step_930 : decode cL_step 930 = .ok (.aload_n 0, 1) := by decide +kernel
theorem dL_step_931 : decode cL_step 931 = .ok (.iload 7, 2) := by decide +kernel
theorem dL_step_933 : decode cL_step 933 = .ok (.iload 6, 2) := by decide +kernel
theorem dL_step_935 : decode cL_step 935 = .ok (.bipush 100, 2) := by decide +kernel
theorem dL_step_937 : decode cL_step 937 = .ok (.irem, 1) := by decide +kernel
theorem dL_step_938 : decode cL_step 938 = .ok (.invokevirtual 94, 3) := by decide +kernel
theorem dL_step_941 : decode cL_step 941 = .ok (.ifCond .ne 7, 3) := by decide +kernel
theorem dL_step_944 : decode cL_step 944 = .ok (.iconst 1, 1) := by decide +kernel
theorem dL_step_945 : decode cL_step 945 = .ok (.goto 4, 3) := by decide +kernel
theorem dL_step_948 : decode cL_step 948 = .ok (.iconst 0, 1) := by decide +kernel
theorem dL_step_949 : decode cL_step 949 = .ok (.ireturn, 1) := by decide +kernel
theorem dL_step_950 : decode cL_step 950 = .ok (.aload_n 0, 1) := by decide +kernel
theorem dL_step_951 : decode cL_step 951 = .ok (.iload 7, 2) := by decide +kernel
theorem dL_step_953 : decode cL_step 953 = .ok (.iload 6, 2) := by decide +kernel
theorem dL_step_955 : decode cL_step 955 = .ok (.bipush 100, 2) := by decide +kernel
theorem dL_step_957 : decode cL_step 957 = .ok (.irem, 1) := by decide +kernel
theorem dL_step_958 : decode cL_step 958 = .ok (.invokevirtual 94, 3) := by decide +kernel
theorem dL_step_961 : decode cL_step 961 = .ok (.istore 21, 2) := by decide +kernel
theorem dL_step_963 : decode cL_step 963 = .ok (.iload 21, 2) := by decide +kernel
theorem dL_step_965 : decode cL_step 965 = .ok (.ifCond .eq 11, 3) := by decide +kernel
theorem dL_step_968 : decode cL_step 968 = .ok (.iload 21, 2) := by decide +kernel
theorem dL_step_970 : decode cL_step 970 = .ok (.sipush 600, 3) := by decide +kernel
theorem dL_step_973 : decode cL_step 973 = .ok (.if_icmp .ne 22, 3) := by decide +kernel
theorem dL_step_976 : decode cL_step 976 = .ok (.aload_n 0, 1) := by decide +kernel
theorem dL_step_977 : decode cL_step 977 = .ok (.iload 7, 2) := by decide +kernel
theorem dL_step_979 : decode cL_step 979 = .ok (.iconst 0, 1) := by decide +kernel
theorem dL_step_980 : decode cL_step 980 = .ok (.invokevirtual 50, 3) := by decide +kernel
theorem dL_step_983 : decode cL_step 983 = .ok (.iload 9, 2) := by decide +kernel
theorem dL_step_985 : decode cL_step 985 = .ok (.iload 21, 2) := by decide +kernel
theorem dL_step_987 : decode cL_step 987 = .ok (.iadd, 1) := by decide +kernel
theorem dL_step_988 : decode cL_step 988 = .ok (.if_icmp .ne 7, 3) := by decide +kernel
theorem dL_step_991 : decode cL_step 991 = .ok (.iconst 1, 1) := by decide +kernel
theorem dL_step_992 : decode cL_step 992 = .ok (.goto 4, 3) := by decide +kernel
theorem dL_step_995 : decode cL_step 995 = .ok (.iconst 0, 1) := by decide +kernel
theorem dL_step_996 : decode cL_step 996 = .ok (.ireturn, 1) := by decide +kernel
theorem dL_step_997 : decode cL_step 997 = .ok (.aload_n 0, 1) := by decide +kernel
theorem dL_step_998 : decode cL_step 998 = .ok (.iload 7, 2) := by decide +kernel
theorem dL_step_1000 : decode cL_step 1000 = .ok (.iconst 2, 1) := by decide +kernel
theorem dL_step_1001 : decode cL_step 1001 = .ok (.invokevirtual 50, 3) := by decide +kernel
theorem dL_step_1004 : decode cL_step 1004 = .ok (.ifCond .ne 17, 3) := by decide +kernel
theorem dL_step_1007 : decode cL_step 1007 = .ok (.aload_n 0, 1) := by decide +kernel
theorem dL_step_1008 : decode cL_step 1008 = .ok (.iload 7, 2) := by decide +kernel
theorem dL_step_1010 : decode cL_step 1010 = .ok (.iconst 3, 1) := by decide +kernel
theorem dL_step_1011 : decode cL_step 1011 = .ok (.invokevirtual 50, 3) := by decide +kernel
theorem dL_step_1014 : decode cL_step 1014 = .ok (.ifCond .ne 7, 3) := by decide +kernel
theorem dL_step_1017 : decode cL_step 1017 = .ok (.iconst 1, 1) := by decide +kernel
theorem dL_step_1018 : decode cL_step 1018 = .ok (.goto 4, 3) := by decide +kernel
theorem dL_step_1021 : decode cL_step 1021 = .ok (.iconst 0, 1) := by decide +kernel
theorem dL_step_1022 : decode cL_step 1022 = .ok (.istore 22, 2) := by decide +kernel
theorem dL_step_1024 : decode cL_step 1024 = .ok (.aload_n 0, 1) := by decide +kernel
theorem dL_step_1025 : decode cL_step 1025 = .ok (.iload 7, 2) := by decide +kernel
theorem dL_step_1027 : decode cL_step 1027 = .ok (.iload 6, 2) := by decide +kernel
theorem dL_step_1029 : decode cL_step 1029 = .ok (.iconst 2, 1) := by decide +kernel
theorem dL_step_1030 : decode cL_step 1030 = .ok (.irem, 1) := by decide +kernel
theorem dL_step_1031 : decode cL_step 1031 = .ok (.ifCond .ne 7, 3) := by decide +kernel
theorem dL_step_1034 : decode cL_step 1034 = .ok (.iconst 1, 1) := by decide +kernel
theorem dL_step_1035 : decode cL_step 1035 = .ok (.goto 4, 3) := by decide +kernel
theorem dL_step_1038 : decode cL_step 1038 = .ok (.iconst 0, 1) := by decide +kernel
theorem dL_step_1039 : decode cL_step 1039 = .ok (.invokestatic 97, 3) := by decide +kernel
theorem dL_step_1042 : decode cL_step 1042 = .ok (.istore 23, 2) := by decide +kernel
theorem dL_step_1044 : decode cL_step 1044 = .ok (.iload 23, 2) := by decide +kernel
theorem dL_step_1046 : decode cL_step 1046 = .ok (.ifCond .ne 7, 3) := by decide +kernel
theorem dL_step_1049 : decode cL_step 1049 = .ok (.iconst 1, 1) := by decide +kernel
theorem dL_step_1050 : decode cL_step 1050 = .ok (.goto 4, 3) := by decide +kernel
theorem dL_step_1053 : decode cL_step 1053 = .ok (.iconst 0, 1) := by decide +kernel
theorem dL_step_1054 : decode cL_step 1054 = .ok (.iload 22, 2) := by decide +kernel
theorem dL_step_1056 : decode cL_step 1056 = .ok (.if_icmp .ne 34, 3) := by decide +kernel
theorem dL_step_1059 : decode cL_step 1059 = .ok (.iload 22, 2) := by decide +kernel
theorem dL_step_1061 : decode cL_step 1061 = .ok (.ifCond .eq 25, 3) := by decide +kernel
theorem dL_step_1064 : decode cL_step 1064 = .ok (.aload_n 0, 1) := by decide +kernel
theorem dL_step_1065 : decode cL_step 1065 = .ok (.iload 7, 2) := by decide +kernel
theorem dL_step_1067 : decode cL_step 1067 = .ok (.iconst 3, 1) := by decide +kernel
theorem dL_step_1068 : decode cL_step 1068 = .ok (.invokevirtual 50, 3) := by decide +kernel
theorem dL_step_1071 : decode cL_step 1071 = .ok (.iconst 1, 1) := by decide +kernel
theorem dL_step_1072 : decode cL_step 1072 = .ok (.if_icmp .ne 18, 3) := by decide +kernel
theorem dL_step_1075 : decode cL_step 1075 = .ok (.aload_n 0, 1) := by decide +kernel
theorem dL_step_1076 : decode cL_step 1076 = .ok (.iload 7, 2) := by decide +kernel
theorem dL_step_1078 : decode cL_step 1078 = .ok (.iconst 5, 1) := by decide +kernel
theorem dL_step_1079 : decode cL_step 1079 = .ok (.invokevirtual 50, 3) := by decide +kernel
theorem dL_step_1082 : decode cL_step 1082 = .ok (.iconst (-1), 1) := by decide +kernel
theorem dL_step_1083 : decode cL_step 1083 = .ok (.if_icmp .ne 7, 3) := by decide +kernel
theorem dL_step_1086 : decode cL_step 1086 = .ok (.iconst 1, 1) := by decide +kernel
theorem dL_step_1087 : decode cL_step 1087 = .ok (.goto 4, 3) := by decide +kernel
theorem dL_step_1090 : decode cL_step 1090 = .ok (.iconst 0, 1) := by decide +kernel
theorem dL_step_1091 : decode cL_step 1091 = .ok (.ireturn, 1) := by decide +kernel
theorem dL_step_1092 : decode cL_step 1092 = .ok (.iload 6, 2) := by decide +kernel
theorem dL_step_1094 : decode cL_step 1094 = .ok (.iconst 4, 1) := by decide +kernel
theorem dL_step_1095 : decode cL_step 1095 = .ok (.irem, 1) := by decide +kernel
theorem dL_step_1096 : decode cL_step 1096 = .ok (.ifCond .gt 12, 3) := by decide +kernel
theorem dL_step_1099 : decode cL_step 1099 = .ok (.aload_n 0, 1) := by decide +kernel
theorem dL_step_1100 : decode cL_step 1100 = .ok (.aload_n 1, 1) := by decide +kernel
theorem dL_step_1101 : decode cL_step 1101 = .ok (.aload_n 3, 1) := by decide +kernel
theorem dL_step_1102 : decode cL_step 1102 = .ok (.invokestatic 101, 3) := by decide +kernel
theorem dL_step_1105 : decode cL_step 1105 = .ok (.ifCond .eq 7, 3) := by decide +kernel
theorem dL_step_1108 : decode cL_step 1108 = .ok (.iconst 1, 1) := by decide +kernel
theorem dL_step_1109 : decode cL_step 1109 = .ok (.goto 4, 3) := by decide +kernel
theorem dL_step_1112 : decode cL_step 1112 = .ok (.iconst 0, 1) := by decide +kernel
theorem dL_step_1113 : decode cL_step 1113 = .ok (.ireturn, 1) := by decide +kernel
theorem dL_step_1114 : decode cL_step 1114 = .ok (.aload_n 0, 1) := by decide +kernel
theorem dL_step_1115 : decode cL_step 1115 = .ok (.iload 7, 2) := by decide +kernel
theorem dL_step_1117 : decode cL_step 1117 = .ok (.invokevirtual 105, 3) := by decide +kernel
theorem dL_step_1120 : decode cL_step 1120 = .ok (.ifCond .lt 19, 3) := by decide +kernel
theorem dL_step_1123 : decode cL_step 1123 = .ok (.aload_n 0, 1) := by decide +kernel
theorem dL_step_1124 : decode cL_step 1124 = .ok (.iload 7, 2) := by decide +kernel
theorem dL_step_1126 : decode cL_step 1126 = .ok (.invokevirtual 105, 3) := by decide +kernel
theorem dL_step_1129 : decode cL_step 1129 = .ok (.sipush 150, 3) := by decide +kernel
theorem dL_step_1132 : decode cL_step 1132 = .ok (.if_icmp .gt 7, 3) := by decide +kernel
theorem dL_step_1135 : decode cL_step 1135 = .ok (.iconst 1, 1) := by decide +kernel
theorem dL_step_1136 : decode cL_step 1136 = .ok (.goto 4, 3) := by decide +kernel
theorem dL_step_1139 : decode cL_step 1139 = .ok (.iconst 0, 1) := by decide +kernel
theorem dL_step_1140 : decode cL_step 1140 = .ok (.ireturn, 1) := by decide +kernel
theorem dL_isAdded_0 : decode cL_isAdded 0 = .ok (.aload_n 0, 1) := by decide +kernel
theorem dL_isAdded_1 : decode cL_isAdded 1 = .ok (.iload_n 3, 1) := by decide +kernel
theorem dL_isAdded_2 : decode cL_isAdded 2 = .ok (.iload_n 3, 1) := by decide +kernel
theorem dL_isAdded_3 : decode cL_isAdded 3 = .ok (.iconst 2, 1) := by decide +kernel
theorem dL_isAdded_4 : decode cL_isAdded 4 = .ok (.if_icmp .ne 7, 3) := by decide +kernel
theorem dL_isAdded_7 : decode cL_isAdded 7 = .ok (.iconst 0, 1) := by decide +kernel
theorem dL_isAdded_8 : decode cL_isAdded 8 = .ok (.goto 5, 3) := by decide +kernel
theorem dL_isAdded_11 : decode cL_isAdded 11 = .ok (.iload 4, 2) := by decide +kernel
theorem dL_isAdded_13 : decode cL_isAdded 13 = .ok (.invokestatic 109, 3) := by decide +kernel
theorem dL_isAdded_16 : decode cL_isAdded 16 = .ok (.istore 5, 2) := by decide +kernel
theorem dL_isAdded_18 : decode cL_isAdded 18 = .ok (.iload 5, 2) := by decide +kernel
theorem dL_isAdded_20 : decode cL_isAdded 20 = .ok (.bipush (-2), 2) := by decide +kernel
theorem dL_isAdded_22 : decode cL_isAdded 22 = .ok (.if_icmp .ne 56, 3) := by decide +kernel
theorem dL_isAdded_25 : decode cL_isAdded 25 = .ok (.aload_n 1, 1) := by decide +kernel
theorem dL_isAdded_26 : decode cL_isAdded 26 = .ok (.iconst 0, 1) := by decide +kernel
theorem dL_isAdded_27 : decode cL_isAdded 27 = .ok (.iaload, 1) := by decide +kernel
theorem dL_isAdded_28 : decode cL_isAdded 28 = .ok (.bipush 20, 2) := by decide +kernel
theorem dL_isAdded_30 : decode cL_isAdded 30 = .ok (.if_icmp .eq 42, 3) := by decide +kernel
theorem dL_isAdded_33 : decode cL_isAdded 33 = .ok (.aload_n 1, 1) := by decide +kernel
theorem dL_isAdded_34 : decode cL_isAdded 34 = .ok (.iconst 1, 1) := by decide +kernel
theorem dL_isAdded_35 : decode cL_isAdded 35 = .ok (.iaload, 1) := by decide +kernel
theorem dL_isAdded_36 : decode cL_isAdded 36 = .ok (.iconst 1, 1) := by decide +kernel
theorem dL_isAdded_37 : decode cL_isAdded 37 = .ok (.if_icmp .eq 35, 3) := by decide +kernel
theorem dL_isAdded_40 : decode cL_isAdded 40 = .ok (.aload_n 1, 1) := by decide +kernel
theorem dL_isAdded_41 : decode cL_isAdded 41 = .ok (.iconst 0, 1) := by decide +kernel
theorem dL_isAdded_42 : decode cL_isAdded 42 = .ok (.iaload, 1) := by decide +kernel
theorem dL_isAdded_43 : decode cL_isAdded 43 = .ok (.ifCond .ne 7, 3) := by decide +kernel
theorem dL_isAdded_46 : decode cL_isAdded 46 = .ok (.iload_n 3, 1) := by decide +kernel
theorem dL_isAdded_47 : decode cL_isAdded 47 = .ok (.ifCond .gt 25, 3) := by decide +kernel
theorem dL_isAdded_50 : decode cL_isAdded 50 = .ok (.aload_n 1, 1) := by decide +kernel
theorem dL_isAdded_51 : decode cL_isAdded 51 = .ok (.iconst 0, 1) := by decide +kernel
theorem dL_isAdded_52 : decode cL_isAdded 52 = .ok (.iaload, 1) := by decide +kernel
theorem dL_isAdded_53 : decode cL_isAdded 53 = .ok (.ifCond .le 23, 3) := by decide +kernel
theorem dL_isAdded_56 : decode cL_isAdded 56 = .ok (.aload_n 2, 1) := by decide +kernel
theorem dL_isAdded_57 : decode cL_isAdded 57 = .ok (.aload_n 1, 1) := by decide +kernel
theorem dL_isAdded_58 : decode cL_isAdded 58 = .ok (.iconst 0, 1) := by decide +kernel
theorem dL_isAdded_59 : decode cL_isAdded 59 = .ok (.iaload, 1) := by decide +kernel
theorem dL_isAdded_60 : decode cL_isAdded 60 = .ok (.iconst 1, 1) := by decide +kernel
theorem dL_isAdded_61 : decode cL_isAdded 61 = .ok (.isub, 1) := by decide +kernel
theorem dL_isAdded_62 : decode cL_isAdded 62 = .ok (.iaload, 1) := by decide +kernel
theorem dL_isAdded_63 : decode cL_isAdded 63 = .ok (.iconst 2, 1) := by decide +kernel
theorem dL_isAdded_64 : decode cL_isAdded 64 = .ok (.if_icmp .ne 12, 3) := by decide +kernel
theorem dL_isAdded_67 : decode cL_isAdded 67 = .ok (.iload_n 3, 1) := by decide +kernel
theorem dL_isAdded_68 : decode cL_isAdded 68 = .ok (.iconst 1, 1) := by decide +kernel
theorem dL_isAdded_69 : decode cL_isAdded 69 = .ok (.if_icmp .eq 7, 3) := by decide +kernel
theorem dL_isAdded_72 : decode cL_isAdded 72 = .ok (.iconst 1, 1) := by decide +kernel
theorem dL_isAdded_73 : decode cL_isAdded 73 = .ok (.goto 4, 3) := by decide +kernel
theorem dL_isAdded_76 : decode cL_isAdded 76 = .ok (.iconst 0, 1) := by decide +kernel
theorem dL_isAdded_77 : decode cL_isAdded 77 = .ok (.ireturn, 1) := by decide +kernel
theorem dL_isAdded_78 : decode cL_isAdded 78 = .ok (.aload_n 2, 1) := by decide +kernel
theorem dL_isAdded_79 : decode cL_isAdded 79 = .ok (.iload 5, 2) := by decide +kernel
theorem dL_isAdded_81 : decode cL_isAdded 81 = .ok (.iload_n 3, 1) := by decide +kernel
theorem dL_isAdded_82 : decode cL_isAdded 82 = .ok (.iastore, 1) := by decide +kernel
theorem dL_isAdded_83 : decode cL_isAdded 83 = .ok (.aload_n 1, 1) := by decide +kernel
theorem dL_isAdded_84 : decode cL_isAdded 84 = .ok (.iconst 0, 1) := by decide +kernel
theorem dL_isAdded_85 : decode cL_isAdded 85 = .ok (.dup2, 1) := by decide +kernel
theorem dL_isAdded_86 : decode cL_isAdded 86 = .ok (.iaload, 1) := by decide +kernel
theorem dL_isAdded_87 : decode cL_isAdded 87 = .ok (.iconst 1, 1) := by decide +kernel
theorem dL_isAdded_88 : decode cL_isAdded 88 = .ok (.iadd, 1) := by decide +kernel
theorem dL_isAdded_89 : decode cL_isAdded 89 = .ok (.iastore, 1) := by decide +kernel
theorem dL_isAdded_90 : decode cL_isAdded 90 = .ok (.iload 5, 2) := by decide +kernel
theorem dL_isAdded_92 : decode cL_isAdded 92 = .ok (.aload_n 1, 1) := by decide +kernel
theorem dL_isAdded_93 : decode cL_isAdded 93 = .ok (.iconst 0, 1) := by decide +kernel
theorem dL_isAdded_94 : decode cL_isAdded 94 = .ok (.iaload, 1) := by decide +kernel
theorem dL_isAdded_95 : decode cL_isAdded 95 = .ok (.iconst 1, 1) := by decide +kernel
theorem dL_isAdded_96 : decode cL_isAdded 96 = .ok (.isub, 1) := by decide +kernel
theorem dL_isAdded_97 : decode cL_isAdded 97 = .ok (.if_icmp .ne 13, 3) := by decide +kernel
theorem dL_isAdded_100 : decode cL_isAdded 100 = .ok (.aload_n 1, 1) := by decide +kernel
theorem dL_isAdded_101 : decode cL_isAdded 101 = .ok (.iconst 1, 1) := by decide +kernel
theorem dL_isAdded_102 : decode cL_isAdded 102 = .ok (.iaload, 1) := by decide +kernel
theorem dL_isAdded_103 : decode cL_isAdded 103 = .ok (.ifCond .ne 7, 3) := by decide +kernel
theorem dL_isAdded_106 : decode cL_isAdded 106 = .ok (.iconst 1, 1) := by decide +kernel
theorem dL_isAdded_107 : decode cL_isAdded 107 = .ok (.goto 4, 3) := by decide +kernel
theorem dL_isAdded_110 : decode cL_isAdded 110 = .ok (.iconst 0, 1) := by decide +kernel
theorem dL_isAdded_111 : decode cL_isAdded 111 = .ok (.ireturn, 1) := by decide +kernel
theorem dL_isFinished_0 : decode cL_isFinished 0 = .ok (.aload_n 0, 1) := by decide +kernel
theorem dL_isFinished_1 : decode cL_isFinished 1 = .ok (.iload_n 1, 1) := by decide +kernel
theorem dL_isFinished_2 : decode cL_isFinished 2 = .ok (.iload_n 2, 1) := by decide +kernel
theorem dL_isFinished_3 : decode cL_isFinished 3 = .ok (.invokevirtual 67, 3) := by decide +kernel
theorem dL_isFinished_6 : decode cL_isFinished 6 = .ok (.istore 5, 2) := by decide +kernel
theorem dL_isFinished_8 : decode cL_isFinished 8 = .ok (.aload_n 0, 1) := by decide +kernel
theorem dL_isFinished_9 : decode cL_isFinished 9 = .ok (.iload_n 1, 1) := by decide +kernel
theorem dL_isFinished_10 : decode cL_isFinished 10 = .ok (.invokevirtual 112, 3) := by decide +kernel
theorem dL_isFinished_13 : decode cL_isFinished 13 = .ok (.istore 6, 2) := by decide +kernel
theorem dL_isFinished_15 : decode cL_isFinished 15 = .ok (.aload_n 0, 1) := by decide +kernel
theorem dL_isFinished_16 : decode cL_isFinished 16 = .ok (.iload_n 1, 1) := by decide +kernel
theorem dL_isFinished_17 : decode cL_isFinished 17 = .ok (.iload_n 2, 1) := by decide +kernel
theorem dL_isFinished_18 : decode cL_isFinished 18 = .ok (.iload_n 3, 1) := by decide +kernel
theorem dL_isFinished_19 : decode cL_isFinished 19 = .ok (.iload 4, 2) := by decide +kernel
theorem dL_isFinished_21 : decode cL_isFinished 21 = .ok (.ldc 115, 2) := by decide +kernel
theorem dL_isFinished_23 : decode cL_isFinished 23 = .ok (.irem, 1) := by decide +kernel
theorem dL_isFinished_24 : decode cL_isFinished 24 = .ok (.invokestatic 116, 3) := by decide +kernel
theorem dL_isFinished_27 : decode cL_isFinished 27 = .ok (.istore 7, 2) := by decide +kernel
theorem dL_isFinished_29 : decode cL_isFinished 29 = .ok (.iload 7, 2) := by decide +kernel
theorem dL_isFinished_31 : decode cL_isFinished 31 = .ok (.bipush (-2), 2) := by decide +kernel
theorem dL_isFinished_33 : decode cL_isFinished 33 = .ok (.if_icmp .ne 32, 3) := by decide +kernel
theorem dL_isFinished_36 : decode cL_isFinished 36 = .ok (.aload_n 0, 1) := by decide +kernel
theorem dL_isFinished_37 : decode cL_isFinished 37 = .ok (.iload_n 1, 1) := by decide +kernel
theorem dL_isFinished_38 : decode cL_isFinished 38 = .ok (.iload_n 2, 1) := by decide +kernel
theorem dL_isFinished_39 : decode cL_isFinished 39 = .ok (.invokevirtual 67, 3) := by decide +kernel
theorem dL_isFinished_42 : decode cL_isFinished 42 = .ok (.iload 5, 2) := by decide +kernel
theorem dL_isFinished_44 : decode cL_isFinished 44 = .ok (.if_icmp .ne 17, 3) := by decide +kernel
theorem dL_isFinished_47 : decode cL_isFinished 47 = .ok (.aload_n 0, 1) := by decide +kernel
theorem dL_isFinished_48 : decode cL_isFinished 48 = .ok (.iload_n 1, 1) := by decide +kernel
theorem dL_isFinished_49 : decode cL_isFinished 49 = .ok (.invokevirtual 112, 3) := by decide +kernel
theorem dL_isFinished_52 : decode cL_isFinished 52 = .ok (.iload 6, 2) := by decide +kernel
theorem dL_isFinished_54 : decode cL_isFinished 54 = .ok (.if_icmp .ne 7, 3) := by decide +kernel
theorem dL_isFinished_57 : decode cL_isFinished 57 = .ok (.iconst 1, 1) := by decide +kernel
theorem dL_isFinished_58 : decode cL_isFinished 58 = .ok (.goto 22, 3) := by decide +kernel
theorem dL_isFinished_61 : decode cL_isFinished 61 = .ok (.iconst 0, 1) := by decide +kernel
theorem dL_isFinished_62 : decode cL_isFinished 62 = .ok (.goto 18, 3) := by decide +kernel
theorem dL_isFinished_65 : decode cL_isFinished 65 = .ok (.aload_n 0, 1) := by decide +kernel
theorem dL_isFinished_66 : decode cL_isFinished 66 = .ok (.iload_n 1, 1) := by decide +kernel
theorem dL_isFinished_67 : decode cL_isFinished 67 = .ok (.iload_n 2, 1) := by decide +kernel
theorem dL_isFinished_68 : decode cL_isFinished 68 = .ok (.invokevirtual 67, 3) := by decide +kernel
theorem dL_isFinished_71 : decode cL_isFinished 71 = .ok (.iconst (-1), 1) := by decide +kernel
theorem dL_isFinished_72 : decode cL_isFinished 72 = .ok (.if_icmp .lt 7, 3) := by decide +kernel
theorem dL_isFinished_75 : decode cL_isFinished 75 = .ok (.iconst 1, 1) := by decide +kernel
theorem dL_isFinished_76 : decode cL_isFinished 76 = .ok (.goto 4, 3) := by decide +kernel
theorem dL_isFinished_79 : decode cL_isFinished 79 = .ok (.iconst 0, 1) := by decide +kernel
theorem dL_isFinished_80 : decode cL_isFinished 80 = .ok (.ireturn, 1) := by decide +kernel
theorem dL_isOrder_0 : decode cL_isOrder 0 = .ok (.iconst 0, 1) := by decide +kernel
theorem dL_isOrder_1 : decode cL_isOrder 1 = .ok (.istore_n 3, 1) := by decide +kernel
theorem dL_isOrder_2 : decode cL_isOrder 2 = .ok (.iconst 1, 1) := by decide +kernel
theorem dL_isOrder_3 : decode cL_isOrder 3 = .ok (.istore 4, 2) := by decide +kernel
theorem dL_isOrder_5 : decode cL_isOrder 5 = .ok (.iconst 0, 1) := by decide +kernel
theorem dL_isOrder_6 : decode cL_isOrder 6 = .ok (.istore 5, 2) := by decide +kernel
theorem dL_isOrder_8 : decode cL_isOrder 8 = .ok (.iload 5, 2) := by decide +kernel
theorem dL_isOrder_10 : decode cL_isOrder 10 = .ok (.bipush 10, 2) := by decide +kernel
theorem dL_isOrder_12 : decode cL_isOrder 12 = .ok (.if_icmp .ge 80, 3) := by decide +kernel
theorem dL_isOrder_15 : decode cL_isOrder 15 = .ok (.iload 4, 2) := by decide +kernel
theorem dL_isOrder_17 : decode cL_isOrder 17 = .ok (.ifCond .eq 75, 3) := by decide +kernel
theorem dL_isOrder_20 : decode cL_isOrder 20 = .ok (.aload_n 0, 1) := by decide +kernel
theorem dL_isOrder_21 : decode cL_isOrder 21 = .ok (.iload_n 1, 1) := by decide +kernel
theorem dL_isOrder_22 : decode cL_isOrder 22 = .ok (.iload 5, 2) := by decide +kernel
theorem dL_isOrder_24 : decode cL_isOrder 24 = .ok (.invokevirtual 120, 3) := by decide +kernel
theorem dL_isOrder_27 : decode cL_isOrder 27 = .ok (.istore 6, 2) := by decide +kernel
theorem dL_isOrder_29 : decode cL_isOrder 29 = .ok (.iload 5, 2) := by decide +kernel
theorem dL_isOrder_31 : decode cL_isOrder 31 = .ok (.iload_n 2, 1) := by decide +kernel
theorem dL_isOrder_32 : decode cL_isOrder 32 = .ok (.if_icmp .ge 25, 3) := by decide +kernel
theorem dL_isOrder_35 : decode cL_isOrder 35 = .ok (.iload 6, 2) := by decide +kernel
theorem dL_isOrder_37 : decode cL_isOrder 37 = .ok (.ifCond .lt 16, 3) := by decide +kernel
theorem dL_isOrder_40 : decode cL_isOrder 40 = .ok (.iload_n 3, 1) := by decide +kernel
theorem dL_isOrder_41 : decode cL_isOrder 41 = .ok (.iload 6, 2) := by decide +kernel
theorem dL_isOrder_43 : decode cL_isOrder 43 = .ok (.ishr, 1) := by decide +kernel
theorem dL_isOrder_44 : decode cL_isOrder 44 = .ok (.iconst 1, 1) := by decide +kernel
theorem dL_isOrder_45 : decode cL_isOrder 45 = .ok (.iand, 1) := by decide +kernel
theorem dL_isOrder_46 : decode cL_isOrder 46 = .ok (.ifCond .ne 7, 3) := by decide +kernel
theorem dL_isOrder_49 : decode cL_isOrder 49 = .ok (.iconst 1, 1) := by decide +kernel
theorem dL_isOrder_50 : decode cL_isOrder 50 = .ok (.goto 18, 3) := by decide +kernel
theorem dL_isOrder_53 : decode cL_isOrder 53 = .ok (.iconst 0, 1) := by decide +kernel
theorem dL_isOrder_54 : decode cL_isOrder 54 = .ok (.goto 14, 3) := by decide +kernel
theorem dL_isOrder_57 : decode cL_isOrder 57 = .ok (.iload 6, 2) := by decide +kernel
theorem dL_isOrder_59 : decode cL_isOrder 59 = .ok (.iconst (-1), 1) := by decide +kernel
theorem dL_isOrder_60 : decode cL_isOrder 60 = .ok (.if_icmp .ne 7, 3) := by decide +kernel
theorem dL_isOrder_63 : decode cL_isOrder 63 = .ok (.iconst 1, 1) := by decide +kernel
theorem dL_isOrder_64 : decode cL_isOrder 64 = .ok (.goto 4, 3) := by decide +kernel
theorem dL_isOrder_67 : decode cL_isOrder 67 = .ok (.iconst 0, 1) := by decide +kernel
theorem dL_isOrder_68 : decode cL_isOrder 68 = .ok (.istore 4, 2) := by decide +kernel
theorem dL_isOrder_70 : decode cL_isOrder 70 = .ok (.iload_n 3, 1) := by decide +kernel
theorem dL_isOrder_71 : decode cL_isOrder 71 = .ok (.iload 6, 2) := by decide +kernel
theorem dL_isOrder_73 : decode cL_isOrder 73 = .ok (.ifCond .ge 7, 3) := by decide +kernel
theorem dL_isOrder_76 : decode cL_isOrder 76 = .ok (.iconst 0, 1) := by decide +kernel
theorem dL_isOrder_77 : decode cL_isOrder 77 = .ok (.goto 7, 3) := by decide +kernel
theorem dL_isOrder_80 : decode cL_isOrder 80 = .ok (.iconst 1, 1) := by decide +kernel
theorem dL_isOrder_81 : decode cL_isOrder 81 = .ok (.iload 6, 2) := by decide +kernel
theorem dL_isOrder_83 : decode cL_isOrder 83 = .ok (.ishl, 1) := by decide +kernel
theorem dL_isOrder_84 : decode cL_isOrder 84 = .ok (.ior, 1) := by decide +kernel
theorem dL_isOrder_85 : decode cL_isOrder 85 = .ok (.istore_n 3, 1) := by decide +kernel
theorem dL_isOrder_86 : decode cL_isOrder 86 = .ok (.iinc 5 1, 3) := by decide +kernel
theorem dL_isOrder_89 : decode cL_isOrder 89 = .ok (.goto (-81), 3) := by decide +kernel
theorem dL_isOrder_92 : decode cL_isOrder 92 = .ok (.iload 4, 2) := by decide +kernel
theorem dL_isOrder_94 : decode cL_isOrder 94 = .ok (.ifCond .eq 18, 3) := by decide +kernel
theorem dL_isOrder_97 : decode cL_isOrder 97 = .ok (.iload_n 1, 1) := by decide +kernel
theorem dL_isOrder_98 : decode cL_isOrder 98 = .ok (.ifCond .gt 10, 3) := by decide +kernel
theorem dL_isOrder_101 : decode cL_isOrder 101 = .ok (.iload_n 3, 1) := by decide +kernel
theorem dL_isOrder_102 : decode cL_isOrder 102 = .ok (.sipush 1023, 3) := by decide +kernel
theorem dL_isOrder_105 : decode cL_isOrder 105 = .ok (.if_icmp .ne 7, 3) := by decide +kernel
theorem dL_isOrder_108 : decode cL_isOrder 108 = .ok (.iconst 1, 1) := by decide +kernel
theorem dL_isOrder_109 : decode cL_isOrder 109 = .ok (.goto 4, 3) := by decide +kernel
theorem dL_isOrder_112 : decode cL_isOrder 112 = .ok (.iconst 0, 1) := by decide +kernel
theorem dL_isOrder_113 : decode cL_isOrder 113 = .ok (.ireturn, 1) := by decide +kernel
theorem dL_isClosed_0 : decode cL_isClosed 0 = .ok (.aload_n 0, 1) := by decide +kernel
theorem dL_isClosed_1 : decode cL_isClosed 1 = .ok (.iconst 0, 1) := by decide +kernel
theorem dL_isClosed_2 : decode cL_isClosed 2 = .ok (.invokevirtual 123, 3) := by decide +kernel
theorem dL_isClosed_5 : decode cL_isClosed 5 = .ok (.istore_n 3, 1) := by decide +kernel
theorem dL_isClosed_6 : decode cL_isClosed 6 = .ok (.iload_n 3, 1) := by decide +kernel
theorem dL_isClosed_7 : decode cL_isClosed 7 = .ok (.iconst (-1), 1) := by decide +kernel
theorem dL_isClosed_8 : decode cL_isClosed 8 = .ok (.if_icmp .ne 7, 3) := by decide +kernel
theorem dL_isClosed_11 : decode cL_isClosed 11 = .ok (.iconst 0, 1) := by decide +kernel
theorem dL_isClosed_12 : decode cL_isClosed 12 = .ok (.goto 8, 3) := by decide +kernel
theorem dL_isClosed_15 : decode cL_isClosed 15 = .ok (.aload_n 0, 1) := by decide +kernel
theorem dL_isClosed_16 : decode cL_isClosed 16 = .ok (.iload_n 3, 1) := by decide +kernel
theorem dL_isClosed_17 : decode cL_isClosed 17 = .ok (.invokevirtual 105, 3) := by decide +kernel
theorem dL_isClosed_20 : decode cL_isClosed 20 = .ok (.istore 4, 2) := by decide +kernel
theorem dL_isClosed_22 : decode cL_isClosed 22 = .ok (.aload_n 0, 1) := by decide +kernel
theorem dL_isClosed_23 : decode cL_isClosed 23 = .ok (.invokestatic 126, 3) := by decide +kernel
theorem dL_isClosed_26 : decode cL_isClosed 26 = .ok (.istore 5, 2) := by decide +kernel
theorem dL_isClosed_28 : decode cL_isClosed 28 = .ok (.iload 5, 2) := by decide +kernel
theorem dL_isClosed_30 : decode cL_isClosed 30 = .ok (.bipush (-2), 2) := by decide +kernel
theorem dL_isClosed_32 : decode cL_isClosed 32 = .ok (.if_icmp .ne 23, 3) := by decide +kernel
theorem dL_isClosed_35 : decode cL_isClosed 35 = .ok (.aload_n 1, 1) := by decide +kernel
theorem dL_isClosed_36 : decode cL_isClosed 36 = .ok (.iconst 2, 1) := by decide +kernel
theorem dL_isClosed_37 : decode cL_isClosed 37 = .ok (.iaload, 1) := by decide +kernel
theorem dL_isClosed_38 : decode cL_isClosed 38 = .ok (.bipush 6, 2) := by decide +kernel
theorem dL_isClosed_40 : decode cL_isClosed 40 = .ok (.if_icmp .eq 9, 3) := by decide +kernel
theorem dL_isClosed_43 : decode cL_isClosed 43 = .ok (.aload_n 1, 1) := by decide +kernel
theorem dL_isClosed_44 : decode cL_isClosed 44 = .ok (.iconst 1, 1) := by decide +kernel
theorem dL_isClosed_45 : decode cL_isClosed 45 = .ok (.iaload, 1) := by decide +kernel
theorem dL_isClosed_46 : decode cL_isClosed 46 = .ok (.ifCond .ne 7, 3) := by decide +kernel
theorem dL_isClosed_49 : decode cL_isClosed 49 = .ok (.iconst 1, 1) := by decide +kernel
theorem dL_isClosed_50 : decode cL_isClosed 50 = .ok (.goto 4, 3) := by decide +kernel
theorem dL_isClosed_53 : decode cL_isClosed 53 = .ok (.iconst 0, 1) := by decide +kernel
theorem dL_isClosed_54 : decode cL_isClosed 54 = .ok (.ireturn, 1) := by decide +kernel
theorem dL_isClosed_55 : decode cL_isClosed 55 = .ok (.aload_n 1, 1) := by decide +kernel
theorem dL_isClosed_56 : decode cL_isClosed 56 = .ok (.iconst 2, 1) := by decide +kernel
theorem dL_isClosed_57 : decode cL_isClosed 57 = .ok (.dup2, 1) := by decide +kernel
theorem dL_isClosed_58 : decode cL_isClosed 58 = .ok (.iaload, 1) := by decide +kernel
theorem dL_isClosed_59 : decode cL_isClosed 59 = .ok (.iconst 1, 1) := by decide +kernel
theorem dL_isClosed_60 : decode cL_isClosed 60 = .ok (.iadd, 1) := by decide +kernel
theorem dL_isClosed_61 : decode cL_isClosed 61 = .ok (.iastore, 1) := by decide +kernel
theorem dL_isClosed_62 : decode cL_isClosed 62 = .ok (.aload_n 1, 1) := by decide +kernel
theorem dL_isClosed_63 : decode cL_isClosed 63 = .ok (.iconst 1, 1) := by decide +kernel
theorem dL_isClosed_64 : decode cL_isClosed 64 = .ok (.iconst 0, 1) := by decide +kernel
theorem dL_isClosed_65 : decode cL_isClosed 65 = .ok (.iastore, 1) := by decide +kernel
theorem dL_isClosed_66 : decode cL_isClosed 66 = .ok (.aload_n 1, 1) := by decide +kernel
theorem dL_isClosed_67 : decode cL_isClosed 67 = .ok (.iconst 0, 1) := by decide +kernel
theorem dL_isClosed_68 : decode cL_isClosed 68 = .ok (.iconst 0, 1) := by decide +kernel
theorem dL_isClosed_69 : decode cL_isClosed 69 = .ok (.iastore, 1) := by decide +kernel
theorem dL_isClosed_70 : decode cL_isClosed 70 = .ok (.iconst 0, 1) := by decide +kernel
theorem dL_isClosed_71 : decode cL_isClosed 71 = .ok (.istore 6, 2) := by decide +kernel
theorem dL_isClosed_73 : decode cL_isClosed 73 = .ok (.iload 6, 2) := by decide +kernel
theorem dL_isClosed_75 : decode cL_isClosed 75 = .ok (.bipush 10, 2) := by decide +kernel
theorem dL_isClosed_77 : decode cL_isClosed 77 = .ok (.if_icmp .ge 14, 3) := by decide +kernel
theorem dL_isClosed_80 : decode cL_isClosed 80 = .ok (.aload_n 2, 1) := by decide +kernel
theorem dL_isClosed_81 : decode cL_isClosed 81 = .ok (.iload 6, 2) := by decide +kernel
theorem dL_isClosed_83 : decode cL_isClosed 83 = .ok (.iconst 0, 1) := by decide +kernel
theorem dL_isClosed_84 : decode cL_isClosed 84 = .ok (.iastore, 1) := by decide +kernel
theorem dL_isClosed_85 : decode cL_isClosed 85 = .ok (.iinc 6 1, 3) := by decide +kernel
theorem dL_isClosed_88 : decode cL_isClosed 88 = .ok (.goto (-15), 3) := by decide +kernel
theorem dL_isClosed_91 : decode cL_isClosed 91 = .ok (.iload 5, 2) := by decide +kernel
theorem dL_isClosed_93 : decode cL_isClosed 93 = .ok (.aload_n 1, 1) := by decide +kernel
theorem dL_isClosed_94 : decode cL_isClosed 94 = .ok (.iconst 2, 1) := by decide +kernel
theorem dL_isClosed_95 : decode cL_isClosed 95 = .ok (.iaload, 1) := by decide +kernel
theorem dL_isClosed_96 : decode cL_isClosed 96 = .ok (.if_icmp .ne 60, 3) := by decide +kernel
theorem dL_isClosed_99 : decode cL_isClosed 99 = .ok (.aload_n 0, 1) := by decide +kernel
theorem dL_isClosed_100 : decode cL_isClosed 100 = .ok (.iconst 0, 1) := by decide +kernel
theorem dL_isClosed_101 : decode cL_isClosed 101 = .ok (.invokevirtual 123, 3) := by decide +kernel
theorem dL_isClosed_104 : decode cL_isClosed 104 = .ok (.iconst (-1), 1) := by decide +kernel
theorem dL_isClosed_105 : decode cL_isClosed 105 = .ok (.if_icmp .ne 51, 3) := by decide +kernel
theorem dL_isClosed_108 : decode cL_isClosed 108 = .ok (.iload_n 3, 1) := by decide +kernel
theorem dL_isClosed_109 : decode cL_isClosed 109 = .ok (.iconst (-1), 1) := by decide +kernel
theorem dL_isClosed_110 : decode cL_isClosed 110 = .ok (.if_icmp .eq 23, 3) := by decide +kernel
theorem dL_isClosed_113 : decode cL_isClosed 113 = .ok (.aload_n 1, 1) := by decide +kernel
theorem dL_isClosed_114 : decode cL_isClosed 114 = .ok (.iconst 2, 1) := by decide +kernel
theorem dL_isClosed_115 : decode cL_isClosed 115 = .ok (.iaload, 1) := by decide +kernel
theorem dL_isClosed_116 : decode cL_isClosed 116 = .ok (.iconst 2, 1) := by decide +kernel
theorem dL_isClosed_117 : decode cL_isClosed 117 = .ok (.if_icmp .gt 16, 3) := by decide +kernel
theorem dL_isClosed_120 : decode cL_isClosed 120 = .ok (.aload_n 0, 1) := by decide +kernel
theorem dL_isClosed_121 : decode cL_isClosed 121 = .ok (.iload_n 3, 1) := by decide +kernel
theorem dL_isClosed_122 : decode cL_isClosed 122 = .ok (.invokevirtual 105, 3) := by decide +kernel
theorem dL_isClosed_125 : decode cL_isClosed 125 = .ok (.iload 4, 2) := by decide +kernel
theorem dL_isClosed_127 : decode cL_isClosed 127 = .ok (.bipush 25, 2) := by decide +kernel
theorem dL_isClosed_129 : decode cL_isClosed 129 = .ok (.iadd, 1) := by decide +kernel
theorem dL_isClosed_130 : decode cL_isClosed 130 = .ok (.if_icmp .ne 26, 3) := by decide +kernel
theorem dL_isClosed_133 : decode cL_isClosed 133 = .ok (.aload_n 0, 1) := by decide +kernel
theorem dL_isClosed_134 : decode cL_isClosed 134 = .ok (.iconst 0, 1) := by decide +kernel
theorem dL_isClosed_135 : decode cL_isClosed 135 = .ok (.iconst 0, 1) := by decide +kernel
theorem dL_isClosed_136 : decode cL_isClosed 136 = .ok (.invokevirtual 50, 3) := by decide +kernel
theorem dL_isClosed_139 : decode cL_isClosed 139 = .ok (.ifCond .ne 17, 3) := by decide +kernel
theorem dL_isClosed_142 : decode cL_isClosed 142 = .ok (.aload_n 0, 1) := by decide +kernel
theorem dL_isClosed_143 : decode cL_isClosed 143 = .ok (.bipush 9, 2) := by decide +kernel
theorem dL_isClosed_145 : decode cL_isClosed 145 = .ok (.iconst 4, 1) := by decide +kernel
theorem dL_isClosed_146 : decode cL_isClosed 146 = .ok (.invokevirtual 50, 3) := by decide +kernel
theorem dL_isClosed_149 : decode cL_isClosed 149 = .ok (.ifCond .ne 7, 3) := by decide +kernel
theorem dL_isClosed_152 : decode cL_isClosed 152 = .ok (.iconst 1, 1) := by decide +kernel
theorem dL_isClosed_153 : decode cL_isClosed 153 = .ok (.goto 4, 3) := by decide +kernel
theorem dL_isClosed_156 : decode cL_isClosed 156 = .ok (.iconst 0, 1) := by decide +kernel
theorem dL_isClosed_157 : decode cL_isClosed 157 = .ok (.ireturn, 1) := by decide +kernel
theorem dL_isWhole_0 : decode cL_isWhole 0 = .ok (.iconst 1, 1) := by decide +kernel
theorem dL_isWhole_1 : decode cL_isWhole 1 = .ok (.istore_n 3, 1) := by decide +kernel
theorem dL_isWhole_2 : decode cL_isWhole 2 = .ok (.iconst (-1), 1) := by decide +kernel
theorem dL_isWhole_3 : decode cL_isWhole 3 = .ok (.istore 4, 2) := by decide +kernel
theorem dL_isWhole_5 : decode cL_isWhole 5 = .ok (.iconst 0, 1) := by decide +kernel
theorem dL_isWhole_6 : decode cL_isWhole 6 = .ok (.istore 5, 2) := by decide +kernel
theorem dL_isWhole_8 : decode cL_isWhole 8 = .ok (.iconst 0, 1) := by decide +kernel
theorem dL_isWhole_9 : decode cL_isWhole 9 = .ok (.istore 6, 2) := by decide +kernel
theorem dL_isWhole_11 : decode cL_isWhole 11 = .ok (.iconst 0, 1) := by decide +kernel
theorem dL_isWhole_12 : decode cL_isWhole 12 = .ok (.istore 7, 2) := by decide +kernel
theorem dL_isWhole_14 : decode cL_isWhole 14 = .ok (.iload 7, 2) := by decide +kernel
theorem dL_isWhole_16 : decode cL_isWhole 16 = .ok (.bipush 10, 2) := by decide +kernel
theorem dL_isWhole_18 : decode cL_isWhole 18 = .ok (.if_icmp .ge 165, 3) := by decide +kernel
theorem dL_isWhole_21 : decode cL_isWhole 21 = .ok (.iload_n 3, 1) := by decide +kernel
theorem dL_isWhole_22 : decode cL_isWhole 22 = .ok (.ifCond .eq 161, 3) := by decide +kernel
theorem dL_isWhole_25 : decode cL_isWhole 25 = .ok (.aload_n 0, 1) := by decide +kernel
theorem dL_isWhole_26 : decode cL_isWhole 26 = .ok (.iload 7, 2) := by decide +kernel
theorem dL_isWhole_28 : decode cL_isWhole 28 = .ok (.invokevirtual 123, 3) := by decide +kernel
theorem dL_isWhole_31 : decode cL_isWhole 31 = .ok (.istore 8, 2) := by decide +kernel
theorem dL_isWhole_33 : decode cL_isWhole 33 = .ok (.iload 8, 2) := by decide +kernel
theorem dL_isWhole_35 : decode cL_isWhole 35 = .ok (.iconst (-1), 1) := by decide +kernel
theorem dL_isWhole_36 : decode cL_isWhole 36 = .ok (.if_icmp .eq 78, 3) := by decide +kernel
theorem dL_isWhole_39 : decode cL_isWhole 39 = .ok (.iload 7, 2) := by decide +kernel
theorem dL_isWhole_41 : decode cL_isWhole 41 = .ok (.iload 5, 2) := by decide +kernel
theorem dL_isWhole_43 : decode cL_isWhole 43 = .ok (.if_icmp .ne 62, 3) := by decide +kernel
theorem dL_isWhole_46 : decode cL_isWhole 46 = .ok (.aload_n 0, 1) := by decide +kernel
theorem dL_isWhole_47 : decode cL_isWhole 47 = .ok (.iload 8, 2) := by decide +kernel
theorem dL_isWhole_49 : decode cL_isWhole 49 = .ok (.iconst 5, 1) := by decide +kernel
theorem dL_isWhole_50 : decode cL_isWhole 50 = .ok (.invokevirtual 50, 3) := by decide +kernel
theorem dL_isWhole_53 : decode cL_isWhole 53 = .ok (.iload 7, 2) := by decide +kernel
theorem dL_isWhole_55 : decode cL_isWhole 55 = .ok (.if_icmp .ne 50, 3) := by decide +kernel
theorem dL_isWhole_58 : decode cL_isWhole 58 = .ok (.aload_n 0, 1) := by decide +kernel
theorem dL_isWhole_59 : decode cL_isWhole 59 = .ok (.iload 8, 2) := by decide +kernel
theorem dL_isWhole_61 : decode cL_isWhole 61 = .ok (.iconst 2, 1) := by decide +kernel
theorem dL_isWhole_62 : decode cL_isWhole 62 = .ok (.invokevirtual 50, 3) := by decide +kernel
theorem dL_isWhole_65 : decode cL_isWhole 65 = .ok (.ifCond .ne 40, 3) := by decide +kernel
theorem dL_isWhole_68 : decode cL_isWhole 68 = .ok (.aload_n 0, 1) := by decide +kernel
theorem dL_isWhole_69 : decode cL_isWhole 69 = .ok (.iload 8, 2) := by decide +kernel
theorem dL_isWhole_71 : decode cL_isWhole 71 = .ok (.iconst 3, 1) := by decide +kernel
theorem dL_isWhole_72 : decode cL_isWhole 72 = .ok (.invokevirtual 50, 3) := by decide +kernel
theorem dL_isWhole_75 : decode cL_isWhole 75 = .ok (.ifCond .ne 30, 3) := by decide +kernel
theorem dL_isWhole_78 : decode cL_isWhole 78 = .ok (.iload 4, 2) := by decide +kernel
theorem dL_isWhole_80 : decode cL_isWhole 80 = .ok (.iconst (-1), 1) := by decide +kernel
theorem dL_isWhole_81 : decode cL_isWhole 81 = .ok (.if_icmp .eq 20, 3) := by decide +kernel
theorem dL_isWhole_84 : decode cL_isWhole 84 = .ok (.aload_n 0, 1) := by decide +kernel
theorem dL_isWhole_85 : decode cL_isWhole 85 = .ok (.iload 4, 2) := by decide +kernel
theorem dL_isWhole_87 : decode cL_isWhole 87 = .ok (.iconst 4, 1) := by decide +kernel
theorem dL_isWhole_88 : decode cL_isWhole 88 = .ok (.invokevirtual 50, 3) := by decide +kernel
theorem dL_isWhole_91 : decode cL_isWhole 91 = .ok (.aload_n 0, 1) := by decide +kernel
theorem dL_isWhole_92 : decode cL_isWhole 92 = .ok (.iload 8, 2) := by decide +kernel
theorem dL_isWhole_94 : decode cL_isWhole 94 = .ok (.iconst 4, 1) := by decide +kernel
theorem dL_isWhole_95 : decode cL_isWhole 95 = .ok (.invokevirtual 50, 3) := by decide +kernel
theorem dL_isWhole_98 : decode cL_isWhole 98 = .ok (.if_icmp .gt 7, 3) := by decide +kernel
theorem dL_isWhole_101 : decode cL_isWhole 101 = .ok (.iconst 1, 1) := by decide +kernel
theorem dL_isWhole_102 : decode cL_isWhole 102 = .ok (.goto 4, 3) := by decide +kernel
theorem dL_isWhole_105 : decode cL_isWhole 105 = .ok (.iconst 0, 1) := by decide +kernel
theorem dL_isWhole_106 : decode cL_isWhole 106 = .ok (.istore_n 3, 1) := by decide +kernel
theorem dL_isWhole_107 : decode cL_isWhole 107 = .ok (.iload 8, 2) := by decide +kernel
theorem dL_isWhole_109 : decode cL_isWhole 109 = .ok (.istore 4, 2) := by decide +kernel
theorem dL_isWhole_111 : decode cL_isWhole 111 = .ok (.iinc 5 1, 3) := by decide +kernel
theorem dL_isWhole_114 : decode cL_isWhole 114 = .ok (.aload_n 0, 1) := by decide +kernel
theorem dL_isWhole_115 : decode cL_isWhole 115 = .ok (.iload 7, 2) := by decide +kernel
theorem dL_isWhole_117 : decode cL_isWhole 117 = .ok (.invokevirtual 130, 3) := by decide +kernel
theorem dL_isWhole_120 : decode cL_isWhole 120 = .ok (.istore 9, 2) := by decide +kernel
theorem dL_isWhole_122 : decode cL_isWhole 122 = .ok (.iload_n 3, 1) := by decide +kernel
theorem dL_isWhole_123 : decode cL_isWhole 123 = .ok (.ifCond .eq 43, 3) := by decide +kernel
theorem dL_isWhole_126 : decode cL_isWhole 126 = .ok (.iload 6, 2) := by decide +kernel
theorem dL_isWhole_128 : decode cL_isWhole 128 = .ok (.iload 9, 2) := by decide +kernel
theorem dL_isWhole_130 : decode cL_isWhole 130 = .ok (.ishr, 1) := by decide +kernel
theorem dL_isWhole_131 : decode cL_isWhole 131 = .ok (.iconst 1, 1) := by decide +kernel
theorem dL_isWhole_132 : decode cL_isWhole 132 = .ok (.iand, 1) := by decide +kernel
theorem dL_isWhole_133 : decode cL_isWhole 133 = .ok (.ifCond .ne 33, 3) := by decide +kernel
theorem dL_isWhole_136 : decode cL_isWhole 136 = .ok (.iload 7, 2) := by decide +kernel
theorem dL_isWhole_138 : decode cL_isWhole 138 = .ok (.ifCond .eq 24, 3) := by decide +kernel
theorem dL_isWhole_141 : decode cL_isWhole 141 = .ok (.aload_n 0, 1) := by decide +kernel
theorem dL_isWhole_142 : decode cL_isWhole 142 = .ok (.aload_n 0, 1) := by decide +kernel
theorem dL_isWhole_143 : decode cL_isWhole 143 = .ok (.iload 7, 2) := by decide +kernel
theorem dL_isWhole_145 : decode cL_isWhole 145 = .ok (.iconst 1, 1) := by decide +kernel
theorem dL_isWhole_146 : decode cL_isWhole 146 = .ok (.isub, 1) := by decide +kernel
theorem dL_isWhole_147 : decode cL_isWhole 147 = .ok (.invokevirtual 130, 3) := by decide +kernel
theorem dL_isWhole_150 : decode cL_isWhole 150 = .ok (.invokevirtual 105, 3) := by decide +kernel
theorem dL_isWhole_153 : decode cL_isWhole 153 = .ok (.aload_n 0, 1) := by decide +kernel
theorem dL_isWhole_154 : decode cL_isWhole 154 = .ok (.iload 9, 2) := by decide +kernel
theorem dL_isWhole_156 : decode cL_isWhole 156 = .ok (.invokevirtual 105, 3) := by decide +kernel
theorem dL_isWhole_159 : decode cL_isWhole 159 = .ok (.if_icmp .lt 7, 3) := by decide +kernel
theorem dL_isWhole_162 : decode cL_isWhole 162 = .ok (.iconst 1, 1) := by decide +kernel
theorem dL_isWhole_163 : decode cL_isWhole 163 = .ok (.goto 4, 3) := by decide +kernel
theorem dL_isWhole_166 : decode cL_isWhole 166 = .ok (.iconst 0, 1) := by decide +kernel
theorem dL_isWhole_167 : decode cL_isWhole 167 = .ok (.istore_n 3, 1) := by decide +kernel
theorem dL_isWhole_168 : decode cL_isWhole 168 = .ok (.iload 6, 2) := by decide +kernel
theorem dL_isWhole_170 : decode cL_isWhole 170 = .ok (.iconst 1, 1) := by decide +kernel
theorem dL_isWhole_171 : decode cL_isWhole 171 = .ok (.iload 9, 2) := by decide +kernel
theorem dL_isWhole_173 : decode cL_isWhole 173 = .ok (.ishl, 1) := by decide +kernel
theorem dL_isWhole_174 : decode cL_isWhole 174 = .ok (.ior, 1) := by decide +kernel
theorem dL_isWhole_175 : decode cL_isWhole 175 = .ok (.istore 6, 2) := by decide +kernel
theorem dL_isWhole_177 : decode cL_isWhole 177 = .ok (.iinc 7 1, 3) := by decide +kernel
theorem dL_isWhole_180 : decode cL_isWhole 180 = .ok (.goto (-166), 3) := by decide +kernel
theorem dL_isWhole_183 : decode cL_isWhole 183 = .ok (.iconst 0, 1) := by decide +kernel
theorem dL_isWhole_184 : decode cL_isWhole 184 = .ok (.istore 7, 2) := by decide +kernel
theorem dL_isWhole_186 : decode cL_isWhole 186 = .ok (.iconst 0, 1) := by decide +kernel
theorem dL_isWhole_187 : decode cL_isWhole 187 = .ok (.istore 8, 2) := by decide +kernel
theorem dL_isWhole_189 : decode cL_isWhole 189 = .ok (.iload 8, 2) := by decide +kernel
theorem dL_isWhole_191 : decode cL_isWhole 191 = .ok (.bipush 10, 2) := by decide +kernel
theorem dL_isWhole_193 : decode cL_isWhole 193 = .ok (.if_icmp .ge 93, 3) := by decide +kernel
theorem dL_isWhole_196 : decode cL_isWhole 196 = .ok (.iload_n 3, 1) := by decide +kernel
theorem dL_isWhole_197 : decode cL_isWhole 197 = .ok (.ifCond .eq 89, 3) := by decide +kernel
theorem dL_isWhole_200 : decode cL_isWhole 200 = .ok (.iload 7, 2) := by decide +kernel
theorem dL_isWhole_202 : decode cL_isWhole 202 = .ok (.aload_n 0, 1) := by decide +kernel
theorem dL_isWhole_203 : decode cL_isWhole 203 = .ok (.iload 8, 2) := by decide +kernel
theorem dL_isWhole_205 : decode cL_isWhole 205 = .ok (.iconst 5, 1) := by decide +kernel
theorem dL_isWhole_206 : decode cL_isWhole 206 = .ok (.invokevirtual 50, 3) := by decide +kernel
theorem dL_isWhole_209 : decode cL_isWhole 209 = .ok (.iconst (-1), 1) := by decide +kernel
theorem dL_isWhole_210 : decode cL_isWhole 210 = .ok (.if_icmp .ne 7, 3) := by decide +kernel
theorem dL_isWhole_213 : decode cL_isWhole 213 = .ok (.iconst 0, 1) := by decide +kernel
theorem dL_isWhole_214 : decode cL_isWhole 214 = .ok (.goto 4, 3) := by decide +kernel
theorem dL_isWhole_217 : decode cL_isWhole 217 = .ok (.iconst 1, 1) := by decide +kernel
theorem dL_isWhole_218 : decode cL_isWhole 218 = .ok (.iadd, 1) := by decide +kernel
theorem dL_isWhole_219 : decode cL_isWhole 219 = .ok (.istore 7, 2) := by decide +kernel
theorem dL_isWhole_221 : decode cL_isWhole 221 = .ok (.aload_n 0, 1) := by decide +kernel
theorem dL_isWhole_222 : decode cL_isWhole 222 = .ok (.iload 8, 2) := by decide +kernel
theorem dL_isWhole_224 : decode cL_isWhole 224 = .ok (.iconst 4, 1) := by decide +kernel
theorem dL_isWhole_225 : decode cL_isWhole 225 = .ok (.invokevirtual 50, 3) := by decide +kernel
theorem dL_isWhole_228 : decode cL_isWhole 228 = .ok (.aload_n 0, 1) := by decide +kernel
theorem dL_isWhole_229 : decode cL_isWhole 229 = .ok (.iload 8, 2) := by decide +kernel
theorem dL_isWhole_231 : decode cL_isWhole 231 = .ok (.invokevirtual 112, 3) := by decide +kernel
theorem dL_isWhole_234 : decode cL_isWhole 234 = .ok (.if_icmp .ne 44, 3) := by decide +kernel
theorem dL_isWhole_237 : decode cL_isWhole 237 = .ok (.aload_n 0, 1) := by decide +kernel
theorem dL_isWhole_238 : decode cL_isWhole 238 = .ok (.iload 8, 2) := by decide +kernel
theorem dL_isWhole_240 : decode cL_isWhole 240 = .ok (.iconst 4, 1) := by decide +kernel
theorem dL_isWhole_241 : decode cL_isWhole 241 = .ok (.invokevirtual 50, 3) := by decide +kernel
theorem dL_isWhole_244 : decode cL_isWhole 244 = .ok (.aload_n 0, 1) := by decide +kernel
theorem dL_isWhole_245 : decode cL_isWhole 245 = .ok (.iload 8, 2) := by decide +kernel
theorem dL_isWhole_247 : decode cL_isWhole 247 = .ok (.iconst 0, 1) := by decide +kernel
theorem dL_isWhole_248 : decode cL_isWhole 248 = .ok (.invokevirtual 50, 3) := by decide +kernel
theorem dL_isWhole_251 : decode cL_isWhole 251 = .ok (.if_icmp .lt 27, 3) := by decide +kernel
theorem dL_isWhole_254 : decode cL_isWhole 254 = .ok (.aload_n 0, 1) := by decide +kernel
theorem dL_isWhole_255 : decode cL_isWhole 255 = .ok (.iload 8, 2) := by decide +kernel
theorem dL_isWhole_257 : decode cL_isWhole 257 = .ok (.iconst 0, 1) := by decide +kernel
theorem dL_isWhole_258 : decode cL_isWhole 258 = .ok (.invokevirtual 50, 3) := by decide +kernel
theorem dL_isWhole_261 : decode cL_isWhole 261 = .ok (.bipush 100, 2) := by decide +kernel
theorem dL_isWhole_263 : decode cL_isWhole 263 = .ok (.aload_n 0, 1) := by decide +kernel
theorem dL_isWhole_264 : decode cL_isWhole 264 = .ok (.iload 8, 2) := by decide +kernel
theorem dL_isWhole_266 : decode cL_isWhole 266 = .ok (.iconst 1, 1) := by decide +kernel
theorem dL_isWhole_267 : decode cL_isWhole 267 = .ok (.invokevirtual 50, 3) := by decide +kernel
theorem dL_isWhole_270 : decode cL_isWhole 270 = .ok (.imul, 1) := by decide +kernel
theorem dL_isWhole_271 : decode cL_isWhole 271 = .ok (.if_icmp .lt 7, 3) := by decide +kernel
theorem dL_isWhole_274 : decode cL_isWhole 274 = .ok (.iconst 1, 1) := by decide +kernel
theorem dL_isWhole_275 : decode cL_isWhole 275 = .ok (.goto 4, 3) := by decide +kernel
theorem dL_isWhole_278 : decode cL_isWhole 278 = .ok (.iconst 0, 1) := by decide +kernel
theorem dL_isWhole_279 : decode cL_isWhole 279 = .ok (.istore_n 3, 1) := by decide +kernel
theorem dL_isWhole_280 : decode cL_isWhole 280 = .ok (.iinc 8 1, 3) := by decide +kernel
theorem dL_isWhole_283 : decode cL_isWhole 283 = .ok (.goto (-94), 3) := by decide +kernel
theorem dL_isWhole_286 : decode cL_isWhole 286 = .ok (.iload_n 3, 1) := by decide +kernel
theorem dL_isWhole_287 : decode cL_isWhole 287 = .ok (.ifCond .eq 26, 3) := by decide +kernel
theorem dL_isWhole_290 : decode cL_isWhole 290 = .ok (.iload 7, 2) := by decide +kernel
theorem dL_isWhole_292 : decode cL_isWhole 292 = .ok (.iload 5, 2) := by decide +kernel
theorem dL_isWhole_294 : decode cL_isWhole 294 = .ok (.if_icmp .ne 19, 3) := by decide +kernel
theorem dL_isWhole_297 : decode cL_isWhole 297 = .ok (.iload 5, 2) := by decide +kernel
theorem dL_isWhole_299 : decode cL_isWhole 299 = .ok (.ifCond .eq 10, 3) := by decide +kernel
theorem dL_isWhole_302 : decode cL_isWhole 302 = .ok (.aload_n 1, 1) := by decide +kernel
theorem dL_isWhole_303 : decode cL_isWhole 303 = .ok (.iconst 1, 1) := by decide +kernel
theorem dL_isWhole_304 : decode cL_isWhole 304 = .ok (.iaload, 1) := by decide +kernel
theorem dL_isWhole_305 : decode cL_isWhole 305 = .ok (.iconst 1, 1) := by decide +kernel
theorem dL_isWhole_306 : decode cL_isWhole 306 = .ok (.if_icmp .ne 7, 3) := by decide +kernel
theorem dL_isWhole_309 : decode cL_isWhole 309 = .ok (.iconst 1, 1) := by decide +kernel
theorem dL_isWhole_310 : decode cL_isWhole 310 = .ok (.goto 4, 3) := by decide +kernel
theorem dL_isWhole_313 : decode cL_isWhole 313 = .ok (.iconst 0, 1) := by decide +kernel
theorem dL_isWhole_314 : decode cL_isWhole 314 = .ok (.ireturn, 1) := by decide +kernel
theorem dL_law_0 : decode cL_law 0 = .ok (.new 11, 3) := by decide +kernel
theorem dL_law_3 : decode cL_law 3 = .ok (.dup, 1) := by decide +kernel
theorem dL_law_4 : decode cL_law 4 = .ok (.invokespecial 133, 3) := by decide +kernel
theorem dL_law_7 : decode cL_law 7 = .ok (.astore_n 1, 1) := by decide +kernel
theorem dL_law_8 : decode cL_law 8 = .ok (.iconst 3, 1) := by decide +kernel
theorem dL_law_9 : decode cL_law 9 = .ok (.newarray .int, 2) := by decide +kernel
theorem dL_law_11 : decode cL_law 11 = .ok (.astore_n 2, 1) := by decide +kernel
theorem dL_law_12 : decode cL_law 12 = .ok (.bipush 20, 2) := by decide +kernel
theorem dL_law_14 : decode cL_law 14 = .ok (.newarray .int, 2) := by decide +kernel
theorem dL_law_16 : decode cL_law 16 = .ok (.astore_n 3, 1) := by decide +kernel
theorem dL_law_17 : decode cL_law 17 = .ok (.bipush 10, 2) := by decide +kernel
theorem dL_law_19 : decode cL_law 19 = .ok (.newarray .int, 2) := by decide +kernel
theorem dL_law_21 : decode cL_law 21 = .ok (.astore 4, 2) := by decide +kernel
theorem dL_law_23 : decode cL_law 23 = .ok (.aload_n 1, 1) := by decide +kernel
theorem dL_law_24 : decode cL_law 24 = .ok (.iconst 0, 1) := by decide +kernel
theorem dL_law_25 : decode cL_law 25 = .ok (.invokevirtual 123, 3) := by decide +kernel
theorem dL_law_28 : decode cL_law 28 = .ok (.iconst (-1), 1) := by decide +kernel
theorem dL_law_29 : decode cL_law 29 = .ok (.if_icmp .ne 24, 3) := by decide +kernel
theorem dL_law_32 : decode cL_law 32 = .ok (.aload_n 1, 1) := by decide +kernel
theorem dL_law_33 : decode cL_law 33 = .ok (.iconst 0, 1) := by decide +kernel
theorem dL_law_34 : decode cL_law 34 = .ok (.invokevirtual 130, 3) := by decide +kernel
theorem dL_law_37 : decode cL_law 37 = .ok (.ifCond .ne 16, 3) := by decide +kernel
theorem dL_law_40 : decode cL_law 40 = .ok (.aload_n 1, 1) := by decide +kernel
theorem dL_law_41 : decode cL_law 41 = .ok (.bipush 9, 2) := by decide +kernel
theorem dL_law_43 : decode cL_law 43 = .ok (.invokevirtual 105, 3) := by decide +kernel
theorem dL_law_46 : decode cL_law 46 = .ok (.ifCond .ne 7, 3) := by decide +kernel
theorem dL_law_49 : decode cL_law 49 = .ok (.iconst 1, 1) := by decide +kernel
theorem dL_law_50 : decode cL_law 50 = .ok (.goto 4, 3) := by decide +kernel
theorem dL_law_53 : decode cL_law 53 = .ok (.iconst 0, 1) := by decide +kernel
theorem dL_law_54 : decode cL_law 54 = .ok (.istore 5, 2) := by decide +kernel
theorem dL_law_56 : decode cL_law 56 = .ok (.aload_n 0, 1) := by decide +kernel
theorem dL_law_57 : decode cL_law 57 = .ok (.arraylength, 1) := by decide +kernel
theorem dL_law_58 : decode cL_law 58 = .ok (.iconst 3, 1) := by decide +kernel
theorem dL_law_59 : decode cL_law 59 = .ok (.idiv, 1) := by decide +kernel
theorem dL_law_60 : decode cL_law 60 = .ok (.bipush 50, 2) := by decide +kernel
theorem dL_law_62 : decode cL_law 62 = .ok (.if_icmp .le 8, 3) := by decide +kernel
theorem dL_law_65 : decode cL_law 65 = .ok (.bipush 50, 2) := by decide +kernel
theorem dL_law_67 : decode cL_law 67 = .ok (.goto 7, 3) := by decide +kernel
theorem dL_law_70 : decode cL_law 70 = .ok (.aload_n 0, 1) := by decide +kernel
theorem dL_law_71 : decode cL_law 71 = .ok (.arraylength, 1) := by decide +kernel
theorem dL_law_72 : decode cL_law 72 = .ok (.iconst 3, 1) := by decide +kernel
theorem dL_law_73 : decode cL_law 73 = .ok (.idiv, 1) := by decide +kernel
theorem dL_law_74 : decode cL_law 74 = .ok (.istore 6, 2) := by decide +kernel
theorem dL_law_76 : decode cL_law 76 = .ok (.iconst 0, 1) := by decide +kernel
theorem dL_law_77 : decode cL_law 77 = .ok (.istore 7, 2) := by decide +kernel
theorem dL_law_79 : decode cL_law 79 = .ok (.iload 7, 2) := by decide +kernel
theorem dL_law_81 : decode cL_law 81 = .ok (.iload 6, 2) := by decide +kernel
theorem dL_law_83 : decode cL_law 83 = .ok (.if_icmp .ge 76, 3) := by decide +kernel
theorem dL_law_86 : decode cL_law 86 = .ok (.iload 5, 2) := by decide +kernel
theorem dL_law_88 : decode cL_law 88 = .ok (.ifCond .eq 71, 3) := by decide +kernel
theorem dL_law_91 : decode cL_law 91 = .ok (.aload_n 1, 1) := by decide +kernel
theorem dL_law_92 : decode cL_law 92 = .ok (.aload_n 2, 1) := by decide +kernel
theorem dL_law_93 : decode cL_law 93 = .ok (.aload_n 3, 1) := by decide +kernel
theorem dL_law_94 : decode cL_law 94 = .ok (.aload 4, 2) := by decide +kernel
theorem dL_law_96 : decode cL_law 96 = .ok (.aload_n 0, 1) := by decide +kernel
theorem dL_law_97 : decode cL_law 97 = .ok (.iconst 3, 1) := by decide +kernel
theorem dL_law_98 : decode cL_law 98 = .ok (.iload 7, 2) := by decide +kernel
theorem dL_law_100 : decode cL_law 100 = .ok (.imul, 1) := by decide +kernel
theorem dL_law_101 : decode cL_law 101 = .ok (.invokestatic 134, 3) := by decide +kernel
theorem dL_law_104 : decode cL_law 104 = .ok (.aload_n 0, 1) := by decide +kernel
theorem dL_law_105 : decode cL_law 105 = .ok (.iconst 3, 1) := by decide +kernel
theorem dL_law_106 : decode cL_law 106 = .ok (.iload 7, 2) := by decide +kernel
theorem dL_law_108 : decode cL_law 108 = .ok (.imul, 1) := by decide +kernel
theorem dL_law_109 : decode cL_law 109 = .ok (.iconst 1, 1) := by decide +kernel
theorem dL_law_110 : decode cL_law 110 = .ok (.iadd, 1) := by decide +kernel
theorem dL_law_111 : decode cL_law 111 = .ok (.invokestatic 134, 3) := by decide +kernel
theorem dL_law_114 : decode cL_law 114 = .ok (.aload_n 0, 1) := by decide +kernel
theorem dL_law_115 : decode cL_law 115 = .ok (.iconst 3, 1) := by decide +kernel
theorem dL_law_116 : decode cL_law 116 = .ok (.iload 7, 2) := by decide +kernel
theorem dL_law_118 : decode cL_law 118 = .ok (.imul, 1) := by decide +kernel
theorem dL_law_119 : decode cL_law 119 = .ok (.iconst 2, 1) := by decide +kernel
theorem dL_law_120 : decode cL_law 120 = .ok (.iadd, 1) := by decide +kernel
theorem dL_law_121 : decode cL_law 121 = .ok (.invokestatic 134, 3) := by decide +kernel
theorem dL_law_124 : decode cL_law 124 = .ok (.invokestatic 138, 3) := by decide +kernel
theorem dL_law_127 : decode cL_law 127 = .ok (.ifCond .eq 23, 3) := by decide +kernel
theorem dL_law_130 : decode cL_law 130 = .ok (.iload 7, 2) := by decide +kernel
theorem dL_law_132 : decode cL_law 132 = .ok (.iconst 3, 1) := by decide +kernel
theorem dL_law_133 : decode cL_law 133 = .ok (.irem, 1) := by decide +kernel
theorem dL_law_134 : decode cL_law 134 = .ok (.ifCond .gt 12, 3) := by decide +kernel
theorem dL_law_137 : decode cL_law 137 = .ok (.aload_n 1, 1) := by decide +kernel
theorem dL_law_138 : decode cL_law 138 = .ok (.aload_n 2, 1) := by decide +kernel
theorem dL_law_139 : decode cL_law 139 = .ok (.aload_n 3, 1) := by decide +kernel
theorem dL_law_140 : decode cL_law 140 = .ok (.invokestatic 142, 3) := by decide +kernel
theorem dL_law_143 : decode cL_law 143 = .ok (.ifCond .eq 7, 3) := by decide +kernel
theorem dL_law_146 : decode cL_law 146 = .ok (.iconst 1, 1) := by decide +kernel
theorem dL_law_147 : decode cL_law 147 = .ok (.goto 4, 3) := by decide +kernel
theorem dL_law_150 : decode cL_law 150 = .ok (.iconst 0, 1) := by decide +kernel
theorem dL_law_151 : decode cL_law 151 = .ok (.istore 5, 2) := by decide +kernel
theorem dL_law_153 : decode cL_law 153 = .ok (.iinc 7 1, 3) := by decide +kernel
theorem dL_law_156 : decode cL_law 156 = .ok (.goto (-77), 3) := by decide +kernel
theorem dL_law_159 : decode cL_law 159 = .ok (.iload 5, 2) := by decide +kernel
theorem dL_law_161 : decode cL_law 161 = .ok (.ifCond .eq 16, 3) := by decide +kernel
theorem dL_law_164 : decode cL_law 164 = .ok (.aload_n 1, 1) := by decide +kernel
theorem dL_law_165 : decode cL_law 165 = .ok (.aload_n 2, 1) := by decide +kernel
theorem dL_law_166 : decode cL_law 166 = .ok (.aload_n 3, 1) := by decide +kernel
theorem dL_law_167 : decode cL_law 167 = .ok (.invokestatic 142, 3) := by decide +kernel
theorem dL_law_170 : decode cL_law 170 = .ok (.ifCond .eq 7, 3) := by decide +kernel
theorem dL_law_173 : decode cL_law 173 = .ok (.iconst 1, 1) := by decide +kernel
theorem dL_law_174 : decode cL_law 174 = .ok (.goto 4, 3) := by decide +kernel
theorem dL_law_177 : decode cL_law 177 = .ok (.iconst 0, 1) := by decide +kernel
theorem dL_law_178 : decode cL_law 178 = .ok (.ireturn, 1) := by decide +kernel
