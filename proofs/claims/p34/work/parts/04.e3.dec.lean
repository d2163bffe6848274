theorem dL_built_867 : decode cL_built 867 = .ok (.lcmp, 1) := by decide +kernel
theorem dL_built_868 : decode cL_built 868 = .ok (.ifCond .ne 135, 3) := by decide +kernel
theorem dL_built_871 : decode cL_built 871 = .ok (.lload 21, 2) := by decide +kernel
theorem dL_built_873 : decode cL_built 873 = .ok (.lconst 0, 1) := by decide +kernel
theorem dL_built_874 : decode cL_built 874 = .ok (.lcmp, 1) := by decide +kernel
theorem dL_built_875 : decode cL_built 875 = .ok (.ifCond .eq 21, 3) := by decide +kernel
theorem dL_built_878 : decode cL_built 878 = .ok (.aload_n 0, 1) := by decide +kernel
theorem dL_built_879 : decode cL_built 879 = .ok (.iload 20, 2) := by decide +kernel
theorem dL_built_881 : decode cL_built 881 = .ok (.lload 21, 2) := by decide +kernel
theorem dL_built_883 : decode cL_built 883 = .ok (.l2i, 1) := by decide +kernel
theorem dL_built_884 : decode cL_built 884 = .ok (.iconst 1, 1) := by decide +kernel
theorem dL_built_885 : decode cL_built 885 = .ok (.isub, 1) := by decide +kernel
theorem dL_built_886 : decode cL_built 886 = .ok (.invokestatic 163, 3) := by decide +kernel
theorem dL_built_889 : decode cL_built 889 = .ok (.ldc2_w 204, 3) := by decide +kernel
theorem dL_built_892 : decode cL_built 892 = .ok (.lcmp, 1) := by decide +kernel
theorem dL_built_893 : decode cL_built 893 = .ok (.ifCond .eq 110, 3) := by decide +kernel
theorem dL_built_896 : decode cL_built 896 = .ok (.aload_n 0, 1) := by decide +kernel
theorem dL_built_897 : decode cL_built 897 = .ok (.iload 20, 2) := by decide +kernel
theorem dL_built_899 : decode cL_built 899 = .ok (.iconst 2, 1) := by decide +kernel
theorem dL_built_900 : decode cL_built 900 = .ok (.invokestatic 161, 3) := by decide +kernel
theorem dL_built_903 : decode cL_built 903 = .ok (.lconst 0, 1) := by decide +kernel
theorem dL_built_904 : decode cL_built 904 = .ok (.aload_n 0, 1) := by decide +kernel
theorem dL_built_905 : decode cL_built 905 = .ok (.iconst 3, 1) := by decide +kernel
theorem dL_built_906 : decode cL_built 906 = .ok (.invokestatic 109, 3) := by decide +kernel
theorem dL_built_909 : decode cL_built 909 = .ok (.lconst 1, 1) := by decide +kernel
theorem dL_built_910 : decode cL_built 910 = .ok (.lsub, 1) := by decide +kernel
theorem dL_built_911 : decode cL_built 911 = .ok (.invokestatic 200, 3) := by decide +kernel
theorem dL_built_914 : decode cL_built 914 = .ok (.ifCond .eq 89, 3) := by decide +kernel
theorem dL_built_917 : decode cL_built 917 = .ok (.aload_n 0, 1) := by decide +kernel
theorem dL_built_918 : decode cL_built 918 = .ok (.iload 20, 2) := by decide +kernel
theorem dL_built_920 : decode cL_built 920 = .ok (.iconst 0, 1) := by decide +kernel
theorem dL_built_921 : decode cL_built 921 = .ok (.invokestatic 161, 3) := by decide +kernel
theorem dL_built_924 : decode cL_built 924 = .ok (.lconst 1, 1) := by decide +kernel
theorem dL_built_925 : decode cL_built 925 = .ok (.lcmp, 1) := by decide +kernel
theorem dL_built_926 : decode cL_built 926 = .ok (.ifCond .ne 52, 3) := by decide +kernel
theorem dL_built_929 : decode cL_built 929 = .ok (.aload_n 0, 1) := by decide +kernel
theorem dL_built_930 : decode cL_built 930 = .ok (.iload 20, 2) := by decide +kernel
theorem dL_built_932 : decode cL_built 932 = .ok (.iconst 1, 1) := by decide +kernel
theorem dL_built_933 : decode cL_built 933 = .ok (.isub, 1) := by decide +kernel
theorem dL_built_934 : decode cL_built 934 = .ok (.iconst 0, 1) := by decide +kernel
theorem dL_built_935 : decode cL_built 935 = .ok (.invokestatic 161, 3) := by decide +kernel
theorem dL_built_938 : decode cL_built 938 = .ok (.lconst 0, 1) := by decide +kernel
theorem dL_built_939 : decode cL_built 939 = .ok (.lcmp, 1) := by decide +kernel
theorem dL_built_940 : decode cL_built 940 = .ok (.ifCond .ne 63, 3) := by decide +kernel
theorem dL_built_943 : decode cL_built 943 = .ok (.aload_n 0, 1) := by decide +kernel
theorem dL_built_944 : decode cL_built 944 = .ok (.iload 20, 2) := by decide +kernel
theorem dL_built_946 : decode cL_built 946 = .ok (.iconst 1, 1) := by decide +kernel
theorem dL_built_947 : decode cL_built 947 = .ok (.isub, 1) := by decide +kernel
theorem dL_built_948 : decode cL_built 948 = .ok (.iconst 1, 1) := by decide +kernel
theorem dL_built_949 : decode cL_built 949 = .ok (.invokestatic 161, 3) := by decide +kernel
theorem dL_built_952 : decode cL_built 952 = .ok (.lload 21, 2) := by decide +kernel
theorem dL_built_954 : decode cL_built 954 = .ok (.lcmp, 1) := by decide +kernel
theorem dL_built_955 : decode cL_built 955 = .ok (.ifCond .ne 48, 3) := by decide +kernel
theorem dL_built_958 : decode cL_built 958 = .ok (.aload_n 0, 1) := by decide +kernel
theorem dL_built_959 : decode cL_built 959 = .ok (.iload 20, 2) := by decide +kernel
theorem dL_built_961 : decode cL_built 961 = .ok (.iconst 1, 1) := by decide +kernel
theorem dL_built_962 : decode cL_built 962 = .ok (.isub, 1) := by decide +kernel
theorem dL_built_963 : decode cL_built 963 = .ok (.iconst 2, 1) := by decide +kernel
theorem dL_built_964 : decode cL_built 964 = .ok (.invokestatic 161, 3) := by decide +kernel
theorem dL_built_967 : decode cL_built 967 = .ok (.aload_n 0, 1) := by decide +kernel
theorem dL_built_968 : decode cL_built 968 = .ok (.iload 20, 2) := by decide +kernel
theorem dL_built_970 : decode cL_built 970 = .ok (.iconst 2, 1) := by decide +kernel
theorem dL_built_971 : decode cL_built 971 = .ok (.invokestatic 161, 3) := by decide +kernel
theorem dL_built_974 : decode cL_built 974 = .ok (.lcmp, 1) := by decide +kernel
theorem dL_built_975 : decode cL_built 975 = .ok (.ifCond .ne 28, 3) := by decide +kernel
theorem dL_built_978 : decode cL_built 978 = .ok (.aload_n 0, 1) := by decide +kernel
theorem dL_built_979 : decode cL_built 979 = .ok (.iload 20, 2) := by decide +kernel
theorem dL_built_981 : decode cL_built 981 = .ok (.iconst 0, 1) := by decide +kernel
theorem dL_built_982 : decode cL_built 982 = .ok (.invokestatic 161, 3) := by decide +kernel
theorem dL_built_985 : decode cL_built 985 = .ok (.ldc2_w 210, 3) := by decide +kernel
theorem dL_built_988 : decode cL_built 988 = .ok (.lcmp, 1) := by decide +kernel
theorem dL_built_989 : decode cL_built 989 = .ok (.ifCond .lt 10, 3) := by decide +kernel
theorem dL_built_992 : decode cL_built 992 = .ok (.lload 21, 2) := by decide +kernel
theorem dL_built_994 : decode cL_built 994 = .ok (.lload_n 2, 1) := by decide +kernel
theorem dL_built_995 : decode cL_built 995 = .ok (.lcmp, 1) := by decide +kernel
theorem dL_built_996 : decode cL_built 996 = .ok (.ifCond .gt 7, 3) := by decide +kernel
theorem dL_built_999 : decode cL_built 999 = .ok (.iconst 1, 1) := by decide +kernel
theorem dL_built_1000 : decode cL_built 1000 = .ok (.goto 4, 3) := by decide +kernel
theorem dL_built_1003 : decode cL_built 1003 = .ok (.iconst 0, 1) := by decide +kernel
theorem dL_built_1004 : decode cL_built 1004 = .ok (.istore 14, 2) := by decide +kernel
theorem dL_built_1006 : decode cL_built 1006 = .ok (.iinc 20 1, 3) := by decide +kernel
theorem dL_built_1009 : decode cL_built 1009 = .ok (.goto (-197), 3) := by decide +kernel
theorem dL_built_1012 : decode cL_built 1012 = .ok (.iload 14, 2) := by decide +kernel
theorem dL_built_1014 : decode cL_built 1014 = .ok (.ifCond .eq 136, 3) := by decide +kernel
theorem dL_built_1017 : decode cL_built 1017 = .ok (.aload_n 0, 1) := by decide +kernel
theorem dL_built_1018 : decode cL_built 1018 = .ok (.iconst 1, 1) := by decide +kernel
theorem dL_built_1019 : decode cL_built 1019 = .ok (.invokestatic 109, 3) := by decide +kernel
theorem dL_built_1022 : decode cL_built 1022 = .ok (.lload 6, 2) := by decide +kernel
theorem dL_built_1024 : decode cL_built 1024 = .ok (.lcmp, 1) := by decide +kernel
theorem dL_built_1025 : decode cL_built 1025 = .ok (.ifCond .ne 125, 3) := by decide +kernel
theorem dL_built_1028 : decode cL_built 1028 = .ok (.aload_n 0, 1) := by decide +kernel
theorem dL_built_1029 : decode cL_built 1029 = .ok (.iconst 2, 1) := by decide +kernel
theorem dL_built_1030 : decode cL_built 1030 = .ok (.invokestatic 109, 3) := by decide +kernel
theorem dL_built_1033 : decode cL_built 1033 = .ok (.lload 8, 2) := by decide +kernel
theorem dL_built_1035 : decode cL_built 1035 = .ok (.lcmp, 1) := by decide +kernel
theorem dL_built_1036 : decode cL_built 1036 = .ok (.ifCond .ne 114, 3) := by decide +kernel
theorem dL_built_1039 : decode cL_built 1039 = .ok (.aload_n 0, 1) := by decide +kernel
theorem dL_built_1040 : decode cL_built 1040 = .ok (.iconst 3, 1) := by decide +kernel
theorem dL_built_1041 : decode cL_built 1041 = .ok (.invokestatic 109, 3) := by decide +kernel
theorem dL_built_1044 : decode cL_built 1044 = .ok (.iload_n 1, 1) := by decide +kernel
theorem dL_built_1045 : decode cL_built 1045 = .ok (.ifCond .ne 7, 3) := by decide +kernel
theorem dL_built_1048 : decode cL_built 1048 = .ok (.lconst 0, 1) := by decide +kernel
theorem dL_built_1049 : decode cL_built 1049 = .ok (.goto 13, 3) := by decide +kernel
theorem dL_built_1052 : decode cL_built 1052 = .ok (.aload_n 0, 1) := by decide +kernel
theorem dL_built_1053 : decode cL_built 1053 = .ok (.iload_n 1, 1) := by decide +kernel
theorem dL_built_1054 : decode cL_built 1054 = .ok (.iconst 1, 1) := by decide +kernel
theorem dL_built_1055 : decode cL_built 1055 = .ok (.isub, 1) := by decide +kernel
theorem dL_built_1056 : decode cL_built 1056 = .ok (.iconst 4, 1) := by decide +kernel
theorem dL_built_1057 : decode cL_built 1057 = .ok (.invokestatic 124, 3) := by decide +kernel
theorem dL_built_1060 : decode cL_built 1060 = .ok (.lconst 1, 1) := by decide +kernel
theorem dL_built_1061 : decode cL_built 1061 = .ok (.ladd, 1) := by decide +kernel
theorem dL_built_1062 : decode cL_built 1062 = .ok (.lcmp, 1) := by decide +kernel
theorem dL_built_1063 : decode cL_built 1063 = .ok (.ifCond .ne 87, 3) := by decide +kernel
theorem dL_built_1066 : decode cL_built 1066 = .ok (.aload_n 0, 1) := by decide +kernel
theorem dL_built_1067 : decode cL_built 1067 = .ok (.iconst 4, 1) := by decide +kernel
theorem dL_built_1068 : decode cL_built 1068 = .ok (.invokestatic 109, 3) := by decide +kernel
theorem dL_built_1071 : decode cL_built 1071 = .ok (.lload 15, 2) := by decide +kernel
theorem dL_built_1073 : decode cL_built 1073 = .ok (.lcmp, 1) := by decide +kernel
theorem dL_built_1074 : decode cL_built 1074 = .ok (.ifCond .ne 76, 3) := by decide +kernel
theorem dL_built_1077 : decode cL_built 1077 = .ok (.lload 18, 2) := by decide +kernel
theorem dL_built_1079 : decode cL_built 1079 = .ok (.lload 15, 2) := by decide +kernel
theorem dL_built_1081 : decode cL_built 1081 = .ok (.lcmp, 1) := by decide +kernel
theorem dL_built_1082 : decode cL_built 1082 = .ok (.ifCond .ne 68, 3) := by decide +kernel
theorem dL_built_1085 : decode cL_built 1085 = .ok (.aload_n 0, 1) := by decide +kernel
theorem dL_built_1086 : decode cL_built 1086 = .ok (.iconst 5, 1) := by decide +kernel
theorem dL_built_1087 : decode cL_built 1087 = .ok (.invokestatic 109, 3) := by decide +kernel
theorem dL_built_1090 : decode cL_built 1090 = .ok (.ldc2_w 210, 3) := by decide +kernel
theorem dL_built_1093 : decode cL_built 1093 = .ok (.lload 15, 2) := by decide +kernel
theorem dL_built_1095 : decode cL_built 1095 = .ok (.lmul, 1) := by decide +kernel
theorem dL_built_1096 : decode cL_built 1096 = .ok (.lload 12, 2) := by decide +kernel
theorem dL_built_1098 : decode cL_built 1098 = .ok (.ladd, 1) := by decide +kernel
theorem dL_built_1099 : decode cL_built 1099 = .ok (.lcmp, 1) := by decide +kernel
theorem dL_built_1100 : decode cL_built 1100 = .ok (.ifCond .ne 50, 3) := by decide +kernel
theorem dL_built_1103 : decode cL_built 1103 = .ok (.aload_n 0, 1) := by decide +kernel
theorem dL_built_1104 : decode cL_built 1104 = .ok (.bipush 6, 2) := by decide +kernel
theorem dL_built_1106 : decode cL_built 1106 = .ok (.invokestatic 109, 3) := by decide +kernel
theorem dL_built_1109 : decode cL_built 1109 = .ok (.lload 10, 2) := by decide +kernel
theorem dL_built_1111 : decode cL_built 1111 = .ok (.lcmp, 1) := by decide +kernel
theorem dL_built_1112 : decode cL_built 1112 = .ok (.ifCond .ne 38, 3) := by decide +kernel
theorem dL_built_1115 : decode cL_built 1115 = .ok (.aload_n 0, 1) := by decide +kernel
theorem dL_built_1116 : decode cL_built 1116 = .ok (.bipush 8, 2) := by decide +kernel
theorem dL_built_1118 : decode cL_built 1118 = .ok (.invokestatic 109, 3) := by decide +kernel
theorem dL_built_1121 : decode cL_built 1121 = .ok (.lload 6, 2) := by decide +kernel
theorem dL_built_1123 : decode cL_built 1123 = .ok (.lload 8, 2) := by decide +kernel
theorem dL_built_1125 : decode cL_built 1125 = .ok (.lsub, 1) := by decide +kernel
theorem dL_built_1126 : decode cL_built 1126 = .ok (.lcmp, 1) := by decide +kernel
theorem dL_built_1127 : decode cL_built 1127 = .ok (.ifCond .gt 23, 3) := by decide +kernel
theorem dL_built_1130 : decode cL_built 1130 = .ok (.aload_n 0, 1) := by decide +kernel
theorem dL_built_1131 : decode cL_built 1131 = .ok (.bipush 7, 2) := by decide +kernel
theorem dL_built_1133 : decode cL_built 1133 = .ok (.invokestatic 109, 3) := by decide +kernel
theorem dL_built_1136 : decode cL_built 1136 = .ok (.lconst 0, 1) := by decide +kernel
theorem dL_built_1137 : decode cL_built 1137 = .ok (.ldc2_w 212, 3) := by decide +kernel
theorem dL_built_1140 : decode cL_built 1140 = .ok (.invokestatic 200, 3) := by decide +kernel
theorem dL_built_1143 : decode cL_built 1143 = .ok (.ifCond .eq 7, 3) := by decide +kernel
theorem dL_built_1146 : decode cL_built 1146 = .ok (.iconst 1, 1) := by decide +kernel
theorem dL_built_1147 : decode cL_built 1147 = .ok (.goto 4, 3) := by decide +kernel
theorem dL_built_1150 : decode cL_built 1150 = .ok (.iconst 0, 1) := by decide +kernel
theorem dL_built_1151 : decode cL_built 1151 = .ok (.ireturn, 1) := by decide +kernel
