theorem dL_840 : decode code 840 = .ok (.invokevirtual 105, 3) := by decide +kernel
theorem dL_843 : decode code 843 = .ok (.if_icmp .eq 573, 3) := by decide +kernel
theorem dL_848 : decode code 848 = .ok (.aload_n 1, 1) := by decide +kernel
theorem dL_849 : decode code 849 = .ok (.aload_n 0, 1) := by decide +kernel
theorem dL_850 : decode code 850 = .ok (.iload_n 3, 1) := by decide +kernel
theorem dL_851 : decode code 851 = .ok (.iconst 1, 1) := by decide +kernel
theorem dL_852 : decode code 852 = .ok (.iadd, 1) := by decide +kernel
theorem dL_853 : decode code 853 = .ok (.iaload, 1) := by decide +kernel
theorem dL_854 : decode code 854 = .ok (.aload_n 0, 1) := by decide +kernel
theorem dL_855 : decode code 855 = .ok (.iload_n 3, 1) := by decide +kernel
theorem dL_856 : decode code 856 = .ok (.iconst 2, 1) := by decide +kernel
theorem dL_857 : decode code 857 = .ok (.iadd, 1) := by decide +kernel
theorem dL_858 : decode code 858 = .ok (.iaload, 1) := by decide +kernel
theorem dL_859 : decode code 859 = .ok (.invokevirtual 106, 3) := by decide +kernel
theorem dL_862 : decode code 862 = .ok (.aload_n 2, 1) := by decide +kernel
theorem dL_863 : decode code 863 = .ok (.aload_n 0, 1) := by decide +kernel
theorem dL_864 : decode code 864 = .ok (.iload_n 3, 1) := by decide +kernel
theorem dL_865 : decode code 865 = .ok (.iconst 1, 1) := by decide +kernel
theorem dL_866 : decode code 866 = .ok (.iadd, 1) := by decide +kernel
theorem dL_867 : decode code 867 = .ok (.iaload, 1) := by decide +kernel
theorem dL_868 : decode code 868 = .ok (.aload_n 0, 1) := by decide +kernel
theorem dL_869 : decode code 869 = .ok (.iload_n 3, 1) := by decide +kernel
theorem dL_870 : decode code 870 = .ok (.iconst 2, 1) := by decide +kernel
theorem dL_871 : decode code 871 = .ok (.iadd, 1) := by decide +kernel
theorem dL_872 : decode code 872 = .ok (.iaload, 1) := by decide +kernel
theorem dL_873 : decode code 873 = .ok (.invokevirtual 109, 3) := by decide +kernel
theorem dL_876 : decode code 876 = .ok (.if_icmp .eq 540, 3) := by decide +kernel
theorem dL_881 : decode code 881 = .ok (.aload_n 1, 1) := by decide +kernel
theorem dL_882 : decode code 882 = .ok (.aload_n 0, 1) := by decide +kernel
theorem dL_883 : decode code 883 = .ok (.iload_n 3, 1) := by decide +kernel
theorem dL_884 : decode code 884 = .ok (.iconst 1, 1) := by decide +kernel
theorem dL_885 : decode code 885 = .ok (.iadd, 1) := by decide +kernel
theorem dL_886 : decode code 886 = .ok (.iaload, 1) := by decide +kernel
theorem dL_887 : decode code 887 = .ok (.aload_n 0, 1) := by decide +kernel
theorem dL_888 : decode code 888 = .ok (.iload_n 3, 1) := by decide +kernel
theorem dL_889 : decode code 889 = .ok (.iconst 2, 1) := by decide +kernel
theorem dL_890 : decode code 890 = .ok (.iadd, 1) := by decide +kernel
theorem dL_891 : decode code 891 = .ok (.iaload, 1) := by decide +kernel
theorem dL_892 : decode code 892 = .ok (.invokevirtual 110, 3) := by decide +kernel
theorem dL_895 : decode code 895 = .ok (.aload_n 2, 1) := by decide +kernel
theorem dL_896 : decode code 896 = .ok (.aload_n 0, 1) := by decide +kernel
theorem dL_897 : decode code 897 = .ok (.iload_n 3, 1) := by decide +kernel
theorem dL_898 : decode code 898 = .ok (.iconst 1, 1) := by decide +kernel
theorem dL_899 : decode code 899 = .ok (.iadd, 1) := by decide +kernel
theorem dL_900 : decode code 900 = .ok (.iaload, 1) := by decide +kernel
theorem dL_901 : decode code 901 = .ok (.aload_n 0, 1) := by decide +kernel
theorem dL_902 : decode code 902 = .ok (.iload_n 3, 1) := by decide +kernel
theorem dL_903 : decode code 903 = .ok (.iconst 2, 1) := by decide +kernel
theorem dL_904 : decode code 904 = .ok (.iadd, 1) := by decide +kernel
theorem dL_905 : decode code 905 = .ok (.iaload, 1) := by decide +kernel
theorem dL_906 : decode code 906 = .ok (.invokevirtual 114, 3) := by decide +kernel
theorem dL_909 : decode code 909 = .ok (.lcmp, 1) := by decide +kernel
theorem dL_910 : decode code 910 = .ok (.ifCond .eq 506, 3) := by decide +kernel
theorem dL_915 : decode code 915 = .ok (.aload_n 1, 1) := by decide +kernel
theorem dL_916 : decode code 916 = .ok (.aload_n 0, 1) := by decide +kernel
theorem dL_917 : decode code 917 = .ok (.iload_n 3, 1) := by decide +kernel
theorem dL_918 : decode code 918 = .ok (.iconst 1, 1) := by decide +kernel
theorem dL_919 : decode code 919 = .ok (.iadd, 1) := by decide +kernel
theorem dL_920 : decode code 920 = .ok (.iaload, 1) := by decide +kernel
theorem dL_921 : decode code 921 = .ok (.aload_n 0, 1) := by decide +kernel
theorem dL_922 : decode code 922 = .ok (.iload_n 3, 1) := by decide +kernel
theorem dL_923 : decode code 923 = .ok (.iconst 2, 1) := by decide +kernel
theorem dL_924 : decode code 924 = .ok (.iadd, 1) := by decide +kernel
theorem dL_925 : decode code 925 = .ok (.iaload, 1) := by decide +kernel
theorem dL_926 : decode code 926 = .ok (.aload_n 0, 1) := by decide +kernel
theorem dL_927 : decode code 927 = .ok (.iload_n 3, 1) := by decide +kernel
theorem dL_928 : decode code 928 = .ok (.iconst 3, 1) := by decide +kernel
theorem dL_929 : decode code 929 = .ok (.iadd, 1) := by decide +kernel
theorem dL_930 : decode code 930 = .ok (.iaload, 1) := by decide +kernel
theorem dL_931 : decode code 931 = .ok (.invokevirtual 115, 3) := by decide +kernel
theorem dL_934 : decode code 934 = .ok (.aload_n 2, 1) := by decide +kernel
theorem dL_935 : decode code 935 = .ok (.aload_n 0, 1) := by decide +kernel
theorem dL_936 : decode code 936 = .ok (.iload_n 3, 1) := by decide +kernel
theorem dL_937 : decode code 937 = .ok (.iconst 1, 1) := by decide +kernel
theorem dL_938 : decode code 938 = .ok (.iadd, 1) := by decide +kernel
theorem dL_939 : decode code 939 = .ok (.iaload, 1) := by decide +kernel
theorem dL_940 : decode code 940 = .ok (.aload_n 0, 1) := by decide +kernel
theorem dL_941 : decode code 941 = .ok (.iload_n 3, 1) := by decide +kernel
theorem dL_942 : decode code 942 = .ok (.iconst 2, 1) := by decide +kernel
theorem dL_943 : decode code 943 = .ok (.iadd, 1) := by decide +kernel
theorem dL_944 : decode code 944 = .ok (.iaload, 1) := by decide +kernel
theorem dL_945 : decode code 945 = .ok (.aload_n 0, 1) := by decide +kernel
theorem dL_946 : decode code 946 = .ok (.iload_n 3, 1) := by decide +kernel
theorem dL_947 : decode code 947 = .ok (.iconst 3, 1) := by decide +kernel
theorem dL_948 : decode code 948 = .ok (.iadd, 1) := by decide +kernel
theorem dL_949 : decode code 949 = .ok (.iaload, 1) := by decide +kernel
theorem dL_950 : decode code 950 = .ok (.invokevirtual 118, 3) := by decide +kernel
theorem dL_953 : decode code 953 = .ok (.if_icmp .eq 463, 3) := by decide +kernel
theorem dL_958 : decode code 958 = .ok (.aload_n 1, 1) := by decide +kernel
theorem dL_959 : decode code 959 = .ok (.aload_n 0, 1) := by decide +kernel
theorem dL_960 : decode code 960 = .ok (.iload_n 3, 1) := by decide +kernel
theorem dL_961 : decode code 961 = .ok (.iconst 1, 1) := by decide +kernel
theorem dL_962 : decode code 962 = .ok (.iadd, 1) := by decide +kernel
theorem dL_963 : decode code 963 = .ok (.iaload, 1) := by decide +kernel
theorem dL_964 : decode code 964 = .ok (.aload_n 0, 1) := by decide +kernel
theorem dL_965 : decode code 965 = .ok (.iload_n 3, 1) := by decide +kernel
theorem dL_966 : decode code 966 = .ok (.iconst 2, 1) := by decide +kernel
theorem dL_967 : decode code 967 = .ok (.iadd, 1) := by decide +kernel
theorem dL_968 : decode code 968 = .ok (.iaload, 1) := by decide +kernel
theorem dL_969 : decode code 969 = .ok (.aload_n 0, 1) := by decide +kernel
theorem dL_970 : decode code 970 = .ok (.iload_n 3, 1) := by decide +kernel
theorem dL_971 : decode code 971 = .ok (.iconst 3, 1) := by decide +kernel
theorem dL_972 : decode code 972 = .ok (.iadd, 1) := by decide +kernel
theorem dL_973 : decode code 973 = .ok (.iaload, 1) := by decide +kernel
theorem dL_974 : decode code 974 = .ok (.aload_n 0, 1) := by decide +kernel
theorem dL_975 : decode code 975 = .ok (.iload_n 3, 1) := by decide +kernel
theorem dL_976 : decode code 976 = .ok (.iconst 4, 1) := by decide +kernel
theorem dL_977 : decode code 977 = .ok (.iadd, 1) := by decide +kernel
theorem dL_978 : decode code 978 = .ok (.iaload, 1) := by decide +kernel
theorem dL_979 : decode code 979 = .ok (.aload_n 0, 1) := by decide +kernel
theorem dL_980 : decode code 980 = .ok (.iload_n 3, 1) := by decide +kernel
theorem dL_981 : decode code 981 = .ok (.iconst 5, 1) := by decide +kernel
theorem dL_982 : decode code 982 = .ok (.iadd, 1) := by decide +kernel
theorem dL_983 : decode code 983 = .ok (.iaload, 1) := by decide +kernel
theorem dL_984 : decode code 984 = .ok (.invokevirtual 119, 3) := by decide +kernel
theorem dL_987 : decode code 987 = .ok (.aload_n 2, 1) := by decide +kernel
theorem dL_988 : decode code 988 = .ok (.aload_n 0, 1) := by decide +kernel
theorem dL_989 : decode code 989 = .ok (.iload_n 3, 1) := by decide +kernel
theorem dL_990 : decode code 990 = .ok (.iconst 1, 1) := by decide +kernel
theorem dL_991 : decode code 991 = .ok (.iadd, 1) := by decide +kernel
theorem dL_992 : decode code 992 = .ok (.iaload, 1) := by decide +kernel
theorem dL_993 : decode code 993 = .ok (.aload_n 0, 1) := by decide +kernel
theorem dL_994 : decode code 994 = .ok (.iload_n 3, 1) := by decide +kernel
theorem dL_995 : decode code 995 = .ok (.iconst 2, 1) := by decide +kernel
theorem dL_996 : decode code 996 = .ok (.iadd, 1) := by decide +kernel
theorem dL_997 : decode code 997 = .ok (.iaload, 1) := by decide +kernel
theorem dL_998 : decode code 998 = .ok (.aload_n 0, 1) := by decide +kernel
theorem dL_999 : decode code 999 = .ok (.iload_n 3, 1) := by decide +kernel
theorem dL_1000 : decode code 1000 = .ok (.iconst 3, 1) := by decide +kernel
theorem dL_1001 : decode code 1001 = .ok (.iadd, 1) := by decide +kernel
theorem dL_1002 : decode code 1002 = .ok (.iaload, 1) := by decide +kernel
theorem dL_1003 : decode code 1003 = .ok (.aload_n 0, 1) := by decide +kernel
theorem dL_1004 : decode code 1004 = .ok (.iload_n 3, 1) := by decide +kernel
theorem dL_1005 : decode code 1005 = .ok (.iconst 4, 1) := by decide +kernel
theorem dL_1006 : decode code 1006 = .ok (.iadd, 1) := by decide +kernel
theorem dL_1007 : decode code 1007 = .ok (.iaload, 1) := by decide +kernel
theorem dL_1008 : decode code 1008 = .ok (.aload_n 0, 1) := by decide +kernel
theorem dL_1009 : decode code 1009 = .ok (.iload_n 3, 1) := by decide +kernel
theorem dL_1010 : decode code 1010 = .ok (.iconst 5, 1) := by decide +kernel
theorem dL_1011 : decode code 1011 = .ok (.iadd, 1) := by decide +kernel
theorem dL_1012 : decode code 1012 = .ok (.iaload, 1) := by decide +kernel
theorem dL_1013 : decode code 1013 = .ok (.invokevirtual 122, 3) := by decide +kernel
theorem dL_1016 : decode code 1016 = .ok (.if_icmp .eq 400, 3) := by decide +kernel
theorem dL_1021 : decode code 1021 = .ok (.aload_n 1, 1) := by decide +kernel
theorem dL_1022 : decode code 1022 = .ok (.aload_n 0, 1) := by decide +kernel
theorem dL_1023 : decode code 1023 = .ok (.iload_n 3, 1) := by decide +kernel
theorem dL_1024 : decode code 1024 = .ok (.iconst 1, 1) := by decide +kernel
theorem dL_1025 : decode code 1025 = .ok (.iadd, 1) := by decide +kernel
theorem dL_1026 : decode code 1026 = .ok (.iaload, 1) := by decide +kernel
theorem dL_1027 : decode code 1027 = .ok (.aload_n 0, 1) := by decide +kernel
theorem dL_1028 : decode code 1028 = .ok (.iload_n 3, 1) := by decide +kernel
theorem dL_1029 : decode code 1029 = .ok (.iconst 2, 1) := by decide +kernel
theorem dL_1030 : decode code 1030 = .ok (.iadd, 1) := by decide +kernel
theorem dL_1031 : decode code 1031 = .ok (.iaload, 1) := by decide +kernel
theorem dL_1032 : decode code 1032 = .ok (.aload_n 0, 1) := by decide +kernel
theorem dL_1033 : decode code 1033 = .ok (.iload_n 3, 1) := by decide +kernel
theorem dL_1034 : decode code 1034 = .ok (.iconst 3, 1) := by decide +kernel
theorem dL_1035 : decode code 1035 = .ok (.iadd, 1) := by decide +kernel
theorem dL_1036 : decode code 1036 = .ok (.iaload, 1) := by decide +kernel
theorem dL_1037 : decode code 1037 = .ok (.invokevirtual 123, 3) := by decide +kernel
theorem dL_1040 : decode code 1040 = .ok (.aload_n 2, 1) := by decide +kernel
theorem dL_1041 : decode code 1041 = .ok (.aload_n 0, 1) := by decide +kernel
theorem dL_1042 : decode code 1042 = .ok (.iload_n 3, 1) := by decide +kernel
theorem dL_1043 : decode code 1043 = .ok (.iconst 1, 1) := by decide +kernel
theorem dL_1044 : decode code 1044 = .ok (.iadd, 1) := by decide +kernel
theorem dL_1045 : decode code 1045 = .ok (.iaload, 1) := by decide +kernel
theorem dL_1046 : decode code 1046 = .ok (.aload_n 0, 1) := by decide +kernel
theorem dL_1047 : decode code 1047 = .ok (.iload_n 3, 1) := by decide +kernel
theorem dL_1048 : decode code 1048 = .ok (.iconst 2, 1) := by decide +kernel
theorem dL_1049 : decode code 1049 = .ok (.iadd, 1) := by decide +kernel
theorem dL_1050 : decode code 1050 = .ok (.iaload, 1) := by decide +kernel
theorem dL_1051 : decode code 1051 = .ok (.aload_n 0, 1) := by decide +kernel
theorem dL_1052 : decode code 1052 = .ok (.iload_n 3, 1) := by decide +kernel
theorem dL_1053 : decode code 1053 = .ok (.iconst 3, 1) := by decide +kernel
theorem dL_1054 : decode code 1054 = .ok (.iadd, 1) := by decide +kernel
theorem dL_1055 : decode code 1055 = .ok (.iaload, 1) := by decide +kernel
theorem dL_1056 : decode code 1056 = .ok (.invokevirtual 126, 3) := by decide +kernel
theorem dL_1059 : decode code 1059 = .ok (.if_icmp .eq 357, 3) := by decide +kernel
theorem dL_1064 : decode code 1064 = .ok (.aload_n 1, 1) := by decide +kernel
theorem dL_1065 : decode code 1065 = .ok (.aload_n 0, 1) := by decide +kernel
theorem dL_1066 : decode code 1066 = .ok (.iload_n 3, 1) := by decide +kernel
theorem dL_1067 : decode code 1067 = .ok (.iconst 1, 1) := by decide +kernel
theorem dL_1068 : decode code 1068 = .ok (.iadd, 1) := by decide +kernel
theorem dL_1069 : decode code 1069 = .ok (.iaload, 1) := by decide +kernel
theorem dL_1070 : decode code 1070 = .ok (.aload_n 0, 1) := by decide +kernel
theorem dL_1071 : decode code 1071 = .ok (.iload_n 3, 1) := by decide +kernel
theorem dL_1072 : decode code 1072 = .ok (.iconst 2, 1) := by decide +kernel
theorem dL_1073 : decode code 1073 = .ok (.iadd, 1) := by decide +kernel
theorem dL_1074 : decode code 1074 = .ok (.iaload, 1) := by decide +kernel
theorem dL_1075 : decode code 1075 = .ok (.invokevirtual 127, 3) := by decide +kernel
theorem dL_1078 : decode code 1078 = .ok (.aload_n 2, 1) := by decide +kernel
theorem dL_1079 : decode code 1079 = .ok (.aload_n 0, 1) := by decide +kernel
theorem dL_1080 : decode code 1080 = .ok (.iload_n 3, 1) := by decide +kernel
theorem dL_1081 : decode code 1081 = .ok (.iconst 1, 1) := by decide +kernel
theorem dL_1082 : decode code 1082 = .ok (.iadd, 1) := by decide +kernel
theorem dL_1083 : decode code 1083 = .ok (.iaload, 1) := by decide +kernel
theorem dL_1084 : decode code 1084 = .ok (.aload_n 0, 1) := by decide +kernel
theorem dL_1085 : decode code 1085 = .ok (.iload_n 3, 1) := by decide +kernel
theorem dL_1086 : decode code 1086 = .ok (.iconst 2, 1) := by decide +kernel
theorem dL_1087 : decode code 1087 = .ok (.iadd, 1) := by decide +kernel
theorem dL_1088 : decode code 1088 = .ok (.iaload, 1) := by decide +kernel
theorem dL_1089 : decode code 1089 = .ok (.invokevirtual 130, 3) := by decide +kernel
theorem dL_1092 : decode code 1092 = .ok (.if_icmp .eq 324, 3) := by decide +kernel
theorem dL_1097 : decode code 1097 = .ok (.aload_n 1, 1) := by decide +kernel
theorem dL_1098 : decode code 1098 = .ok (.aload_n 0, 1) := by decide +kernel
theorem dL_1099 : decode code 1099 = .ok (.iload_n 3, 1) := by decide +kernel
theorem dL_1100 : decode code 1100 = .ok (.iconst 1, 1) := by decide +kernel
theorem dL_1101 : decode code 1101 = .ok (.iadd, 1) := by decide +kernel
theorem dL_1102 : decode code 1102 = .ok (.iaload, 1) := by decide +kernel
theorem dL_1103 : decode code 1103 = .ok (.invokevirtual 131, 3) := by decide +kernel
theorem dL_1106 : decode code 1106 = .ok (.aload_n 2, 1) := by decide +kernel
theorem dL_1107 : decode code 1107 = .ok (.aload_n 0, 1) := by decide +kernel
theorem dL_1108 : decode code 1108 = .ok (.iload_n 3, 1) := by decide +kernel
theorem dL_1109 : decode code 1109 = .ok (.iconst 1, 1) := by decide +kernel
theorem dL_1110 : decode code 1110 = .ok (.iadd, 1) := by decide +kernel
theorem dL_1111 : decode code 1111 = .ok (.iaload, 1) := by decide +kernel
theorem dL_1112 : decode code 1112 = .ok (.invokevirtual 134, 3) := by decide +kernel
theorem dL_1115 : decode code 1115 = .ok (.if_icmp .eq 301, 3) := by decide +kernel
theorem dL_1120 : decode code 1120 = .ok (.aload_n 1, 1) := by decide +kernel
theorem dL_1121 : decode code 1121 = .ok (.aload_n 0, 1) := by decide +kernel
theorem dL_1122 : decode code 1122 = .ok (.iload_n 3, 1) := by decide +kernel
theorem dL_1123 : decode code 1123 = .ok (.iconst 1, 1) := by decide +kernel
theorem dL_1124 : decode code 1124 = .ok (.iadd, 1) := by decide +kernel
theorem dL_1125 : decode code 1125 = .ok (.iaload, 1) := by decide +kernel
theorem dL_1126 : decode code 1126 = .ok (.aload_n 0, 1) := by decide +kernel
theorem dL_1127 : decode code 1127 = .ok (.iload_n 3, 1) := by decide +kernel
theorem dL_1128 : decode code 1128 = .ok (.iconst 2, 1) := by decide +kernel
theorem dL_1129 : decode code 1129 = .ok (.iadd, 1) := by decide +kernel
theorem dL_1130 : decode code 1130 = .ok (.iaload, 1) := by decide +kernel
theorem dL_1131 : decode code 1131 = .ok (.invokevirtual 135, 3) := by decide +kernel
theorem dL_1134 : decode code 1134 = .ok (.aload_n 2, 1) := by decide +kernel
theorem dL_1135 : decode code 1135 = .ok (.aload_n 0, 1) := by decide +kernel
theorem dL_1136 : decode code 1136 = .ok (.iload_n 3, 1) := by decide +kernel
theorem dL_1137 : decode code 1137 = .ok (.iconst 1, 1) := by decide +kernel
theorem dL_1138 : decode code 1138 = .ok (.iadd, 1) := by decide +kernel
theorem dL_1139 : decode code 1139 = .ok (.iaload, 1) := by decide +kernel
theorem dL_1140 : decode code 1140 = .ok (.aload_n 0, 1) := by decide +kernel
theorem dL_1141 : decode code 1141 = .ok (.iload_n 3, 1) := by decide +kernel
theorem dL_1142 : decode code 1142 = .ok (.iconst 2, 1) := by decide +kernel
theorem dL_1143 : decode code 1143 = .ok (.iadd, 1) := by decide +kernel
