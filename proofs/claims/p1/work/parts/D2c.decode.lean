/-! The law's instructions. Written by wip/gen/law.py. -/
theorem d_830 : decode code 830 = .ok (.if_icmp .eq 320, 3) := by decide +kernel
theorem d_833 : decode code 833 = .ok (.iconst 0, 1) := by decide +kernel
theorem d_834 : decode code 834 = .ok (.ireturn, 1) := by decide +kernel
theorem d_835 : decode code 835 = .ok (.aload_n 1, 1) := by decide +kernel
theorem d_836 : decode code 836 = .ok (.aload_n 0, 1) := by decide +kernel
theorem d_837 : decode code 837 = .ok (.iload_n 3, 1) := by decide +kernel
theorem d_838 : decode code 838 = .ok (.iconst 1, 1) := by decide +kernel
theorem d_839 : decode code 839 = .ok (.iadd, 1) := by decide +kernel
theorem d_840 : decode code 840 = .ok (.iaload, 1) := by decide +kernel
theorem d_841 : decode code 841 = .ok (.invokevirtual 120, 3) := by decide +kernel
theorem d_844 : decode code 844 = .ok (.aload_n 2, 1) := by decide +kernel
theorem d_845 : decode code 845 = .ok (.aload_n 0, 1) := by decide +kernel
theorem d_846 : decode code 846 = .ok (.iload_n 3, 1) := by decide +kernel
theorem d_847 : decode code 847 = .ok (.iconst 1, 1) := by decide +kernel
theorem d_848 : decode code 848 = .ok (.iadd, 1) := by decide +kernel
theorem d_849 : decode code 849 = .ok (.iaload, 1) := by decide +kernel
theorem d_850 : decode code 850 = .ok (.invokevirtual 123, 3) := by decide +kernel
theorem d_853 : decode code 853 = .ok (.if_icmp .eq 297, 3) := by decide +kernel
theorem d_856 : decode code 856 = .ok (.iconst 0, 1) := by decide +kernel
theorem d_857 : decode code 857 = .ok (.ireturn, 1) := by decide +kernel
theorem d_858 : decode code 858 = .ok (.aload_n 1, 1) := by decide +kernel
theorem d_859 : decode code 859 = .ok (.aload_n 0, 1) := by decide +kernel
theorem d_860 : decode code 860 = .ok (.iload_n 3, 1) := by decide +kernel
theorem d_861 : decode code 861 = .ok (.iconst 1, 1) := by decide +kernel
theorem d_862 : decode code 862 = .ok (.iadd, 1) := by decide +kernel
theorem d_863 : decode code 863 = .ok (.iaload, 1) := by decide +kernel
theorem d_864 : decode code 864 = .ok (.invokevirtual 124, 3) := by decide +kernel
theorem d_867 : decode code 867 = .ok (.aload_n 2, 1) := by decide +kernel
theorem d_868 : decode code 868 = .ok (.aload_n 0, 1) := by decide +kernel
theorem d_869 : decode code 869 = .ok (.iload_n 3, 1) := by decide +kernel
theorem d_870 : decode code 870 = .ok (.iconst 1, 1) := by decide +kernel
theorem d_871 : decode code 871 = .ok (.iadd, 1) := by decide +kernel
theorem d_872 : decode code 872 = .ok (.iaload, 1) := by decide +kernel
theorem d_873 : decode code 873 = .ok (.invokevirtual 127, 3) := by decide +kernel
theorem d_876 : decode code 876 = .ok (.if_icmp .eq 274, 3) := by decide +kernel
theorem d_879 : decode code 879 = .ok (.iconst 0, 1) := by decide +kernel
theorem d_880 : decode code 880 = .ok (.ireturn, 1) := by decide +kernel
theorem d_881 : decode code 881 = .ok (.aload_n 1, 1) := by decide +kernel
theorem d_882 : decode code 882 = .ok (.invokevirtual 128, 3) := by decide +kernel
theorem d_885 : decode code 885 = .ok (.aload_n 2, 1) := by decide +kernel
theorem d_886 : decode code 886 = .ok (.invokevirtual 131, 3) := by decide +kernel
theorem d_889 : decode code 889 = .ok (.if_icmp .eq 261, 3) := by decide +kernel
theorem d_892 : decode code 892 = .ok (.iconst 0, 1) := by decide +kernel
theorem d_893 : decode code 893 = .ok (.ireturn, 1) := by decide +kernel
theorem d_894 : decode code 894 = .ok (.aload_n 1, 1) := by decide +kernel
theorem d_895 : decode code 895 = .ok (.aload_n 0, 1) := by decide +kernel
theorem d_896 : decode code 896 = .ok (.iload_n 3, 1) := by decide +kernel
theorem d_897 : decode code 897 = .ok (.iconst 1, 1) := by decide +kernel
theorem d_898 : decode code 898 = .ok (.iadd, 1) := by decide +kernel
theorem d_899 : decode code 899 = .ok (.iaload, 1) := by decide +kernel
theorem d_900 : decode code 900 = .ok (.invokevirtual 132, 3) := by decide +kernel
theorem d_903 : decode code 903 = .ok (.aload_n 2, 1) := by decide +kernel
theorem d_904 : decode code 904 = .ok (.aload_n 0, 1) := by decide +kernel
theorem d_905 : decode code 905 = .ok (.iload_n 3, 1) := by decide +kernel
theorem d_906 : decode code 906 = .ok (.iconst 1, 1) := by decide +kernel
theorem d_907 : decode code 907 = .ok (.iadd, 1) := by decide +kernel
theorem d_908 : decode code 908 = .ok (.iaload, 1) := by decide +kernel
theorem d_909 : decode code 909 = .ok (.invokevirtual 135, 3) := by decide +kernel
theorem d_912 : decode code 912 = .ok (.if_icmp .eq 238, 3) := by decide +kernel
theorem d_915 : decode code 915 = .ok (.iconst 0, 1) := by decide +kernel
theorem d_916 : decode code 916 = .ok (.ireturn, 1) := by decide +kernel
theorem d_917 : decode code 917 = .ok (.aload_n 1, 1) := by decide +kernel
theorem d_918 : decode code 918 = .ok (.aload_n 0, 1) := by decide +kernel
theorem d_919 : decode code 919 = .ok (.iload_n 3, 1) := by decide +kernel
theorem d_920 : decode code 920 = .ok (.iconst 1, 1) := by decide +kernel
theorem d_921 : decode code 921 = .ok (.iadd, 1) := by decide +kernel
theorem d_922 : decode code 922 = .ok (.iaload, 1) := by decide +kernel
theorem d_923 : decode code 923 = .ok (.invokevirtual 136, 3) := by decide +kernel
theorem d_926 : decode code 926 = .ok (.aload_n 2, 1) := by decide +kernel
theorem d_927 : decode code 927 = .ok (.aload_n 0, 1) := by decide +kernel
theorem d_928 : decode code 928 = .ok (.iload_n 3, 1) := by decide +kernel
theorem d_929 : decode code 929 = .ok (.iconst 1, 1) := by decide +kernel
theorem d_930 : decode code 930 = .ok (.iadd, 1) := by decide +kernel
theorem d_931 : decode code 931 = .ok (.iaload, 1) := by decide +kernel
theorem d_932 : decode code 932 = .ok (.invokevirtual 139, 3) := by decide +kernel
theorem d_935 : decode code 935 = .ok (.if_icmp .eq 215, 3) := by decide +kernel
theorem d_938 : decode code 938 = .ok (.iconst 0, 1) := by decide +kernel
theorem d_939 : decode code 939 = .ok (.ireturn, 1) := by decide +kernel
theorem d_940 : decode code 940 = .ok (.aload_n 1, 1) := by decide +kernel
theorem d_941 : decode code 941 = .ok (.aload_n 0, 1) := by decide +kernel
theorem d_942 : decode code 942 = .ok (.iload_n 3, 1) := by decide +kernel
theorem d_943 : decode code 943 = .ok (.iconst 1, 1) := by decide +kernel
theorem d_944 : decode code 944 = .ok (.iadd, 1) := by decide +kernel
theorem d_945 : decode code 945 = .ok (.iaload, 1) := by decide +kernel
theorem d_946 : decode code 946 = .ok (.invokevirtual 140, 3) := by decide +kernel
theorem d_949 : decode code 949 = .ok (.aload_n 2, 1) := by decide +kernel
theorem d_950 : decode code 950 = .ok (.aload_n 0, 1) := by decide +kernel
theorem d_951 : decode code 951 = .ok (.iload_n 3, 1) := by decide +kernel
theorem d_952 : decode code 952 = .ok (.iconst 1, 1) := by decide +kernel
theorem d_953 : decode code 953 = .ok (.iadd, 1) := by decide +kernel
theorem d_954 : decode code 954 = .ok (.iaload, 1) := by decide +kernel
theorem d_955 : decode code 955 = .ok (.invokevirtual 143, 3) := by decide +kernel
theorem d_958 : decode code 958 = .ok (.if_icmp .eq 192, 3) := by decide +kernel
theorem d_961 : decode code 961 = .ok (.iconst 0, 1) := by decide +kernel
theorem d_962 : decode code 962 = .ok (.ireturn, 1) := by decide +kernel
theorem d_963 : decode code 963 = .ok (.aload_n 1, 1) := by decide +kernel
theorem d_964 : decode code 964 = .ok (.invokevirtual 144, 3) := by decide +kernel
theorem d_967 : decode code 967 = .ok (.aload_n 2, 1) := by decide +kernel
theorem d_968 : decode code 968 = .ok (.invokevirtual 147, 3) := by decide +kernel
theorem d_971 : decode code 971 = .ok (.if_icmp .eq 179, 3) := by decide +kernel
theorem d_974 : decode code 974 = .ok (.iconst 0, 1) := by decide +kernel
theorem d_975 : decode code 975 = .ok (.ireturn, 1) := by decide +kernel
theorem d_976 : decode code 976 = .ok (.aload_n 1, 1) := by decide +kernel
theorem d_977 : decode code 977 = .ok (.aload_n 0, 1) := by decide +kernel
theorem d_978 : decode code 978 = .ok (.iload_n 3, 1) := by decide +kernel
theorem d_979 : decode code 979 = .ok (.iconst 1, 1) := by decide +kernel
theorem d_980 : decode code 980 = .ok (.iadd, 1) := by decide +kernel
theorem d_981 : decode code 981 = .ok (.iaload, 1) := by decide +kernel
theorem d_982 : decode code 982 = .ok (.invokevirtual 148, 3) := by decide +kernel
theorem d_985 : decode code 985 = .ok (.aload_n 2, 1) := by decide +kernel
theorem d_986 : decode code 986 = .ok (.aload_n 0, 1) := by decide +kernel
theorem d_987 : decode code 987 = .ok (.iload_n 3, 1) := by decide +kernel
theorem d_988 : decode code 988 = .ok (.iconst 1, 1) := by decide +kernel
theorem d_989 : decode code 989 = .ok (.iadd, 1) := by decide +kernel
theorem d_990 : decode code 990 = .ok (.iaload, 1) := by decide +kernel
theorem d_991 : decode code 991 = .ok (.invokevirtual 151, 3) := by decide +kernel
theorem d_994 : decode code 994 = .ok (.if_icmp .eq 156, 3) := by decide +kernel
theorem d_997 : decode code 997 = .ok (.iconst 0, 1) := by decide +kernel
theorem d_998 : decode code 998 = .ok (.ireturn, 1) := by decide +kernel
theorem d_999 : decode code 999 = .ok (.aload_n 1, 1) := by decide +kernel
theorem d_1000 : decode code 1000 = .ok (.aload_n 0, 1) := by decide +kernel
theorem d_1001 : decode code 1001 = .ok (.iload_n 3, 1) := by decide +kernel
theorem d_1002 : decode code 1002 = .ok (.iconst 1, 1) := by decide +kernel
theorem d_1003 : decode code 1003 = .ok (.iadd, 1) := by decide +kernel
theorem d_1004 : decode code 1004 = .ok (.iaload, 1) := by decide +kernel
theorem d_1005 : decode code 1005 = .ok (.invokevirtual 152, 3) := by decide +kernel
theorem d_1008 : decode code 1008 = .ok (.aload_n 2, 1) := by decide +kernel
theorem d_1009 : decode code 1009 = .ok (.aload_n 0, 1) := by decide +kernel
theorem d_1010 : decode code 1010 = .ok (.iload_n 3, 1) := by decide +kernel
theorem d_1011 : decode code 1011 = .ok (.iconst 1, 1) := by decide +kernel
theorem d_1012 : decode code 1012 = .ok (.iadd, 1) := by decide +kernel
theorem d_1013 : decode code 1013 = .ok (.iaload, 1) := by decide +kernel
theorem d_1014 : decode code 1014 = .ok (.invokevirtual 155, 3) := by decide +kernel
theorem d_1017 : decode code 1017 = .ok (.if_icmp .eq 133, 3) := by decide +kernel
theorem d_1020 : decode code 1020 = .ok (.iconst 0, 1) := by decide +kernel
theorem d_1021 : decode code 1021 = .ok (.ireturn, 1) := by decide +kernel
theorem d_1022 : decode code 1022 = .ok (.aload_n 1, 1) := by decide +kernel
theorem d_1023 : decode code 1023 = .ok (.aload_n 0, 1) := by decide +kernel
theorem d_1024 : decode code 1024 = .ok (.iload_n 3, 1) := by decide +kernel
theorem d_1025 : decode code 1025 = .ok (.iconst 1, 1) := by decide +kernel
theorem d_1026 : decode code 1026 = .ok (.iadd, 1) := by decide +kernel
theorem d_1027 : decode code 1027 = .ok (.iaload, 1) := by decide +kernel
theorem d_1028 : decode code 1028 = .ok (.invokevirtual 156, 3) := by decide +kernel
theorem d_1031 : decode code 1031 = .ok (.aload_n 2, 1) := by decide +kernel
theorem d_1032 : decode code 1032 = .ok (.aload_n 0, 1) := by decide +kernel
theorem d_1033 : decode code 1033 = .ok (.iload_n 3, 1) := by decide +kernel
theorem d_1034 : decode code 1034 = .ok (.iconst 1, 1) := by decide +kernel
theorem d_1035 : decode code 1035 = .ok (.iadd, 1) := by decide +kernel
theorem d_1036 : decode code 1036 = .ok (.iaload, 1) := by decide +kernel
theorem d_1037 : decode code 1037 = .ok (.invokevirtual 159, 3) := by decide +kernel
theorem d_1040 : decode code 1040 = .ok (.if_icmp .eq 110, 3) := by decide +kernel
theorem d_1043 : decode code 1043 = .ok (.iconst 0, 1) := by decide +kernel
theorem d_1044 : decode code 1044 = .ok (.ireturn, 1) := by decide +kernel
theorem d_1045 : decode code 1045 = .ok (.aload_n 1, 1) := by decide +kernel
theorem d_1046 : decode code 1046 = .ok (.aload_n 0, 1) := by decide +kernel
theorem d_1047 : decode code 1047 = .ok (.iload_n 3, 1) := by decide +kernel
theorem d_1048 : decode code 1048 = .ok (.iconst 1, 1) := by decide +kernel
theorem d_1049 : decode code 1049 = .ok (.iadd, 1) := by decide +kernel
theorem d_1050 : decode code 1050 = .ok (.iaload, 1) := by decide +kernel
theorem d_1051 : decode code 1051 = .ok (.invokevirtual 160, 3) := by decide +kernel
theorem d_1054 : decode code 1054 = .ok (.aload_n 2, 1) := by decide +kernel
theorem d_1055 : decode code 1055 = .ok (.aload_n 0, 1) := by decide +kernel
theorem d_1056 : decode code 1056 = .ok (.iload_n 3, 1) := by decide +kernel
theorem d_1057 : decode code 1057 = .ok (.iconst 1, 1) := by decide +kernel
theorem d_1058 : decode code 1058 = .ok (.iadd, 1) := by decide +kernel
theorem d_1059 : decode code 1059 = .ok (.iaload, 1) := by decide +kernel
theorem d_1060 : decode code 1060 = .ok (.invokevirtual 163, 3) := by decide +kernel
theorem d_1063 : decode code 1063 = .ok (.if_icmp .eq 87, 3) := by decide +kernel
theorem d_1066 : decode code 1066 = .ok (.iconst 0, 1) := by decide +kernel
theorem d_1067 : decode code 1067 = .ok (.ireturn, 1) := by decide +kernel
theorem d_1068 : decode code 1068 = .ok (.aload_n 1, 1) := by decide +kernel
theorem d_1069 : decode code 1069 = .ok (.aload_n 0, 1) := by decide +kernel
theorem d_1070 : decode code 1070 = .ok (.iload_n 3, 1) := by decide +kernel
theorem d_1071 : decode code 1071 = .ok (.iconst 1, 1) := by decide +kernel
theorem d_1072 : decode code 1072 = .ok (.iadd, 1) := by decide +kernel
theorem d_1073 : decode code 1073 = .ok (.iaload, 1) := by decide +kernel
theorem d_1074 : decode code 1074 = .ok (.invokevirtual 164, 3) := by decide +kernel
theorem d_1077 : decode code 1077 = .ok (.aload_n 2, 1) := by decide +kernel
theorem d_1078 : decode code 1078 = .ok (.aload_n 0, 1) := by decide +kernel
theorem d_1079 : decode code 1079 = .ok (.iload_n 3, 1) := by decide +kernel
theorem d_1080 : decode code 1080 = .ok (.iconst 1, 1) := by decide +kernel
theorem d_1081 : decode code 1081 = .ok (.iadd, 1) := by decide +kernel
theorem d_1082 : decode code 1082 = .ok (.iaload, 1) := by decide +kernel
theorem d_1083 : decode code 1083 = .ok (.invokevirtual 167, 3) := by decide +kernel
theorem d_1086 : decode code 1086 = .ok (.if_icmp .eq 64, 3) := by decide +kernel
theorem d_1089 : decode code 1089 = .ok (.iconst 0, 1) := by decide +kernel
theorem d_1090 : decode code 1090 = .ok (.ireturn, 1) := by decide +kernel
theorem d_1091 : decode code 1091 = .ok (.aload_n 1, 1) := by decide +kernel
theorem d_1092 : decode code 1092 = .ok (.invokevirtual 168, 3) := by decide +kernel
theorem d_1095 : decode code 1095 = .ok (.aload_n 2, 1) := by decide +kernel
theorem d_1096 : decode code 1096 = .ok (.invokevirtual 172, 3) := by decide +kernel
theorem d_1099 : decode code 1099 = .ok (.if_icmp .eq 51, 3) := by decide +kernel
theorem d_1102 : decode code 1102 = .ok (.iconst 0, 1) := by decide +kernel
theorem d_1103 : decode code 1103 = .ok (.ireturn, 1) := by decide +kernel
theorem d_1104 : decode code 1104 = .ok (.aload_n 1, 1) := by decide +kernel
theorem d_1105 : decode code 1105 = .ok (.aload_n 0, 1) := by decide +kernel
theorem d_1106 : decode code 1106 = .ok (.iload_n 3, 1) := by decide +kernel
theorem d_1107 : decode code 1107 = .ok (.iconst 1, 1) := by decide +kernel
theorem d_1108 : decode code 1108 = .ok (.iadd, 1) := by decide +kernel
theorem d_1109 : decode code 1109 = .ok (.iaload, 1) := by decide +kernel
theorem d_1110 : decode code 1110 = .ok (.invokevirtual 173, 3) := by decide +kernel
theorem d_1113 : decode code 1113 = .ok (.aload_n 2, 1) := by decide +kernel
theorem d_1114 : decode code 1114 = .ok (.aload_n 0, 1) := by decide +kernel
theorem d_1115 : decode code 1115 = .ok (.iload_n 3, 1) := by decide +kernel
theorem d_1116 : decode code 1116 = .ok (.iconst 1, 1) := by decide +kernel
theorem d_1117 : decode code 1117 = .ok (.iadd, 1) := by decide +kernel
theorem d_1118 : decode code 1118 = .ok (.iaload, 1) := by decide +kernel
theorem d_1119 : decode code 1119 = .ok (.invokevirtual 176, 3) := by decide +kernel
theorem d_1122 : decode code 1122 = .ok (.if_icmp .eq 28, 3) := by decide +kernel
theorem d_1125 : decode code 1125 = .ok (.iconst 0, 1) := by decide +kernel
theorem d_1126 : decode code 1126 = .ok (.ireturn, 1) := by decide +kernel
theorem d_1127 : decode code 1127 = .ok (.aload_n 1, 1) := by decide +kernel
theorem d_1128 : decode code 1128 = .ok (.aload_n 0, 1) := by decide +kernel
theorem d_1129 : decode code 1129 = .ok (.iload_n 3, 1) := by decide +kernel
theorem d_1130 : decode code 1130 = .ok (.iconst 1, 1) := by decide +kernel
theorem d_1131 : decode code 1131 = .ok (.iadd, 1) := by decide +kernel
theorem d_1132 : decode code 1132 = .ok (.iaload, 1) := by decide +kernel
theorem d_1133 : decode code 1133 = .ok (.invokevirtual 177, 3) := by decide +kernel
theorem d_1136 : decode code 1136 = .ok (.aload_n 2, 1) := by decide +kernel
theorem d_1137 : decode code 1137 = .ok (.aload_n 0, 1) := by decide +kernel
theorem d_1138 : decode code 1138 = .ok (.iload_n 3, 1) := by decide +kernel
theorem d_1139 : decode code 1139 = .ok (.iconst 1, 1) := by decide +kernel
theorem d_1140 : decode code 1140 = .ok (.iadd, 1) := by decide +kernel
theorem d_1141 : decode code 1141 = .ok (.iaload, 1) := by decide +kernel
theorem d_1142 : decode code 1142 = .ok (.invokevirtual 180, 3) := by decide +kernel
theorem d_1145 : decode code 1145 = .ok (.if_icmp .eq 5, 3) := by decide +kernel
theorem d_1148 : decode code 1148 = .ok (.iconst 0, 1) := by decide +kernel
theorem d_1149 : decode code 1149 = .ok (.ireturn, 1) := by decide +kernel
theorem d_1150 : decode code 1150 = .ok (.iinc 3 6, 3) := by decide +kernel
theorem d_1153 : decode code 1153 = .ok (.goto (-1135), 3) := by decide +kernel
theorem d_1156 : decode code 1156 = .ok (.iconst 1, 1) := by decide +kernel
theorem d_1157 : decode code 1157 = .ok (.ireturn, 1) := by decide +kernel
