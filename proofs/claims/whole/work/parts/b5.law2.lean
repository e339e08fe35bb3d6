section LAWC
variable {G : z_G} {n0 d rc rs dc dr mc ms : Nat} {K : z_K} {I : z_I} {L : z_L} {Q : z_R} {b Lx : Nat} {xs : Nat → Int32} {i : Nat}
theorem dL_law_838 : decode cL_law 838 = .ok (.aload_n 1, 1) := by decide +kernel
theorem dL_law_839 : decode cL_law 839 = .ok (.aload_n 0, 1) := by decide +kernel
theorem dL_law_840 : decode cL_law 840 = .ok (.iload_n 3, 1) := by decide +kernel
theorem dL_law_841 : decode cL_law 841 = .ok (.iconst 1, 1) := by decide +kernel
theorem dL_law_842 : decode cL_law 842 = .ok (.iadd, 1) := by decide +kernel
theorem dL_law_843 : decode cL_law 843 = .ok (.iaload, 1) := by decide +kernel
theorem dL_law_844 : decode cL_law 844 = .ok (.aload_n 0, 1) := by decide +kernel
theorem dL_law_845 : decode cL_law 845 = .ok (.iload_n 3, 1) := by decide +kernel
theorem dL_law_846 : decode cL_law 846 = .ok (.iconst 2, 1) := by decide +kernel
theorem dL_law_847 : decode cL_law 847 = .ok (.iadd, 1) := by decide +kernel
theorem dL_law_848 : decode cL_law 848 = .ok (.iaload, 1) := by decide +kernel
theorem dL_law_849 : decode cL_law 849 = .ok (.aload_n 0, 1) := by decide +kernel
theorem dL_law_850 : decode cL_law 850 = .ok (.iload_n 3, 1) := by decide +kernel
theorem dL_law_851 : decode cL_law 851 = .ok (.iconst 3, 1) := by decide +kernel
theorem dL_law_852 : decode cL_law 852 = .ok (.iadd, 1) := by decide +kernel
theorem dL_law_853 : decode cL_law 853 = .ok (.iaload, 1) := by decide +kernel
theorem dL_law_854 : decode cL_law 854 = .ok (.aload_n 0, 1) := by decide +kernel
theorem dL_law_855 : decode cL_law 855 = .ok (.iload_n 3, 1) := by decide +kernel
theorem dL_law_856 : decode cL_law 856 = .ok (.iconst 4, 1) := by decide +kernel
theorem dL_law_857 : decode cL_law 857 = .ok (.iadd, 1) := by decide +kernel
theorem dL_law_858 : decode cL_law 858 = .ok (.iaload, 1) := by decide +kernel
theorem dL_law_859 : decode cL_law 859 = .ok (.invokevirtual 77, 3) := by decide +kernel
theorem dL_law_862 : decode cL_law 862 = .ok (.aload_n 2, 1) := by decide +kernel
theorem dL_law_863 : decode cL_law 863 = .ok (.aload_n 0, 1) := by decide +kernel
theorem dL_law_864 : decode cL_law 864 = .ok (.iload_n 3, 1) := by decide +kernel
theorem dL_law_865 : decode cL_law 865 = .ok (.iconst 1, 1) := by decide +kernel
theorem dL_law_866 : decode cL_law 866 = .ok (.iadd, 1) := by decide +kernel
theorem dL_law_867 : decode cL_law 867 = .ok (.iaload, 1) := by decide +kernel
theorem dL_law_868 : decode cL_law 868 = .ok (.aload_n 0, 1) := by decide +kernel
theorem dL_law_869 : decode cL_law 869 = .ok (.iload_n 3, 1) := by decide +kernel
theorem dL_law_870 : decode cL_law 870 = .ok (.iconst 2, 1) := by decide +kernel
theorem dL_law_871 : decode cL_law 871 = .ok (.iadd, 1) := by decide +kernel
theorem dL_law_872 : decode cL_law 872 = .ok (.iaload, 1) := by decide +kernel
theorem dL_law_873 : decode cL_law 873 = .ok (.aload_n 0, 1) := by decide +kernel
theorem dL_law_874 : decode cL_law 874 = .ok (.iload_n 3, 1) := by decide +kernel
theorem dL_law_875 : decode cL_law 875 = .ok (.iconst 3, 1) := by decide +kernel
theorem dL_law_876 : decode cL_law 876 = .ok (.iadd, 1) := by decide +kernel
theorem dL_law_877 : decode cL_law 877 = .ok (.iaload, 1) := by decide +kernel
theorem dL_law_878 : decode cL_law 878 = .ok (.aload_n 0, 1) := by decide +kernel
theorem dL_law_879 : decode cL_law 879 = .ok (.iload_n 3, 1) := by decide +kernel
theorem dL_law_880 : decode cL_law 880 = .ok (.iconst 4, 1) := by decide +kernel
theorem dL_law_881 : decode cL_law 881 = .ok (.iadd, 1) := by decide +kernel
theorem dL_law_882 : decode cL_law 882 = .ok (.iaload, 1) := by decide +kernel
theorem dL_law_883 : decode cL_law 883 = .ok (.invokevirtual 80, 3) := by decide +kernel
theorem dL_law_886 : decode cL_law 886 = .ok (.if_icmp .eq 1456, 3) := by decide +kernel
theorem dL_law_891 : decode cL_law 891 = .ok (.aload_n 1, 1) := by decide +kernel
theorem dL_law_892 : decode cL_law 892 = .ok (.aload_n 0, 1) := by decide +kernel
theorem dL_law_893 : decode cL_law 893 = .ok (.iload_n 3, 1) := by decide +kernel
theorem dL_law_894 : decode cL_law 894 = .ok (.iconst 1, 1) := by decide +kernel
theorem dL_law_895 : decode cL_law 895 = .ok (.iadd, 1) := by decide +kernel
theorem dL_law_896 : decode cL_law 896 = .ok (.iaload, 1) := by decide +kernel
theorem dL_law_897 : decode cL_law 897 = .ok (.aload_n 0, 1) := by decide +kernel
theorem dL_law_898 : decode cL_law 898 = .ok (.iload_n 3, 1) := by decide +kernel
theorem dL_law_899 : decode cL_law 899 = .ok (.iconst 2, 1) := by decide +kernel
theorem dL_law_900 : decode cL_law 900 = .ok (.iadd, 1) := by decide +kernel
theorem dL_law_901 : decode cL_law 901 = .ok (.iaload, 1) := by decide +kernel
theorem dL_law_902 : decode cL_law 902 = .ok (.invokevirtual 81, 3) := by decide +kernel
theorem dL_law_905 : decode cL_law 905 = .ok (.aload_n 2, 1) := by decide +kernel
theorem dL_law_906 : decode cL_law 906 = .ok (.aload_n 0, 1) := by decide +kernel
theorem dL_law_907 : decode cL_law 907 = .ok (.iload_n 3, 1) := by decide +kernel
theorem dL_law_908 : decode cL_law 908 = .ok (.iconst 1, 1) := by decide +kernel
theorem dL_law_909 : decode cL_law 909 = .ok (.iadd, 1) := by decide +kernel
theorem dL_law_910 : decode cL_law 910 = .ok (.iaload, 1) := by decide +kernel
theorem dL_law_911 : decode cL_law 911 = .ok (.aload_n 0, 1) := by decide +kernel
theorem dL_law_912 : decode cL_law 912 = .ok (.iload_n 3, 1) := by decide +kernel
theorem dL_law_913 : decode cL_law 913 = .ok (.iconst 2, 1) := by decide +kernel
theorem dL_law_914 : decode cL_law 914 = .ok (.iadd, 1) := by decide +kernel
theorem dL_law_915 : decode cL_law 915 = .ok (.iaload, 1) := by decide +kernel
theorem dL_law_916 : decode cL_law 916 = .ok (.invokevirtual 84, 3) := by decide +kernel
theorem dL_law_919 : decode cL_law 919 = .ok (.if_icmp .eq 1423, 3) := by decide +kernel
theorem dL_law_924 : decode cL_law 924 = .ok (.aload_n 1, 1) := by decide +kernel
theorem dL_law_925 : decode cL_law 925 = .ok (.aload_n 0, 1) := by decide +kernel
theorem dL_law_926 : decode cL_law 926 = .ok (.iload_n 3, 1) := by decide +kernel
theorem dL_law_927 : decode cL_law 927 = .ok (.iconst 1, 1) := by decide +kernel
theorem dL_law_928 : decode cL_law 928 = .ok (.iadd, 1) := by decide +kernel
theorem dL_law_929 : decode cL_law 929 = .ok (.iaload, 1) := by decide +kernel
theorem dL_law_930 : decode cL_law 930 = .ok (.aload_n 0, 1) := by decide +kernel
theorem dL_law_931 : decode cL_law 931 = .ok (.iload_n 3, 1) := by decide +kernel
theorem dL_law_932 : decode cL_law 932 = .ok (.iconst 2, 1) := by decide +kernel
theorem dL_law_933 : decode cL_law 933 = .ok (.iadd, 1) := by decide +kernel
theorem dL_law_934 : decode cL_law 934 = .ok (.iaload, 1) := by decide +kernel
theorem dL_law_935 : decode cL_law 935 = .ok (.aload_n 0, 1) := by decide +kernel
theorem dL_law_936 : decode cL_law 936 = .ok (.iload_n 3, 1) := by decide +kernel
theorem dL_law_937 : decode cL_law 937 = .ok (.iconst 3, 1) := by decide +kernel
theorem dL_law_938 : decode cL_law 938 = .ok (.iadd, 1) := by decide +kernel
theorem dL_law_939 : decode cL_law 939 = .ok (.iaload, 1) := by decide +kernel
theorem dL_law_940 : decode cL_law 940 = .ok (.aload_n 0, 1) := by decide +kernel
theorem dL_law_941 : decode cL_law 941 = .ok (.iload_n 3, 1) := by decide +kernel
theorem dL_law_942 : decode cL_law 942 = .ok (.iconst 4, 1) := by decide +kernel
theorem dL_law_943 : decode cL_law 943 = .ok (.iadd, 1) := by decide +kernel
theorem dL_law_944 : decode cL_law 944 = .ok (.iaload, 1) := by decide +kernel
theorem dL_law_945 : decode cL_law 945 = .ok (.aload_n 0, 1) := by decide +kernel
theorem dL_law_946 : decode cL_law 946 = .ok (.iload_n 3, 1) := by decide +kernel
theorem dL_law_947 : decode cL_law 947 = .ok (.iconst 5, 1) := by decide +kernel
theorem dL_law_948 : decode cL_law 948 = .ok (.iadd, 1) := by decide +kernel
theorem dL_law_949 : decode cL_law 949 = .ok (.iaload, 1) := by decide +kernel
theorem dL_law_950 : decode cL_law 950 = .ok (.invokevirtual 85, 3) := by decide +kernel
theorem dL_law_953 : decode cL_law 953 = .ok (.aload_n 2, 1) := by decide +kernel
theorem dL_law_954 : decode cL_law 954 = .ok (.aload_n 0, 1) := by decide +kernel
theorem dL_law_955 : decode cL_law 955 = .ok (.iload_n 3, 1) := by decide +kernel
theorem dL_law_956 : decode cL_law 956 = .ok (.iconst 1, 1) := by decide +kernel
theorem dL_law_957 : decode cL_law 957 = .ok (.iadd, 1) := by decide +kernel
theorem dL_law_958 : decode cL_law 958 = .ok (.iaload, 1) := by decide +kernel
theorem dL_law_959 : decode cL_law 959 = .ok (.aload_n 0, 1) := by decide +kernel
theorem dL_law_960 : decode cL_law 960 = .ok (.iload_n 3, 1) := by decide +kernel
theorem dL_law_961 : decode cL_law 961 = .ok (.iconst 2, 1) := by decide +kernel
theorem dL_law_962 : decode cL_law 962 = .ok (.iadd, 1) := by decide +kernel
theorem dL_law_963 : decode cL_law 963 = .ok (.iaload, 1) := by decide +kernel
theorem dL_law_964 : decode cL_law 964 = .ok (.aload_n 0, 1) := by decide +kernel
theorem dL_law_965 : decode cL_law 965 = .ok (.iload_n 3, 1) := by decide +kernel
theorem dL_law_966 : decode cL_law 966 = .ok (.iconst 3, 1) := by decide +kernel
theorem dL_law_967 : decode cL_law 967 = .ok (.iadd, 1) := by decide +kernel
theorem dL_law_968 : decode cL_law 968 = .ok (.iaload, 1) := by decide +kernel
theorem dL_law_969 : decode cL_law 969 = .ok (.aload_n 0, 1) := by decide +kernel
theorem dL_law_970 : decode cL_law 970 = .ok (.iload_n 3, 1) := by decide +kernel
theorem dL_law_971 : decode cL_law 971 = .ok (.iconst 4, 1) := by decide +kernel
theorem dL_law_972 : decode cL_law 972 = .ok (.iadd, 1) := by decide +kernel
theorem dL_law_973 : decode cL_law 973 = .ok (.iaload, 1) := by decide +kernel
theorem dL_law_974 : decode cL_law 974 = .ok (.aload_n 0, 1) := by decide +kernel
theorem dL_law_975 : decode cL_law 975 = .ok (.iload_n 3, 1) := by decide +kernel
theorem dL_law_976 : decode cL_law 976 = .ok (.iconst 5, 1) := by decide +kernel
theorem dL_law_977 : decode cL_law 977 = .ok (.iadd, 1) := by decide +kernel
theorem dL_law_978 : decode cL_law 978 = .ok (.iaload, 1) := by decide +kernel
theorem dL_law_979 : decode cL_law 979 = .ok (.invokevirtual 88, 3) := by decide +kernel
theorem dL_law_982 : decode cL_law 982 = .ok (.if_icmp .eq 1360, 3) := by decide +kernel
theorem dL_law_987 : decode cL_law 987 = .ok (.aload_n 1, 1) := by decide +kernel
theorem dL_law_988 : decode cL_law 988 = .ok (.aload_n 0, 1) := by decide +kernel
theorem dL_law_989 : decode cL_law 989 = .ok (.iload_n 3, 1) := by decide +kernel
theorem dL_law_990 : decode cL_law 990 = .ok (.iconst 1, 1) := by decide +kernel
theorem dL_law_991 : decode cL_law 991 = .ok (.iadd, 1) := by decide +kernel
theorem dL_law_992 : decode cL_law 992 = .ok (.iaload, 1) := by decide +kernel
theorem dL_law_993 : decode cL_law 993 = .ok (.aload_n 0, 1) := by decide +kernel
theorem dL_law_994 : decode cL_law 994 = .ok (.iload_n 3, 1) := by decide +kernel
theorem dL_law_995 : decode cL_law 995 = .ok (.iconst 2, 1) := by decide +kernel
theorem dL_law_996 : decode cL_law 996 = .ok (.iadd, 1) := by decide +kernel
theorem dL_law_997 : decode cL_law 997 = .ok (.iaload, 1) := by decide +kernel
theorem dL_law_998 : decode cL_law 998 = .ok (.aload_n 0, 1) := by decide +kernel
theorem dL_law_999 : decode cL_law 999 = .ok (.iload_n 3, 1) := by decide +kernel
theorem dL_law_1000 : decode cL_law 1000 = .ok (.iconst 3, 1) := by decide +kernel
theorem dL_law_1001 : decode cL_law 1001 = .ok (.iadd, 1) := by decide +kernel
theorem dL_law_1002 : decode cL_law 1002 = .ok (.iaload, 1) := by decide +kernel
theorem dL_law_1003 : decode cL_law 1003 = .ok (.aload_n 0, 1) := by decide +kernel
theorem dL_law_1004 : decode cL_law 1004 = .ok (.iload_n 3, 1) := by decide +kernel
theorem dL_law_1005 : decode cL_law 1005 = .ok (.iconst 4, 1) := by decide +kernel
theorem dL_law_1006 : decode cL_law 1006 = .ok (.iadd, 1) := by decide +kernel
theorem dL_law_1007 : decode cL_law 1007 = .ok (.iaload, 1) := by decide +kernel
theorem dL_law_1008 : decode cL_law 1008 = .ok (.invokevirtual 89, 3) := by decide +kernel
theorem dL_law_1011 : decode cL_law 1011 = .ok (.aload_n 2, 1) := by decide +kernel
theorem dL_law_1012 : decode cL_law 1012 = .ok (.aload_n 0, 1) := by decide +kernel
theorem dL_law_1013 : decode cL_law 1013 = .ok (.iload_n 3, 1) := by decide +kernel
theorem dL_law_1014 : decode cL_law 1014 = .ok (.iconst 1, 1) := by decide +kernel
theorem dL_law_1015 : decode cL_law 1015 = .ok (.iadd, 1) := by decide +kernel
theorem dL_law_1016 : decode cL_law 1016 = .ok (.iaload, 1) := by decide +kernel
theorem dL_law_1017 : decode cL_law 1017 = .ok (.aload_n 0, 1) := by decide +kernel
theorem dL_law_1018 : decode cL_law 1018 = .ok (.iload_n 3, 1) := by decide +kernel
theorem dL_law_1019 : decode cL_law 1019 = .ok (.iconst 2, 1) := by decide +kernel
theorem dL_law_1020 : decode cL_law 1020 = .ok (.iadd, 1) := by decide +kernel
theorem dL_law_1021 : decode cL_law 1021 = .ok (.iaload, 1) := by decide +kernel
theorem dL_law_1022 : decode cL_law 1022 = .ok (.aload_n 0, 1) := by decide +kernel
theorem dL_law_1023 : decode cL_law 1023 = .ok (.iload_n 3, 1) := by decide +kernel
theorem dL_law_1024 : decode cL_law 1024 = .ok (.iconst 3, 1) := by decide +kernel
theorem dL_law_1025 : decode cL_law 1025 = .ok (.iadd, 1) := by decide +kernel
theorem dL_law_1026 : decode cL_law 1026 = .ok (.iaload, 1) := by decide +kernel
theorem dL_law_1027 : decode cL_law 1027 = .ok (.aload_n 0, 1) := by decide +kernel
theorem dL_law_1028 : decode cL_law 1028 = .ok (.iload_n 3, 1) := by decide +kernel
theorem dL_law_1029 : decode cL_law 1029 = .ok (.iconst 4, 1) := by decide +kernel
theorem dL_law_1030 : decode cL_law 1030 = .ok (.iadd, 1) := by decide +kernel
theorem dL_law_1031 : decode cL_law 1031 = .ok (.iaload, 1) := by decide +kernel
theorem dL_law_1032 : decode cL_law 1032 = .ok (.invokevirtual 92, 3) := by decide +kernel
theorem dL_law_1035 : decode cL_law 1035 = .ok (.if_icmp .eq 1307, 3) := by decide +kernel
theorem dL_law_1040 : decode cL_law 1040 = .ok (.aload_n 1, 1) := by decide +kernel
theorem dL_law_1041 : decode cL_law 1041 = .ok (.aload_n 0, 1) := by decide +kernel
theorem dL_law_1042 : decode cL_law 1042 = .ok (.iload_n 3, 1) := by decide +kernel
theorem dL_law_1043 : decode cL_law 1043 = .ok (.iconst 1, 1) := by decide +kernel
theorem dL_law_1044 : decode cL_law 1044 = .ok (.iadd, 1) := by decide +kernel
theorem dL_law_1045 : decode cL_law 1045 = .ok (.iaload, 1) := by decide +kernel
theorem dL_law_1046 : decode cL_law 1046 = .ok (.aload_n 0, 1) := by decide +kernel
theorem dL_law_1047 : decode cL_law 1047 = .ok (.iload_n 3, 1) := by decide +kernel
theorem dL_law_1048 : decode cL_law 1048 = .ok (.iconst 2, 1) := by decide +kernel
theorem dL_law_1049 : decode cL_law 1049 = .ok (.iadd, 1) := by decide +kernel
theorem dL_law_1050 : decode cL_law 1050 = .ok (.iaload, 1) := by decide +kernel
theorem dL_law_1051 : decode cL_law 1051 = .ok (.aload_n 0, 1) := by decide +kernel
theorem dL_law_1052 : decode cL_law 1052 = .ok (.iload_n 3, 1) := by decide +kernel
theorem dL_law_1053 : decode cL_law 1053 = .ok (.iconst 3, 1) := by decide +kernel
theorem dL_law_1054 : decode cL_law 1054 = .ok (.iadd, 1) := by decide +kernel
theorem dL_law_1055 : decode cL_law 1055 = .ok (.iaload, 1) := by decide +kernel
theorem dL_law_1056 : decode cL_law 1056 = .ok (.aload_n 0, 1) := by decide +kernel
theorem dL_law_1057 : decode cL_law 1057 = .ok (.iload_n 3, 1) := by decide +kernel
theorem dL_law_1058 : decode cL_law 1058 = .ok (.iconst 4, 1) := by decide +kernel
theorem dL_law_1059 : decode cL_law 1059 = .ok (.iadd, 1) := by decide +kernel
theorem dL_law_1060 : decode cL_law 1060 = .ok (.iaload, 1) := by decide +kernel
theorem dL_law_1061 : decode cL_law 1061 = .ok (.aload_n 0, 1) := by decide +kernel
theorem dL_law_1062 : decode cL_law 1062 = .ok (.iload_n 3, 1) := by decide +kernel
theorem dL_law_1063 : decode cL_law 1063 = .ok (.iconst 5, 1) := by decide +kernel
theorem dL_law_1064 : decode cL_law 1064 = .ok (.iadd, 1) := by decide +kernel
theorem dL_law_1065 : decode cL_law 1065 = .ok (.iaload, 1) := by decide +kernel
theorem dL_law_1066 : decode cL_law 1066 = .ok (.invokevirtual 93, 3) := by decide +kernel
theorem dL_law_1069 : decode cL_law 1069 = .ok (.aload_n 2, 1) := by decide +kernel
theorem dL_law_1070 : decode cL_law 1070 = .ok (.aload_n 0, 1) := by decide +kernel
theorem dL_law_1071 : decode cL_law 1071 = .ok (.iload_n 3, 1) := by decide +kernel
theorem dL_law_1072 : decode cL_law 1072 = .ok (.iconst 1, 1) := by decide +kernel
theorem dL_law_1073 : decode cL_law 1073 = .ok (.iadd, 1) := by decide +kernel
theorem dL_law_1074 : decode cL_law 1074 = .ok (.iaload, 1) := by decide +kernel
theorem dL_law_1075 : decode cL_law 1075 = .ok (.aload_n 0, 1) := by decide +kernel
theorem dL_law_1076 : decode cL_law 1076 = .ok (.iload_n 3, 1) := by decide +kernel
theorem dL_law_1077 : decode cL_law 1077 = .ok (.iconst 2, 1) := by decide +kernel
theorem dL_law_1078 : decode cL_law 1078 = .ok (.iadd, 1) := by decide +kernel
theorem dL_law_1079 : decode cL_law 1079 = .ok (.iaload, 1) := by decide +kernel
theorem dL_law_1080 : decode cL_law 1080 = .ok (.aload_n 0, 1) := by decide +kernel
theorem dL_law_1081 : decode cL_law 1081 = .ok (.iload_n 3, 1) := by decide +kernel
theorem dL_law_1082 : decode cL_law 1082 = .ok (.iconst 3, 1) := by decide +kernel
theorem dL_law_1083 : decode cL_law 1083 = .ok (.iadd, 1) := by decide +kernel
theorem dL_law_1084 : decode cL_law 1084 = .ok (.iaload, 1) := by decide +kernel
theorem dL_law_1085 : decode cL_law 1085 = .ok (.aload_n 0, 1) := by decide +kernel
theorem dL_law_1086 : decode cL_law 1086 = .ok (.iload_n 3, 1) := by decide +kernel
theorem dL_law_1087 : decode cL_law 1087 = .ok (.iconst 4, 1) := by decide +kernel
theorem dL_law_1088 : decode cL_law 1088 = .ok (.iadd, 1) := by decide +kernel
theorem dL_law_1089 : decode cL_law 1089 = .ok (.iaload, 1) := by decide +kernel
theorem dL_law_1090 : decode cL_law 1090 = .ok (.aload_n 0, 1) := by decide +kernel
theorem dL_law_1091 : decode cL_law 1091 = .ok (.iload_n 3, 1) := by decide +kernel
theorem dL_law_1092 : decode cL_law 1092 = .ok (.iconst 5, 1) := by decide +kernel
theorem dL_law_1093 : decode cL_law 1093 = .ok (.iadd, 1) := by decide +kernel
theorem dL_law_1094 : decode cL_law 1094 = .ok (.iaload, 1) := by decide +kernel
theorem dL_law_1095 : decode cL_law 1095 = .ok (.invokevirtual 96, 3) := by decide +kernel
theorem dL_law_1098 : decode cL_law 1098 = .ok (.if_icmp .eq 1244, 3) := by decide +kernel
theorem dL_law_1103 : decode cL_law 1103 = .ok (.aload_n 1, 1) := by decide +kernel
theorem dL_law_1104 : decode cL_law 1104 = .ok (.aload_n 0, 1) := by decide +kernel
theorem dL_law_1105 : decode cL_law 1105 = .ok (.iload_n 3, 1) := by decide +kernel
theorem dL_law_1106 : decode cL_law 1106 = .ok (.iconst 1, 1) := by decide +kernel
theorem dL_law_1107 : decode cL_law 1107 = .ok (.iadd, 1) := by decide +kernel
theorem dL_law_1108 : decode cL_law 1108 = .ok (.iaload, 1) := by decide +kernel
theorem dL_law_1109 : decode cL_law 1109 = .ok (.aload_n 0, 1) := by decide +kernel
theorem dL_law_1110 : decode cL_law 1110 = .ok (.iload_n 3, 1) := by decide +kernel
theorem dL_law_1111 : decode cL_law 1111 = .ok (.iconst 2, 1) := by decide +kernel
theorem dL_law_1112 : decode cL_law 1112 = .ok (.iadd, 1) := by decide +kernel
theorem dL_law_1113 : decode cL_law 1113 = .ok (.iaload, 1) := by decide +kernel
theorem dL_law_1114 : decode cL_law 1114 = .ok (.aload_n 0, 1) := by decide +kernel
theorem dL_law_1115 : decode cL_law 1115 = .ok (.iload_n 3, 1) := by decide +kernel
theorem dL_law_1116 : decode cL_law 1116 = .ok (.iconst 3, 1) := by decide +kernel
theorem dL_law_1117 : decode cL_law 1117 = .ok (.iadd, 1) := by decide +kernel
theorem dL_law_1118 : decode cL_law 1118 = .ok (.iaload, 1) := by decide +kernel
theorem dL_law_1119 : decode cL_law 1119 = .ok (.aload_n 0, 1) := by decide +kernel
theorem dL_law_1120 : decode cL_law 1120 = .ok (.iload_n 3, 1) := by decide +kernel
theorem dL_law_1121 : decode cL_law 1121 = .ok (.iconst 4, 1) := by decide +kernel
theorem dL_law_1122 : decode cL_law 1122 = .ok (.iadd, 1) := by decide +kernel
theorem dL_law_1123 : decode cL_law 1123 = .ok (.iaload, 1) := by decide +kernel
theorem dL_law_1124 : decode cL_law 1124 = .ok (.invokevirtual 97, 3) := by decide +kernel
theorem dL_law_1127 : decode cL_law 1127 = .ok (.aload_n 2, 1) := by decide +kernel
theorem dL_law_1128 : decode cL_law 1128 = .ok (.aload_n 0, 1) := by decide +kernel
theorem dL_law_1129 : decode cL_law 1129 = .ok (.iload_n 3, 1) := by decide +kernel
theorem dL_law_1130 : decode cL_law 1130 = .ok (.iconst 1, 1) := by decide +kernel
theorem dL_law_1131 : decode cL_law 1131 = .ok (.iadd, 1) := by decide +kernel
theorem dL_law_1132 : decode cL_law 1132 = .ok (.iaload, 1) := by decide +kernel
theorem dL_law_1133 : decode cL_law 1133 = .ok (.aload_n 0, 1) := by decide +kernel
theorem dL_law_1134 : decode cL_law 1134 = .ok (.iload_n 3, 1) := by decide +kernel
theorem dL_law_1135 : decode cL_law 1135 = .ok (.iconst 2, 1) := by decide +kernel
theorem dL_law_1136 : decode cL_law 1136 = .ok (.iadd, 1) := by decide +kernel
theorem dL_law_1137 : decode cL_law 1137 = .ok (.iaload, 1) := by decide +kernel
theorem dL_law_1138 : decode cL_law 1138 = .ok (.aload_n 0, 1) := by decide +kernel
theorem dL_law_1139 : decode cL_law 1139 = .ok (.iload_n 3, 1) := by decide +kernel
theorem dL_law_1140 : decode cL_law 1140 = .ok (.iconst 3, 1) := by decide +kernel
theorem dL_law_1141 : decode cL_law 1141 = .ok (.iadd, 1) := by decide +kernel
theorem dL_law_1142 : decode cL_law 1142 = .ok (.iaload, 1) := by decide +kernel
theorem dL_law_1143 : decode cL_law 1143 = .ok (.aload_n 0, 1) := by decide +kernel
theorem dL_law_1144 : decode cL_law 1144 = .ok (.iload_n 3, 1) := by decide +kernel
theorem dL_law_1145 : decode cL_law 1145 = .ok (.iconst 4, 1) := by decide +kernel
theorem dL_law_1146 : decode cL_law 1146 = .ok (.iadd, 1) := by decide +kernel
theorem dL_law_1147 : decode cL_law 1147 = .ok (.iaload, 1) := by decide +kernel
theorem dL_law_1148 : decode cL_law 1148 = .ok (.invokevirtual 100, 3) := by decide +kernel
theorem dL_law_1151 : decode cL_law 1151 = .ok (.if_icmp .eq 1191, 3) := by decide +kernel
theorem dL_law_1156 : decode cL_law 1156 = .ok (.aload_n 1, 1) := by decide +kernel
theorem dL_law_1157 : decode cL_law 1157 = .ok (.aload_n 0, 1) := by decide +kernel
theorem dL_law_1158 : decode cL_law 1158 = .ok (.iload_n 3, 1) := by decide +kernel
theorem dL_law_1159 : decode cL_law 1159 = .ok (.iconst 1, 1) := by decide +kernel
theorem dL_law_1160 : decode cL_law 1160 = .ok (.iadd, 1) := by decide +kernel
theorem dL_law_1161 : decode cL_law 1161 = .ok (.iaload, 1) := by decide +kernel
theorem dL_law_1162 : decode cL_law 1162 = .ok (.aload_n 0, 1) := by decide +kernel
theorem dL_law_1163 : decode cL_law 1163 = .ok (.iload_n 3, 1) := by decide +kernel
theorem dL_law_1164 : decode cL_law 1164 = .ok (.iconst 2, 1) := by decide +kernel
theorem dL_law_1165 : decode cL_law 1165 = .ok (.iadd, 1) := by decide +kernel
theorem dL_law_1166 : decode cL_law 1166 = .ok (.iaload, 1) := by decide +kernel
theorem dL_law_1167 : decode cL_law 1167 = .ok (.aload_n 0, 1) := by decide +kernel
theorem dL_law_1168 : decode cL_law 1168 = .ok (.iload_n 3, 1) := by decide +kernel
theorem dL_law_1169 : decode cL_law 1169 = .ok (.iconst 3, 1) := by decide +kernel
theorem dL_law_1170 : decode cL_law 1170 = .ok (.iadd, 1) := by decide +kernel
theorem dL_law_1171 : decode cL_law 1171 = .ok (.iaload, 1) := by decide +kernel
theorem dL_law_1172 : decode cL_law 1172 = .ok (.invokevirtual 101, 3) := by decide +kernel
theorem dL_law_1175 : decode cL_law 1175 = .ok (.aload_n 2, 1) := by decide +kernel
theorem dL_law_1176 : decode cL_law 1176 = .ok (.aload_n 0, 1) := by decide +kernel
theorem dL_law_1177 : decode cL_law 1177 = .ok (.iload_n 3, 1) := by decide +kernel
theorem dL_law_1178 : decode cL_law 1178 = .ok (.iconst 1, 1) := by decide +kernel
theorem dL_law_1179 : decode cL_law 1179 = .ok (.iadd, 1) := by decide +kernel
theorem dL_law_1180 : decode cL_law 1180 = .ok (.iaload, 1) := by decide +kernel
theorem dL_law_1181 : decode cL_law 1181 = .ok (.aload_n 0, 1) := by decide +kernel
theorem dL_law_1182 : decode cL_law 1182 = .ok (.iload_n 3, 1) := by decide +kernel
theorem dL_law_1183 : decode cL_law 1183 = .ok (.iconst 2, 1) := by decide +kernel
theorem dL_law_1184 : decode cL_law 1184 = .ok (.iadd, 1) := by decide +kernel
theorem dL_law_1185 : decode cL_law 1185 = .ok (.iaload, 1) := by decide +kernel
theorem dL_law_1186 : decode cL_law 1186 = .ok (.aload_n 0, 1) := by decide +kernel
theorem dL_law_1187 : decode cL_law 1187 = .ok (.iload_n 3, 1) := by decide +kernel
theorem dL_law_1188 : decode cL_law 1188 = .ok (.iconst 3, 1) := by decide +kernel
theorem dL_law_1189 : decode cL_law 1189 = .ok (.iadd, 1) := by decide +kernel
theorem dL_law_1190 : decode cL_law 1190 = .ok (.iaload, 1) := by decide +kernel
theorem dL_law_1191 : decode cL_law 1191 = .ok (.invokevirtual 105, 3) := by decide +kernel
theorem dL_law_1194 : decode cL_law 1194 = .ok (.lcmp, 1) := by decide +kernel
theorem dL_law_1195 : decode cL_law 1195 = .ok (.ifCond .eq 1147, 3) := by decide +kernel
theorem lw_curve (hG : G.2.2.2 3 = (b, Lx, xs)) (hi : i + 9 ≤ Lx) (hLx : Lx ≤ 4608) (h0 : 0 < K.1) (h12 : (K.2.1 0).1 = 12) (hdc : dc + 1 ≤ d) (hdr : dr + 1 ≤ d)
    (hop : OpA n0 xX12_curve xX13_curve dc dr mc ms [.int (xs (i + 1)), .int (xs (i + 2)), .int (xs (i + 3)), .int (xs (i + 4))] K I L (fun K' I' L' => ZG G n0 xL_law d rc rs 18 [(0, .ref b), (1, .ref (n0 + 0)), (2, .ref (n0 + 59)), (3, .int (nI (i + 9)))] [] K' I' L' Q)) :
    ZH G n0 xL_law d (rc + mc) (rs + ms) 838 [(0, .ref b), (1, .ref (n0 + 0)), (2, .ref (n0 + 59)), (3, .int (nI i))] [] K I L Q := by
  refine yh_aload_n 1 dL_law_838 rfl ?_
  refine yh_aload_n 0 dL_law_839 rfl ?_
  refine yh_iload_n 3 dL_law_840 rfl ?_
  refine yh_iconst 1 dL_law_841 (by decide) ?_
  refine yh_iadd dL_law_842 ?_
  refine yh_sld hG dL_law_843 (law_ix (c := 1) (j := 1) rfl hi hLx (by omega)) ?_
  rw [law_cl (c := 1) (j := 1) rfl hi hLx (by omega)]
  refine yh_aload_n 0 dL_law_844 rfl ?_
  refine yh_iload_n 3 dL_law_845 rfl ?_
  refine yh_iconst 2 dL_law_846 (by decide) ?_
  refine yh_iadd dL_law_847 ?_
  refine yh_sld hG dL_law_848 (law_ix (c := 2) (j := 2) rfl hi hLx (by omega)) ?_
  rw [law_cl (c := 2) (j := 2) rfl hi hLx (by omega)]
  refine yh_aload_n 0 dL_law_849 rfl ?_
  refine yh_iload_n 3 dL_law_850 rfl ?_
  refine yh_iconst 3 dL_law_851 (by decide) ?_
  refine yh_iadd dL_law_852 ?_
  refine yh_sld hG dL_law_853 (law_ix (c := 3) (j := 3) rfl hi hLx (by omega)) ?_
  rw [law_cl (c := 3) (j := 3) rfl hi hLx (by omega)]
  refine yh_aload_n 0 dL_law_854 rfl ?_
  refine yh_iload_n 3 dL_law_855 rfl ?_
  refine yh_iconst 4 dL_law_856 (by decide) ?_
  refine yh_iadd dL_law_857 ?_
  refine yh_sld hG dL_law_858 (law_ix (c := 4) (j := 4) rfl hi hLx (by omega)) ?_
  rw [law_cl (c := 4) (j := 4) rfl hi hLx (by omega)]
  refine yh_callV (rc := rc) (rs := rs) (mc1 := mc) (ms1 := ms) (k := 0) (c := 12) (As := [.int (xs (i + 1)), .int (xs (i + 2)), .int (xs (i + 3)), .int (xs (i + 4))]) dL_law_859 hy_X12_curve h0 h12 (by decide) wg_816 wg_817 wg_818 hdc (Nat.le_of_ble_eq_true rfl) (RM.mono hop ?_)
  clear hop
  rintro vv K1 I1 L1 ⟨r, rfl, hop⟩
  change ZH G n0 xL_law d rc rs _ _ [.int r] K1 I1 L1 Q
  refine yh_aload_n 2 dL_law_862 rfl ?_
  refine yh_aload_n 0 dL_law_863 rfl ?_
  refine yh_iload_n 3 dL_law_864 rfl ?_
  refine yh_iconst 1 dL_law_865 (by decide) ?_
  refine yh_iadd dL_law_866 ?_
  refine yh_sld hG dL_law_867 (law_ix (c := 1) (j := 1) rfl hi hLx (by omega)) ?_
  rw [law_cl (c := 1) (j := 1) rfl hi hLx (by omega)]
  refine yh_aload_n 0 dL_law_868 rfl ?_
  refine yh_iload_n 3 dL_law_869 rfl ?_
  refine yh_iconst 2 dL_law_870 (by decide) ?_
  refine yh_iadd dL_law_871 ?_
  refine yh_sld hG dL_law_872 (law_ix (c := 2) (j := 2) rfl hi hLx (by omega)) ?_
  rw [law_cl (c := 2) (j := 2) rfl hi hLx (by omega)]
  refine yh_aload_n 0 dL_law_873 rfl ?_
  refine yh_iload_n 3 dL_law_874 rfl ?_
  refine yh_iconst 3 dL_law_875 (by decide) ?_
  refine yh_iadd dL_law_876 ?_
  refine yh_sld hG dL_law_877 (law_ix (c := 3) (j := 3) rfl hi hLx (by omega)) ?_
  rw [law_cl (c := 3) (j := 3) rfl hi hLx (by omega)]
  refine yh_aload_n 0 dL_law_878 rfl ?_
  refine yh_iload_n 3 dL_law_879 rfl ?_
  refine yh_iconst 4 dL_law_880 (by decide) ?_
  refine yh_iadd dL_law_881 ?_
  refine yh_sld hG dL_law_882 (law_ix (c := 4) (j := 4) rfl hi hLx (by omega)) ?_
  rw [law_cl (c := 4) (j := 4) rfl hi hLx (by omega)]
  refine yh_callM (As := [.int (xs (i + 1)), .int (xs (i + 2)), .int (xs (i + 3)), .int (xs (i + 4))]) (st := [.int r]) dL_law_883 hy_X13_curve wg_1942 wg_1943 wg_1944 hdr (Nat.le_of_ble_eq_true rfl) (RM0.mono hop ?_)
  clear hop
  rintro vv I2 L2 ⟨rfl, hP⟩
  change ZH G n0 xL_law d rc rs _ _ [.int r, .int r] K1 I2 L2 Q
  refine yh_icmp_eq 2342 dL_law_886 (by decide) (fun _ => ?_) (fun z => absurd rfl z)
  refine yh_iinc (j := 3) (nI (i + 9)) [1, 2, 3, 0] [(0, .ref b), (1, .ref (n0 + 0)), (2, .ref (n0 + 59)), (3, .int (nI (i + 9)))] dL_law_2342 rfl q_nadd (Nat.le_of_ble_eq_true rfl) rfl ?_
  refine yh_goto 18 dL_law_2345 (by decide) ?_
  exact ZH.ofG hP
theorem lw_straight (hG : G.2.2.2 3 = (b, Lx, xs)) (hi : i + 9 ≤ Lx) (hLx : Lx ≤ 4608) (h0 : 0 < K.1) (h12 : (K.2.1 0).1 = 12) (hdc : dc + 1 ≤ d) (hdr : dr + 1 ≤ d)
    (hop : OpA n0 xX12_straight xX13_straight dc dr mc ms [.int (xs (i + 1)), .int (xs (i + 2))] K I L (fun K' I' L' => ZG G n0 xL_law d rc rs 18 [(0, .ref b), (1, .ref (n0 + 0)), (2, .ref (n0 + 59)), (3, .int (nI (i + 9)))] [] K' I' L' Q)) :
    ZH G n0 xL_law d (rc + mc) (rs + ms) 891 [(0, .ref b), (1, .ref (n0 + 0)), (2, .ref (n0 + 59)), (3, .int (nI i))] [] K I L Q := by
  refine yh_aload_n 1 dL_law_891 rfl ?_
  refine yh_aload_n 0 dL_law_892 rfl ?_
  refine yh_iload_n 3 dL_law_893 rfl ?_
  refine yh_iconst 1 dL_law_894 (by decide) ?_
  refine yh_iadd dL_law_895 ?_
  refine yh_sld hG dL_law_896 (law_ix (c := 1) (j := 1) rfl hi hLx (by omega)) ?_
  rw [law_cl (c := 1) (j := 1) rfl hi hLx (by omega)]
  refine yh_aload_n 0 dL_law_897 rfl ?_
  refine yh_iload_n 3 dL_law_898 rfl ?_
  refine yh_iconst 2 dL_law_899 (by decide) ?_
  refine yh_iadd dL_law_900 ?_
  refine yh_sld hG dL_law_901 (law_ix (c := 2) (j := 2) rfl hi hLx (by omega)) ?_
  rw [law_cl (c := 2) (j := 2) rfl hi hLx (by omega)]
  refine yh_callV (rc := rc) (rs := rs) (mc1 := mc) (ms1 := ms) (k := 0) (c := 12) (As := [.int (xs (i + 1)), .int (xs (i + 2))]) dL_law_902 hy_X12_straight h0 h12 (by decide) wg_820 wg_821 wg_822 hdc (Nat.le_of_ble_eq_true rfl) (RM.mono hop ?_)
  clear hop
  rintro vv K1 I1 L1 ⟨r, rfl, hop⟩
  change ZH G n0 xL_law d rc rs _ _ [.int r] K1 I1 L1 Q
  refine yh_aload_n 2 dL_law_905 rfl ?_
  refine yh_aload_n 0 dL_law_906 rfl ?_
  refine yh_iload_n 3 dL_law_907 rfl ?_
  refine yh_iconst 1 dL_law_908 (by decide) ?_
  refine yh_iadd dL_law_909 ?_
  refine yh_sld hG dL_law_910 (law_ix (c := 1) (j := 1) rfl hi hLx (by omega)) ?_
  rw [law_cl (c := 1) (j := 1) rfl hi hLx (by omega)]
  refine yh_aload_n 0 dL_law_911 rfl ?_
  refine yh_iload_n 3 dL_law_912 rfl ?_
  refine yh_iconst 2 dL_law_913 (by decide) ?_
  refine yh_iadd dL_law_914 ?_
  refine yh_sld hG dL_law_915 (law_ix (c := 2) (j := 2) rfl hi hLx (by omega)) ?_
  rw [law_cl (c := 2) (j := 2) rfl hi hLx (by omega)]
  refine yh_callM (As := [.int (xs (i + 1)), .int (xs (i + 2))]) (st := [.int r]) dL_law_916 hy_X13_straight wg_1946 wg_1947 wg_1948 hdr (Nat.le_of_ble_eq_true rfl) (RM0.mono hop ?_)
  clear hop
  rintro vv I2 L2 ⟨rfl, hP⟩
  change ZH G n0 xL_law d rc rs _ _ [.int r, .int r] K1 I2 L2 Q
  refine yh_icmp_eq 2342 dL_law_919 (by decide) (fun _ => ?_) (fun z => absurd rfl z)
  refine yh_iinc (j := 3) (nI (i + 9)) [1, 2, 3, 0] [(0, .ref b), (1, .ref (n0 + 0)), (2, .ref (n0 + 59)), (3, .int (nI (i + 9)))] dL_law_2342 rfl q_nadd (Nat.le_of_ble_eq_true rfl) rfl ?_
  refine yh_goto 18 dL_law_2345 (by decide) ?_
  exact ZH.ofG hP
theorem lw_at (hG : G.2.2.2 3 = (b, Lx, xs)) (hi : i + 9 ≤ Lx) (hLx : Lx ≤ 4608) (h0 : 0 < K.1) (h12 : (K.2.1 0).1 = 12) (hdc : dc + 1 ≤ d) (hdr : dr + 1 ≤ d)
    (hop : OpA n0 xX12_at xX13_at dc dr mc ms [.int (xs (i + 1)), .int (xs (i + 2)), .int (xs (i + 3)), .int (xs (i + 4)), .int (xs (i + 5))] K I L (fun K' I' L' => ZG G n0 xL_law d rc rs 18 [(0, .ref b), (1, .ref (n0 + 0)), (2, .ref (n0 + 59)), (3, .int (nI (i + 9)))] [] K' I' L' Q)) :
    ZH G n0 xL_law d (rc + mc) (rs + ms) 924 [(0, .ref b), (1, .ref (n0 + 0)), (2, .ref (n0 + 59)), (3, .int (nI i))] [] K I L Q := by
  refine yh_aload_n 1 dL_law_924 rfl ?_
  refine yh_aload_n 0 dL_law_925 rfl ?_
  refine yh_iload_n 3 dL_law_926 rfl ?_
  refine yh_iconst 1 dL_law_927 (by decide) ?_
  refine yh_iadd dL_law_928 ?_
  refine yh_sld hG dL_law_929 (law_ix (c := 1) (j := 1) rfl hi hLx (by omega)) ?_
  rw [law_cl (c := 1) (j := 1) rfl hi hLx (by omega)]
  refine yh_aload_n 0 dL_law_930 rfl ?_
  refine yh_iload_n 3 dL_law_931 rfl ?_
  refine yh_iconst 2 dL_law_932 (by decide) ?_
  refine yh_iadd dL_law_933 ?_
  refine yh_sld hG dL_law_934 (law_ix (c := 2) (j := 2) rfl hi hLx (by omega)) ?_
  rw [law_cl (c := 2) (j := 2) rfl hi hLx (by omega)]
  refine yh_aload_n 0 dL_law_935 rfl ?_
  refine yh_iload_n 3 dL_law_936 rfl ?_
  refine yh_iconst 3 dL_law_937 (by decide) ?_
  refine yh_iadd dL_law_938 ?_
  refine yh_sld hG dL_law_939 (law_ix (c := 3) (j := 3) rfl hi hLx (by omega)) ?_
  rw [law_cl (c := 3) (j := 3) rfl hi hLx (by omega)]
  refine yh_aload_n 0 dL_law_940 rfl ?_
  refine yh_iload_n 3 dL_law_941 rfl ?_
  refine yh_iconst 4 dL_law_942 (by decide) ?_
  refine yh_iadd dL_law_943 ?_
  refine yh_sld hG dL_law_944 (law_ix (c := 4) (j := 4) rfl hi hLx (by omega)) ?_
  rw [law_cl (c := 4) (j := 4) rfl hi hLx (by omega)]
  refine yh_aload_n 0 dL_law_945 rfl ?_
  refine yh_iload_n 3 dL_law_946 rfl ?_
  refine yh_iconst 5 dL_law_947 (by decide) ?_
  refine yh_iadd dL_law_948 ?_
  refine yh_sld hG dL_law_949 (law_ix (c := 5) (j := 5) rfl hi hLx (by omega)) ?_
  rw [law_cl (c := 5) (j := 5) rfl hi hLx (by omega)]
  refine yh_callV (rc := rc) (rs := rs) (mc1 := mc) (ms1 := ms) (k := 0) (c := 12) (As := [.int (xs (i + 1)), .int (xs (i + 2)), .int (xs (i + 3)), .int (xs (i + 4)), .int (xs (i + 5))]) dL_law_950 hy_X12_at h0 h12 (by decide) wg_824 wg_825 wg_826 hdc (Nat.le_of_ble_eq_true rfl) (RM.mono hop ?_)
  clear hop
  rintro vv K1 I1 L1 ⟨r, rfl, hop⟩
  change ZH G n0 xL_law d rc rs _ _ [.int r] K1 I1 L1 Q
  refine yh_aload_n 2 dL_law_953 rfl ?_
  refine yh_aload_n 0 dL_law_954 rfl ?_
  refine yh_iload_n 3 dL_law_955 rfl ?_
  refine yh_iconst 1 dL_law_956 (by decide) ?_
  refine yh_iadd dL_law_957 ?_
  refine yh_sld hG dL_law_958 (law_ix (c := 1) (j := 1) rfl hi hLx (by omega)) ?_
  rw [law_cl (c := 1) (j := 1) rfl hi hLx (by omega)]
  refine yh_aload_n 0 dL_law_959 rfl ?_
  refine yh_iload_n 3 dL_law_960 rfl ?_
  refine yh_iconst 2 dL_law_961 (by decide) ?_
  refine yh_iadd dL_law_962 ?_
  refine yh_sld hG dL_law_963 (law_ix (c := 2) (j := 2) rfl hi hLx (by omega)) ?_
  rw [law_cl (c := 2) (j := 2) rfl hi hLx (by omega)]
  refine yh_aload_n 0 dL_law_964 rfl ?_
  refine yh_iload_n 3 dL_law_965 rfl ?_
  refine yh_iconst 3 dL_law_966 (by decide) ?_
  refine yh_iadd dL_law_967 ?_
  refine yh_sld hG dL_law_968 (law_ix (c := 3) (j := 3) rfl hi hLx (by omega)) ?_
  rw [law_cl (c := 3) (j := 3) rfl hi hLx (by omega)]
  refine yh_aload_n 0 dL_law_969 rfl ?_
  refine yh_iload_n 3 dL_law_970 rfl ?_
  refine yh_iconst 4 dL_law_971 (by decide) ?_
  refine yh_iadd dL_law_972 ?_
  refine yh_sld hG dL_law_973 (law_ix (c := 4) (j := 4) rfl hi hLx (by omega)) ?_
  rw [law_cl (c := 4) (j := 4) rfl hi hLx (by omega)]
  refine yh_aload_n 0 dL_law_974 rfl ?_
  refine yh_iload_n 3 dL_law_975 rfl ?_
  refine yh_iconst 5 dL_law_976 (by decide) ?_
  refine yh_iadd dL_law_977 ?_
  refine yh_sld hG dL_law_978 (law_ix (c := 5) (j := 5) rfl hi hLx (by omega)) ?_
  rw [law_cl (c := 5) (j := 5) rfl hi hLx (by omega)]
  refine yh_callM (As := [.int (xs (i + 1)), .int (xs (i + 2)), .int (xs (i + 3)), .int (xs (i + 4)), .int (xs (i + 5))]) (st := [.int r]) dL_law_979 hy_X13_at wg_1950 wg_1951 wg_1952 hdr (Nat.le_of_ble_eq_true rfl) (RM0.mono hop ?_)
  clear hop
  rintro vv I2 L2 ⟨rfl, hP⟩
  change ZH G n0 xL_law d rc rs _ _ [.int r, .int r] K1 I2 L2 Q
  refine yh_icmp_eq 2342 dL_law_982 (by decide) (fun _ => ?_) (fun z => absurd rfl z)
  refine yh_iinc (j := 3) (nI (i + 9)) [1, 2, 3, 0] [(0, .ref b), (1, .ref (n0 + 0)), (2, .ref (n0 + 59)), (3, .int (nI (i + 9)))] dL_law_2342 rfl q_nadd (Nat.le_of_ble_eq_true rfl) rfl ?_
  refine yh_goto 18 dL_law_2345 (by decide) ?_
  exact ZH.ofG hP
theorem lw_on (hG : G.2.2.2 3 = (b, Lx, xs)) (hi : i + 9 ≤ Lx) (hLx : Lx ≤ 4608) (h0 : 0 < K.1) (h12 : (K.2.1 0).1 = 12) (hdc : dc + 1 ≤ d) (hdr : dr + 1 ≤ d)
    (hop : OpA n0 xX12_on xX13_on dc dr mc ms [.int (xs (i + 1)), .int (xs (i + 2)), .int (xs (i + 3)), .int (xs (i + 4))] K I L (fun K' I' L' => ZG G n0 xL_law d rc rs 18 [(0, .ref b), (1, .ref (n0 + 0)), (2, .ref (n0 + 59)), (3, .int (nI (i + 9)))] [] K' I' L' Q)) :
    ZH G n0 xL_law d (rc + mc) (rs + ms) 987 [(0, .ref b), (1, .ref (n0 + 0)), (2, .ref (n0 + 59)), (3, .int (nI i))] [] K I L Q := by
  refine yh_aload_n 1 dL_law_987 rfl ?_
  refine yh_aload_n 0 dL_law_988 rfl ?_
  refine yh_iload_n 3 dL_law_989 rfl ?_
  refine yh_iconst 1 dL_law_990 (by decide) ?_
  refine yh_iadd dL_law_991 ?_
  refine yh_sld hG dL_law_992 (law_ix (c := 1) (j := 1) rfl hi hLx (by omega)) ?_
  rw [law_cl (c := 1) (j := 1) rfl hi hLx (by omega)]
  refine yh_aload_n 0 dL_law_993 rfl ?_
  refine yh_iload_n 3 dL_law_994 rfl ?_
  refine yh_iconst 2 dL_law_995 (by decide) ?_
  refine yh_iadd dL_law_996 ?_
  refine yh_sld hG dL_law_997 (law_ix (c := 2) (j := 2) rfl hi hLx (by omega)) ?_
  rw [law_cl (c := 2) (j := 2) rfl hi hLx (by omega)]
  refine yh_aload_n 0 dL_law_998 rfl ?_
  refine yh_iload_n 3 dL_law_999 rfl ?_
  refine yh_iconst 3 dL_law_1000 (by decide) ?_
  refine yh_iadd dL_law_1001 ?_
  refine yh_sld hG dL_law_1002 (law_ix (c := 3) (j := 3) rfl hi hLx (by omega)) ?_
  rw [law_cl (c := 3) (j := 3) rfl hi hLx (by omega)]
  refine yh_aload_n 0 dL_law_1003 rfl ?_
  refine yh_iload_n 3 dL_law_1004 rfl ?_
  refine yh_iconst 4 dL_law_1005 (by decide) ?_
  refine yh_iadd dL_law_1006 ?_
  refine yh_sld hG dL_law_1007 (law_ix (c := 4) (j := 4) rfl hi hLx (by omega)) ?_
  rw [law_cl (c := 4) (j := 4) rfl hi hLx (by omega)]
  refine yh_callV (rc := rc) (rs := rs) (mc1 := mc) (ms1 := ms) (k := 0) (c := 12) (As := [.int (xs (i + 1)), .int (xs (i + 2)), .int (xs (i + 3)), .int (xs (i + 4))]) dL_law_1008 hy_X12_on h0 h12 (by decide) wg_883 wg_884 wg_885 hdc (Nat.le_of_ble_eq_true rfl) (RM.mono hop ?_)
  clear hop
  rintro vv K1 I1 L1 ⟨r, rfl, hop⟩
  change ZH G n0 xL_law d rc rs _ _ [.int r] K1 I1 L1 Q
  refine yh_aload_n 2 dL_law_1011 rfl ?_
  refine yh_aload_n 0 dL_law_1012 rfl ?_
  refine yh_iload_n 3 dL_law_1013 rfl ?_
  refine yh_iconst 1 dL_law_1014 (by decide) ?_
  refine yh_iadd dL_law_1015 ?_
  refine yh_sld hG dL_law_1016 (law_ix (c := 1) (j := 1) rfl hi hLx (by omega)) ?_
  rw [law_cl (c := 1) (j := 1) rfl hi hLx (by omega)]
  refine yh_aload_n 0 dL_law_1017 rfl ?_
  refine yh_iload_n 3 dL_law_1018 rfl ?_
  refine yh_iconst 2 dL_law_1019 (by decide) ?_
  refine yh_iadd dL_law_1020 ?_
  refine yh_sld hG dL_law_1021 (law_ix (c := 2) (j := 2) rfl hi hLx (by omega)) ?_
  rw [law_cl (c := 2) (j := 2) rfl hi hLx (by omega)]
  refine yh_aload_n 0 dL_law_1022 rfl ?_
  refine yh_iload_n 3 dL_law_1023 rfl ?_
  refine yh_iconst 3 dL_law_1024 (by decide) ?_
  refine yh_iadd dL_law_1025 ?_
  refine yh_sld hG dL_law_1026 (law_ix (c := 3) (j := 3) rfl hi hLx (by omega)) ?_
  rw [law_cl (c := 3) (j := 3) rfl hi hLx (by omega)]
  refine yh_aload_n 0 dL_law_1027 rfl ?_
  refine yh_iload_n 3 dL_law_1028 rfl ?_
  refine yh_iconst 4 dL_law_1029 (by decide) ?_
  refine yh_iadd dL_law_1030 ?_
  refine yh_sld hG dL_law_1031 (law_ix (c := 4) (j := 4) rfl hi hLx (by omega)) ?_
  rw [law_cl (c := 4) (j := 4) rfl hi hLx (by omega)]
  refine yh_callM (As := [.int (xs (i + 1)), .int (xs (i + 2)), .int (xs (i + 3)), .int (xs (i + 4))]) (st := [.int r]) dL_law_1032 hy_X13_on wg_1966 wg_1967 wg_1968 hdr (Nat.le_of_ble_eq_true rfl) (RM0.mono hop ?_)
  clear hop
  rintro vv I2 L2 ⟨rfl, hP⟩
  change ZH G n0 xL_law d rc rs _ _ [.int r, .int r] K1 I2 L2 Q
  refine yh_icmp_eq 2342 dL_law_1035 (by decide) (fun _ => ?_) (fun z => absurd rfl z)
  refine yh_iinc (j := 3) (nI (i + 9)) [1, 2, 3, 0] [(0, .ref b), (1, .ref (n0 + 0)), (2, .ref (n0 + 59)), (3, .int (nI (i + 9)))] dL_law_2342 rfl q_nadd (Nat.le_of_ble_eq_true rfl) rfl ?_
  refine yh_goto 18 dL_law_2345 (by decide) ?_
  exact ZH.ofG hP
theorem lw_length (hG : G.2.2.2 3 = (b, Lx, xs)) (hi : i + 9 ≤ Lx) (hLx : Lx ≤ 4608) (h0 : 0 < K.1) (h12 : (K.2.1 0).1 = 12) (hdc : dc + 1 ≤ d) (hdr : dr + 1 ≤ d)
    (hop : OpA n0 xX12_length xX13_length dc dr mc ms [.int (xs (i + 1)), .int (xs (i + 2)), .int (xs (i + 3)), .int (xs (i + 4)), .int (xs (i + 5))] K I L (fun K' I' L' => ZG G n0 xL_law d rc rs 18 [(0, .ref b), (1, .ref (n0 + 0)), (2, .ref (n0 + 59)), (3, .int (nI (i + 9)))] [] K' I' L' Q)) :
    ZH G n0 xL_law d (rc + mc) (rs + ms) 1040 [(0, .ref b), (1, .ref (n0 + 0)), (2, .ref (n0 + 59)), (3, .int (nI i))] [] K I L Q := by
  refine yh_aload_n 1 dL_law_1040 rfl ?_
  refine yh_aload_n 0 dL_law_1041 rfl ?_
  refine yh_iload_n 3 dL_law_1042 rfl ?_
  refine yh_iconst 1 dL_law_1043 (by decide) ?_
  refine yh_iadd dL_law_1044 ?_
  refine yh_sld hG dL_law_1045 (law_ix (c := 1) (j := 1) rfl hi hLx (by omega)) ?_
  rw [law_cl (c := 1) (j := 1) rfl hi hLx (by omega)]
  refine yh_aload_n 0 dL_law_1046 rfl ?_
  refine yh_iload_n 3 dL_law_1047 rfl ?_
  refine yh_iconst 2 dL_law_1048 (by decide) ?_
  refine yh_iadd dL_law_1049 ?_
  refine yh_sld hG dL_law_1050 (law_ix (c := 2) (j := 2) rfl hi hLx (by omega)) ?_
  rw [law_cl (c := 2) (j := 2) rfl hi hLx (by omega)]
  refine yh_aload_n 0 dL_law_1051 rfl ?_
  refine yh_iload_n 3 dL_law_1052 rfl ?_
  refine yh_iconst 3 dL_law_1053 (by decide) ?_
  refine yh_iadd dL_law_1054 ?_
  refine yh_sld hG dL_law_1055 (law_ix (c := 3) (j := 3) rfl hi hLx (by omega)) ?_
  rw [law_cl (c := 3) (j := 3) rfl hi hLx (by omega)]
  refine yh_aload_n 0 dL_law_1056 rfl ?_
  refine yh_iload_n 3 dL_law_1057 rfl ?_
  refine yh_iconst 4 dL_law_1058 (by decide) ?_
  refine yh_iadd dL_law_1059 ?_
  refine yh_sld hG dL_law_1060 (law_ix (c := 4) (j := 4) rfl hi hLx (by omega)) ?_
  rw [law_cl (c := 4) (j := 4) rfl hi hLx (by omega)]
  refine yh_aload_n 0 dL_law_1061 rfl ?_
  refine yh_iload_n 3 dL_law_1062 rfl ?_
  refine yh_iconst 5 dL_law_1063 (by decide) ?_
  refine yh_iadd dL_law_1064 ?_
  refine yh_sld hG dL_law_1065 (law_ix (c := 5) (j := 5) rfl hi hLx (by omega)) ?_
  rw [law_cl (c := 5) (j := 5) rfl hi hLx (by omega)]
  refine yh_callV (rc := rc) (rs := rs) (mc1 := mc) (ms1 := ms) (k := 0) (c := 12) (As := [.int (xs (i + 1)), .int (xs (i + 2)), .int (xs (i + 3)), .int (xs (i + 4)), .int (xs (i + 5))]) dL_law_1066 hy_X12_length h0 h12 (by decide) wg_891 wg_892 wg_893 hdc (Nat.le_of_ble_eq_true rfl) (RM.mono hop ?_)
  clear hop
  rintro vv K1 I1 L1 ⟨r, rfl, hop⟩
  change ZH G n0 xL_law d rc rs _ _ [.int r] K1 I1 L1 Q
  refine yh_aload_n 2 dL_law_1069 rfl ?_
  refine yh_aload_n 0 dL_law_1070 rfl ?_
  refine yh_iload_n 3 dL_law_1071 rfl ?_
  refine yh_iconst 1 dL_law_1072 (by decide) ?_
  refine yh_iadd dL_law_1073 ?_
  refine yh_sld hG dL_law_1074 (law_ix (c := 1) (j := 1) rfl hi hLx (by omega)) ?_
  rw [law_cl (c := 1) (j := 1) rfl hi hLx (by omega)]
  refine yh_aload_n 0 dL_law_1075 rfl ?_
  refine yh_iload_n 3 dL_law_1076 rfl ?_
  refine yh_iconst 2 dL_law_1077 (by decide) ?_
  refine yh_iadd dL_law_1078 ?_
  refine yh_sld hG dL_law_1079 (law_ix (c := 2) (j := 2) rfl hi hLx (by omega)) ?_
  rw [law_cl (c := 2) (j := 2) rfl hi hLx (by omega)]
  refine yh_aload_n 0 dL_law_1080 rfl ?_
  refine yh_iload_n 3 dL_law_1081 rfl ?_
  refine yh_iconst 3 dL_law_1082 (by decide) ?_
  refine yh_iadd dL_law_1083 ?_
  refine yh_sld hG dL_law_1084 (law_ix (c := 3) (j := 3) rfl hi hLx (by omega)) ?_
  rw [law_cl (c := 3) (j := 3) rfl hi hLx (by omega)]
  refine yh_aload_n 0 dL_law_1085 rfl ?_
  refine yh_iload_n 3 dL_law_1086 rfl ?_
  refine yh_iconst 4 dL_law_1087 (by decide) ?_
  refine yh_iadd dL_law_1088 ?_
  refine yh_sld hG dL_law_1089 (law_ix (c := 4) (j := 4) rfl hi hLx (by omega)) ?_
  rw [law_cl (c := 4) (j := 4) rfl hi hLx (by omega)]
  refine yh_aload_n 0 dL_law_1090 rfl ?_
  refine yh_iload_n 3 dL_law_1091 rfl ?_
  refine yh_iconst 5 dL_law_1092 (by decide) ?_
  refine yh_iadd dL_law_1093 ?_
  refine yh_sld hG dL_law_1094 (law_ix (c := 5) (j := 5) rfl hi hLx (by omega)) ?_
  rw [law_cl (c := 5) (j := 5) rfl hi hLx (by omega)]
  refine yh_callM (As := [.int (xs (i + 1)), .int (xs (i + 2)), .int (xs (i + 3)), .int (xs (i + 4)), .int (xs (i + 5))]) (st := [.int r]) dL_law_1095 hy_X13_length wg_1974 wg_1975 wg_1976 hdr (Nat.le_of_ble_eq_true rfl) (RM0.mono hop ?_)
  clear hop
  rintro vv I2 L2 ⟨rfl, hP⟩
  change ZH G n0 xL_law d rc rs _ _ [.int r, .int r] K1 I2 L2 Q
  refine yh_icmp_eq 2342 dL_law_1098 (by decide) (fun _ => ?_) (fun z => absurd rfl z)
  refine yh_iinc (j := 3) (nI (i + 9)) [1, 2, 3, 0] [(0, .ref b), (1, .ref (n0 + 0)), (2, .ref (n0 + 59)), (3, .int (nI (i + 9)))] dL_law_2342 rfl q_nadd (Nat.le_of_ble_eq_true rfl) rfl ?_
  refine yh_goto 18 dL_law_2345 (by decide) ?_
  exact ZH.ofG hP
theorem lw_lengthOn (hG : G.2.2.2 3 = (b, Lx, xs)) (hi : i + 9 ≤ Lx) (hLx : Lx ≤ 4608) (h0 : 0 < K.1) (h12 : (K.2.1 0).1 = 12) (hdc : dc + 1 ≤ d) (hdr : dr + 1 ≤ d)
    (hop : OpA n0 xX12_lengthOn xX13_lengthOn dc dr mc ms [.int (xs (i + 1)), .int (xs (i + 2)), .int (xs (i + 3)), .int (xs (i + 4))] K I L (fun K' I' L' => ZG G n0 xL_law d rc rs 18 [(0, .ref b), (1, .ref (n0 + 0)), (2, .ref (n0 + 59)), (3, .int (nI (i + 9)))] [] K' I' L' Q)) :
    ZH G n0 xL_law d (rc + mc) (rs + ms) 1103 [(0, .ref b), (1, .ref (n0 + 0)), (2, .ref (n0 + 59)), (3, .int (nI i))] [] K I L Q := by
  refine yh_aload_n 1 dL_law_1103 rfl ?_
  refine yh_aload_n 0 dL_law_1104 rfl ?_
  refine yh_iload_n 3 dL_law_1105 rfl ?_
  refine yh_iconst 1 dL_law_1106 (by decide) ?_
  refine yh_iadd dL_law_1107 ?_
  refine yh_sld hG dL_law_1108 (law_ix (c := 1) (j := 1) rfl hi hLx (by omega)) ?_
  rw [law_cl (c := 1) (j := 1) rfl hi hLx (by omega)]
  refine yh_aload_n 0 dL_law_1109 rfl ?_
  refine yh_iload_n 3 dL_law_1110 rfl ?_
  refine yh_iconst 2 dL_law_1111 (by decide) ?_
  refine yh_iadd dL_law_1112 ?_
  refine yh_sld hG dL_law_1113 (law_ix (c := 2) (j := 2) rfl hi hLx (by omega)) ?_
  rw [law_cl (c := 2) (j := 2) rfl hi hLx (by omega)]
  refine yh_aload_n 0 dL_law_1114 rfl ?_
  refine yh_iload_n 3 dL_law_1115 rfl ?_
  refine yh_iconst 3 dL_law_1116 (by decide) ?_
  refine yh_iadd dL_law_1117 ?_
  refine yh_sld hG dL_law_1118 (law_ix (c := 3) (j := 3) rfl hi hLx (by omega)) ?_
  rw [law_cl (c := 3) (j := 3) rfl hi hLx (by omega)]
  refine yh_aload_n 0 dL_law_1119 rfl ?_
  refine yh_iload_n 3 dL_law_1120 rfl ?_
  refine yh_iconst 4 dL_law_1121 (by decide) ?_
  refine yh_iadd dL_law_1122 ?_
  refine yh_sld hG dL_law_1123 (law_ix (c := 4) (j := 4) rfl hi hLx (by omega)) ?_
  rw [law_cl (c := 4) (j := 4) rfl hi hLx (by omega)]
  refine yh_callV (rc := rc) (rs := rs) (mc1 := mc) (ms1 := ms) (k := 0) (c := 12) (As := [.int (xs (i + 1)), .int (xs (i + 2)), .int (xs (i + 3)), .int (xs (i + 4))]) dL_law_1124 hy_X12_lengthOn h0 h12 (by decide) wg_909 wg_910 wg_911 hdc (Nat.le_of_ble_eq_true rfl) (RM.mono hop ?_)
  clear hop
  rintro vv K1 I1 L1 ⟨r, rfl, hop⟩
  change ZH G n0 xL_law d rc rs _ _ [.int r] K1 I1 L1 Q
  refine yh_aload_n 2 dL_law_1127 rfl ?_
  refine yh_aload_n 0 dL_law_1128 rfl ?_
  refine yh_iload_n 3 dL_law_1129 rfl ?_
  refine yh_iconst 1 dL_law_1130 (by decide) ?_
  refine yh_iadd dL_law_1131 ?_
  refine yh_sld hG dL_law_1132 (law_ix (c := 1) (j := 1) rfl hi hLx (by omega)) ?_
  rw [law_cl (c := 1) (j := 1) rfl hi hLx (by omega)]
  refine yh_aload_n 0 dL_law_1133 rfl ?_
  refine yh_iload_n 3 dL_law_1134 rfl ?_
  refine yh_iconst 2 dL_law_1135 (by decide) ?_
  refine yh_iadd dL_law_1136 ?_
  refine yh_sld hG dL_law_1137 (law_ix (c := 2) (j := 2) rfl hi hLx (by omega)) ?_
  rw [law_cl (c := 2) (j := 2) rfl hi hLx (by omega)]
  refine yh_aload_n 0 dL_law_1138 rfl ?_
  refine yh_iload_n 3 dL_law_1139 rfl ?_
  refine yh_iconst 3 dL_law_1140 (by decide) ?_
  refine yh_iadd dL_law_1141 ?_
  refine yh_sld hG dL_law_1142 (law_ix (c := 3) (j := 3) rfl hi hLx (by omega)) ?_
  rw [law_cl (c := 3) (j := 3) rfl hi hLx (by omega)]
  refine yh_aload_n 0 dL_law_1143 rfl ?_
  refine yh_iload_n 3 dL_law_1144 rfl ?_
  refine yh_iconst 4 dL_law_1145 (by decide) ?_
  refine yh_iadd dL_law_1146 ?_
  refine yh_sld hG dL_law_1147 (law_ix (c := 4) (j := 4) rfl hi hLx (by omega)) ?_
  rw [law_cl (c := 4) (j := 4) rfl hi hLx (by omega)]
  refine yh_callM (As := [.int (xs (i + 1)), .int (xs (i + 2)), .int (xs (i + 3)), .int (xs (i + 4))]) (st := [.int r]) dL_law_1148 hy_X13_lengthOn wg_1994 wg_1995 wg_1996 hdr (Nat.le_of_ble_eq_true rfl) (RM0.mono hop ?_)
  clear hop
  rintro vv I2 L2 ⟨rfl, hP⟩
  change ZH G n0 xL_law d rc rs _ _ [.int r, .int r] K1 I2 L2 Q
  refine yh_icmp_eq 2342 dL_law_1151 (by decide) (fun _ => ?_) (fun z => absurd rfl z)
  refine yh_iinc (j := 3) (nI (i + 9)) [1, 2, 3, 0] [(0, .ref b), (1, .ref (n0 + 0)), (2, .ref (n0 + 59)), (3, .int (nI (i + 9)))] dL_law_2342 rfl q_nadd (Nat.le_of_ble_eq_true rfl) rfl ?_
  refine yh_goto 18 dL_law_2345 (by decide) ?_
  exact ZH.ofG hP
theorem lw_area (hG : G.2.2.2 3 = (b, Lx, xs)) (hi : i + 9 ≤ Lx) (hLx : Lx ≤ 4608) (h0 : 0 < K.1) (h12 : (K.2.1 0).1 = 12) (hdc : dc + 1 ≤ d) (hdr : dr + 1 ≤ d)
    (hop : OpL n0 xX12_area xX13_area dc dr mc ms [.int (xs (i + 1)), .int (xs (i + 2)), .int (xs (i + 3))] K I L (fun K' I' L' => ZG G n0 xL_law d rc rs 18 [(0, .ref b), (1, .ref (n0 + 0)), (2, .ref (n0 + 59)), (3, .int (nI (i + 9)))] [] K' I' L' Q)) :
    ZH G n0 xL_law d (rc + mc) (rs + ms) 1156 [(0, .ref b), (1, .ref (n0 + 0)), (2, .ref (n0 + 59)), (3, .int (nI i))] [] K I L Q := by
  refine yh_aload_n 1 dL_law_1156 rfl ?_
  refine yh_aload_n 0 dL_law_1157 rfl ?_
  refine yh_iload_n 3 dL_law_1158 rfl ?_
  refine yh_iconst 1 dL_law_1159 (by decide) ?_
  refine yh_iadd dL_law_1160 ?_
  refine yh_sld hG dL_law_1161 (law_ix (c := 1) (j := 1) rfl hi hLx (by omega)) ?_
  rw [law_cl (c := 1) (j := 1) rfl hi hLx (by omega)]
  refine yh_aload_n 0 dL_law_1162 rfl ?_
  refine yh_iload_n 3 dL_law_1163 rfl ?_
  refine yh_iconst 2 dL_law_1164 (by decide) ?_
  refine yh_iadd dL_law_1165 ?_
  refine yh_sld hG dL_law_1166 (law_ix (c := 2) (j := 2) rfl hi hLx (by omega)) ?_
  rw [law_cl (c := 2) (j := 2) rfl hi hLx (by omega)]
  refine yh_aload_n 0 dL_law_1167 rfl ?_
  refine yh_iload_n 3 dL_law_1168 rfl ?_
  refine yh_iconst 3 dL_law_1169 (by decide) ?_
  refine yh_iadd dL_law_1170 ?_
  refine yh_sld hG dL_law_1171 (law_ix (c := 3) (j := 3) rfl hi hLx (by omega)) ?_
  rw [law_cl (c := 3) (j := 3) rfl hi hLx (by omega)]
  refine yh_callV (rc := rc) (rs := rs) (mc1 := mc) (ms1 := ms) (k := 0) (c := 12) (As := [.int (xs (i + 1)), .int (xs (i + 2)), .int (xs (i + 3))]) dL_law_1172 hy_X12_area h0 h12 (by decide) wg_913 wg_914 wg_915 hdc (Nat.le_of_ble_eq_true rfl) (RM.mono hop ?_)
  clear hop
  rintro vv K1 I1 L1 ⟨r, rfl, hop⟩
  change ZH G n0 xL_law d rc rs _ _ [.long r] K1 I1 L1 Q
  refine yh_aload_n 2 dL_law_1175 rfl ?_
  refine yh_aload_n 0 dL_law_1176 rfl ?_
  refine yh_iload_n 3 dL_law_1177 rfl ?_
  refine yh_iconst 1 dL_law_1178 (by decide) ?_
  refine yh_iadd dL_law_1179 ?_
  refine yh_sld hG dL_law_1180 (law_ix (c := 1) (j := 1) rfl hi hLx (by omega)) ?_
  rw [law_cl (c := 1) (j := 1) rfl hi hLx (by omega)]
  refine yh_aload_n 0 dL_law_1181 rfl ?_
  refine yh_iload_n 3 dL_law_1182 rfl ?_
  refine yh_iconst 2 dL_law_1183 (by decide) ?_
  refine yh_iadd dL_law_1184 ?_
  refine yh_sld hG dL_law_1185 (law_ix (c := 2) (j := 2) rfl hi hLx (by omega)) ?_
  rw [law_cl (c := 2) (j := 2) rfl hi hLx (by omega)]
  refine yh_aload_n 0 dL_law_1186 rfl ?_
  refine yh_iload_n 3 dL_law_1187 rfl ?_
  refine yh_iconst 3 dL_law_1188 (by decide) ?_
  refine yh_iadd dL_law_1189 ?_
  refine yh_sld hG dL_law_1190 (law_ix (c := 3) (j := 3) rfl hi hLx (by omega)) ?_
  rw [law_cl (c := 3) (j := 3) rfl hi hLx (by omega)]
  refine yh_callM (As := [.int (xs (i + 1)), .int (xs (i + 2)), .int (xs (i + 3))]) (st := [.long r]) dL_law_1191 hy_X13_area wg_1998 wg_1999 wg_2000 hdr (Nat.le_of_ble_eq_true rfl) (RM0.mono hop ?_)
  clear hop
  rintro vv I2 L2 ⟨rfl, hP⟩
  change ZH G n0 xL_law d rc rs _ _ [.long r, .long r] K1 I2 L2 Q
  refine yh_lcmp dL_law_1194 ?_
  refine yh_if_eq 2342 dL_law_1195 (by decide) (fun _ => ?_) (fun z => absurd (lg_cmp_rf r) z)
  refine yh_iinc (j := 3) (nI (i + 9)) [1, 2, 3, 0] [(0, .ref b), (1, .ref (n0 + 0)), (2, .ref (n0 + 59)), (3, .int (nI (i + 9)))] dL_law_2342 rfl q_nadd (Nat.le_of_ble_eq_true rfl) rfl ?_
  refine yh_goto 18 dL_law_2345 (by decide) ?_
  exact ZH.ofG hP
end LAWC
