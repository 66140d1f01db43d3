theorem dl_799 : decode code 799 = .ok (.iload_n 3, 1) := by decide +kernel
theorem dl_800 : decode code 800 = .ok (.iconst 1, 1) := by decide +kernel
theorem dl_801 : decode code 801 = .ok (.iadd, 1) := by decide +kernel
theorem dl_802 : decode code 802 = .ok (.iaload, 1) := by decide +kernel
theorem dl_803 : decode code 803 = .ok (.aload_n 0, 1) := by decide +kernel
theorem dl_804 : decode code 804 = .ok (.iload_n 3, 1) := by decide +kernel
theorem dl_805 : decode code 805 = .ok (.iconst 2, 1) := by decide +kernel
theorem dl_806 : decode code 806 = .ok (.iadd, 1) := by decide +kernel
theorem dl_807 : decode code 807 = .ok (.iaload, 1) := by decide +kernel
theorem dl_808 : decode code 808 = .ok (.aload_n 0, 1) := by decide +kernel
theorem dl_809 : decode code 809 = .ok (.iload_n 3, 1) := by decide +kernel
theorem dl_810 : decode code 810 = .ok (.iconst 3, 1) := by decide +kernel
theorem dl_811 : decode code 811 = .ok (.iadd, 1) := by decide +kernel
theorem dl_812 : decode code 812 = .ok (.iaload, 1) := by decide +kernel
theorem dl_813 : decode code 813 = .ok (.aload_n 0, 1) := by decide +kernel
theorem dl_814 : decode code 814 = .ok (.iload_n 3, 1) := by decide +kernel
theorem dl_815 : decode code 815 = .ok (.iconst 4, 1) := by decide +kernel
theorem dl_816 : decode code 816 = .ok (.iadd, 1) := by decide +kernel
theorem dl_817 : decode code 817 = .ok (.iaload, 1) := by decide +kernel
theorem dl_818 : decode code 818 = .ok (.invokevirtual 79, 3) := by decide +kernel
theorem dl_821 : decode code 821 = .ok (.pop, 1) := by decide +kernel
theorem dl_822 : decode code 822 = .ok (.aload_n 2, 1) := by decide +kernel
theorem dl_823 : decode code 823 = .ok (.aload_n 0, 1) := by decide +kernel
theorem dl_824 : decode code 824 = .ok (.iload_n 3, 1) := by decide +kernel
theorem dl_825 : decode code 825 = .ok (.iconst 1, 1) := by decide +kernel
theorem dl_826 : decode code 826 = .ok (.iadd, 1) := by decide +kernel
theorem dl_827 : decode code 827 = .ok (.iaload, 1) := by decide +kernel
theorem dl_828 : decode code 828 = .ok (.aload_n 0, 1) := by decide +kernel
theorem dl_829 : decode code 829 = .ok (.iload_n 3, 1) := by decide +kernel
theorem dl_830 : decode code 830 = .ok (.iconst 2, 1) := by decide +kernel
theorem dl_831 : decode code 831 = .ok (.iadd, 1) := by decide +kernel
theorem dl_832 : decode code 832 = .ok (.iaload, 1) := by decide +kernel
theorem dl_833 : decode code 833 = .ok (.aload_n 0, 1) := by decide +kernel
theorem dl_834 : decode code 834 = .ok (.iload_n 3, 1) := by decide +kernel
theorem dl_835 : decode code 835 = .ok (.iconst 3, 1) := by decide +kernel
theorem dl_836 : decode code 836 = .ok (.iadd, 1) := by decide +kernel
theorem dl_837 : decode code 837 = .ok (.iaload, 1) := by decide +kernel
theorem dl_838 : decode code 838 = .ok (.aload_n 0, 1) := by decide +kernel
theorem dl_839 : decode code 839 = .ok (.iload_n 3, 1) := by decide +kernel
theorem dl_840 : decode code 840 = .ok (.iconst 4, 1) := by decide +kernel
theorem dl_841 : decode code 841 = .ok (.iadd, 1) := by decide +kernel
theorem dl_842 : decode code 842 = .ok (.iaload, 1) := by decide +kernel
theorem dl_843 : decode code 843 = .ok (.invokevirtual 82, 3) := by decide +kernel
theorem dl_846 : decode code 846 = .ok (.pop, 1) := by decide +kernel
theorem dl_847 : decode code 847 = .ok (.goto 613, 3) := by decide +kernel
theorem dl_850 : decode code 850 = .ok (.aload_n 1, 1) := by decide +kernel
theorem dl_851 : decode code 851 = .ok (.aload_n 0, 1) := by decide +kernel
theorem dl_852 : decode code 852 = .ok (.iload_n 3, 1) := by decide +kernel
theorem dl_853 : decode code 853 = .ok (.iconst 1, 1) := by decide +kernel
theorem dl_854 : decode code 854 = .ok (.iadd, 1) := by decide +kernel
theorem dl_855 : decode code 855 = .ok (.iaload, 1) := by decide +kernel
theorem dl_856 : decode code 856 = .ok (.aload_n 0, 1) := by decide +kernel
theorem dl_857 : decode code 857 = .ok (.iload_n 3, 1) := by decide +kernel
theorem dl_858 : decode code 858 = .ok (.iconst 2, 1) := by decide +kernel
theorem dl_859 : decode code 859 = .ok (.iadd, 1) := by decide +kernel
theorem dl_860 : decode code 860 = .ok (.iaload, 1) := by decide +kernel
theorem dl_861 : decode code 861 = .ok (.aload_n 0, 1) := by decide +kernel
theorem dl_862 : decode code 862 = .ok (.iload_n 3, 1) := by decide +kernel
theorem dl_863 : decode code 863 = .ok (.iconst 3, 1) := by decide +kernel
theorem dl_864 : decode code 864 = .ok (.iadd, 1) := by decide +kernel
theorem dl_865 : decode code 865 = .ok (.iaload, 1) := by decide +kernel
theorem dl_866 : decode code 866 = .ok (.aload_n 0, 1) := by decide +kernel
theorem dl_867 : decode code 867 = .ok (.iload_n 3, 1) := by decide +kernel
theorem dl_868 : decode code 868 = .ok (.iconst 4, 1) := by decide +kernel
theorem dl_869 : decode code 869 = .ok (.iadd, 1) := by decide +kernel
theorem dl_870 : decode code 870 = .ok (.iaload, 1) := by decide +kernel
theorem dl_871 : decode code 871 = .ok (.invokevirtual 83, 3) := by decide +kernel
theorem dl_874 : decode code 874 = .ok (.pop, 1) := by decide +kernel
theorem dl_875 : decode code 875 = .ok (.aload_n 2, 1) := by decide +kernel
theorem dl_876 : decode code 876 = .ok (.aload_n 0, 1) := by decide +kernel
theorem dl_877 : decode code 877 = .ok (.iload_n 3, 1) := by decide +kernel
theorem dl_878 : decode code 878 = .ok (.iconst 1, 1) := by decide +kernel
theorem dl_879 : decode code 879 = .ok (.iadd, 1) := by decide +kernel
theorem dl_880 : decode code 880 = .ok (.iaload, 1) := by decide +kernel
theorem dl_881 : decode code 881 = .ok (.aload_n 0, 1) := by decide +kernel
theorem dl_882 : decode code 882 = .ok (.iload_n 3, 1) := by decide +kernel
theorem dl_883 : decode code 883 = .ok (.iconst 2, 1) := by decide +kernel
theorem dl_884 : decode code 884 = .ok (.iadd, 1) := by decide +kernel
theorem dl_885 : decode code 885 = .ok (.iaload, 1) := by decide +kernel
theorem dl_886 : decode code 886 = .ok (.aload_n 0, 1) := by decide +kernel
theorem dl_887 : decode code 887 = .ok (.iload_n 3, 1) := by decide +kernel
theorem dl_888 : decode code 888 = .ok (.iconst 3, 1) := by decide +kernel
theorem dl_889 : decode code 889 = .ok (.iadd, 1) := by decide +kernel
theorem dl_890 : decode code 890 = .ok (.iaload, 1) := by decide +kernel
theorem dl_891 : decode code 891 = .ok (.aload_n 0, 1) := by decide +kernel
theorem dl_892 : decode code 892 = .ok (.iload_n 3, 1) := by decide +kernel
theorem dl_893 : decode code 893 = .ok (.iconst 4, 1) := by decide +kernel
theorem dl_894 : decode code 894 = .ok (.iadd, 1) := by decide +kernel
theorem dl_895 : decode code 895 = .ok (.iaload, 1) := by decide +kernel
theorem dl_896 : decode code 896 = .ok (.invokevirtual 86, 3) := by decide +kernel
theorem dl_899 : decode code 899 = .ok (.pop, 1) := by decide +kernel
theorem dl_900 : decode code 900 = .ok (.goto 560, 3) := by decide +kernel
theorem dl_903 : decode code 903 = .ok (.aload_n 1, 1) := by decide +kernel
theorem dl_904 : decode code 904 = .ok (.aload_n 0, 1) := by decide +kernel
theorem dl_905 : decode code 905 = .ok (.iload_n 3, 1) := by decide +kernel
theorem dl_906 : decode code 906 = .ok (.iconst 1, 1) := by decide +kernel
theorem dl_907 : decode code 907 = .ok (.iadd, 1) := by decide +kernel
theorem dl_908 : decode code 908 = .ok (.iaload, 1) := by decide +kernel
theorem dl_909 : decode code 909 = .ok (.invokevirtual 87, 3) := by decide +kernel
theorem dl_912 : decode code 912 = .ok (.pop, 1) := by decide +kernel
theorem dl_913 : decode code 913 = .ok (.aload_n 2, 1) := by decide +kernel
theorem dl_914 : decode code 914 = .ok (.aload_n 0, 1) := by decide +kernel
theorem dl_915 : decode code 915 = .ok (.iload_n 3, 1) := by decide +kernel
theorem dl_916 : decode code 916 = .ok (.iconst 1, 1) := by decide +kernel
theorem dl_917 : decode code 917 = .ok (.iadd, 1) := by decide +kernel
theorem dl_918 : decode code 918 = .ok (.iaload, 1) := by decide +kernel
theorem dl_919 : decode code 919 = .ok (.invokevirtual 90, 3) := by decide +kernel
theorem dl_922 : decode code 922 = .ok (.pop, 1) := by decide +kernel
theorem dl_923 : decode code 923 = .ok (.goto 537, 3) := by decide +kernel
theorem dl_926 : decode code 926 = .ok (.aload_n 1, 1) := by decide +kernel
theorem dl_927 : decode code 927 = .ok (.aload_n 0, 1) := by decide +kernel
theorem dl_928 : decode code 928 = .ok (.iload_n 3, 1) := by decide +kernel
theorem dl_929 : decode code 929 = .ok (.iconst 1, 1) := by decide +kernel
theorem dl_930 : decode code 930 = .ok (.iadd, 1) := by decide +kernel
theorem dl_931 : decode code 931 = .ok (.iaload, 1) := by decide +kernel
theorem dl_932 : decode code 932 = .ok (.aload_n 0, 1) := by decide +kernel
theorem dl_933 : decode code 933 = .ok (.iload_n 3, 1) := by decide +kernel
theorem dl_934 : decode code 934 = .ok (.iconst 2, 1) := by decide +kernel
theorem dl_935 : decode code 935 = .ok (.iadd, 1) := by decide +kernel
theorem dl_936 : decode code 936 = .ok (.iaload, 1) := by decide +kernel
theorem dl_937 : decode code 937 = .ok (.aload_n 0, 1) := by decide +kernel
theorem dl_938 : decode code 938 = .ok (.iload_n 3, 1) := by decide +kernel
theorem dl_939 : decode code 939 = .ok (.iconst 3, 1) := by decide +kernel
theorem dl_940 : decode code 940 = .ok (.iadd, 1) := by decide +kernel
theorem dl_941 : decode code 941 = .ok (.iaload, 1) := by decide +kernel
theorem dl_942 : decode code 942 = .ok (.invokevirtual 91, 3) := by decide +kernel
theorem dl_945 : decode code 945 = .ok (.pop, 1) := by decide +kernel
theorem dl_946 : decode code 946 = .ok (.aload_n 2, 1) := by decide +kernel
theorem dl_947 : decode code 947 = .ok (.aload_n 0, 1) := by decide +kernel
theorem dl_948 : decode code 948 = .ok (.iload_n 3, 1) := by decide +kernel
theorem dl_949 : decode code 949 = .ok (.iconst 1, 1) := by decide +kernel
theorem dl_950 : decode code 950 = .ok (.iadd, 1) := by decide +kernel
theorem dl_951 : decode code 951 = .ok (.iaload, 1) := by decide +kernel
theorem dl_952 : decode code 952 = .ok (.aload_n 0, 1) := by decide +kernel
theorem dl_953 : decode code 953 = .ok (.iload_n 3, 1) := by decide +kernel
theorem dl_954 : decode code 954 = .ok (.iconst 2, 1) := by decide +kernel
theorem dl_955 : decode code 955 = .ok (.iadd, 1) := by decide +kernel
theorem dl_956 : decode code 956 = .ok (.iaload, 1) := by decide +kernel
theorem dl_957 : decode code 957 = .ok (.aload_n 0, 1) := by decide +kernel
theorem dl_958 : decode code 958 = .ok (.iload_n 3, 1) := by decide +kernel
theorem dl_959 : decode code 959 = .ok (.iconst 3, 1) := by decide +kernel
theorem dl_960 : decode code 960 = .ok (.iadd, 1) := by decide +kernel
theorem dl_961 : decode code 961 = .ok (.iaload, 1) := by decide +kernel
theorem dl_962 : decode code 962 = .ok (.invokevirtual 94, 3) := by decide +kernel
theorem dl_965 : decode code 965 = .ok (.pop, 1) := by decide +kernel
theorem dl_966 : decode code 966 = .ok (.goto 494, 3) := by decide +kernel
theorem dl_969 : decode code 969 = .ok (.aload_n 1, 1) := by decide +kernel
theorem dl_970 : decode code 970 = .ok (.aload_n 0, 1) := by decide +kernel
theorem dl_971 : decode code 971 = .ok (.iload_n 3, 1) := by decide +kernel
theorem dl_972 : decode code 972 = .ok (.iconst 1, 1) := by decide +kernel
theorem dl_973 : decode code 973 = .ok (.iadd, 1) := by decide +kernel
theorem dl_974 : decode code 974 = .ok (.iaload, 1) := by decide +kernel
theorem dl_975 : decode code 975 = .ok (.aload_n 0, 1) := by decide +kernel
theorem dl_976 : decode code 976 = .ok (.iload_n 3, 1) := by decide +kernel
theorem dl_977 : decode code 977 = .ok (.iconst 2, 1) := by decide +kernel
theorem dl_978 : decode code 978 = .ok (.iadd, 1) := by decide +kernel
theorem dl_979 : decode code 979 = .ok (.iaload, 1) := by decide +kernel
theorem dl_980 : decode code 980 = .ok (.invokevirtual 95, 3) := by decide +kernel
theorem dl_983 : decode code 983 = .ok (.pop, 1) := by decide +kernel
theorem dl_984 : decode code 984 = .ok (.aload_n 2, 1) := by decide +kernel
theorem dl_985 : decode code 985 = .ok (.aload_n 0, 1) := by decide +kernel
theorem dl_986 : decode code 986 = .ok (.iload_n 3, 1) := by decide +kernel
theorem dl_987 : decode code 987 = .ok (.iconst 1, 1) := by decide +kernel
theorem dl_988 : decode code 988 = .ok (.iadd, 1) := by decide +kernel
theorem dl_989 : decode code 989 = .ok (.iaload, 1) := by decide +kernel
theorem dl_990 : decode code 990 = .ok (.aload_n 0, 1) := by decide +kernel
theorem dl_991 : decode code 991 = .ok (.iload_n 3, 1) := by decide +kernel
theorem dl_992 : decode code 992 = .ok (.iconst 2, 1) := by decide +kernel
theorem dl_993 : decode code 993 = .ok (.iadd, 1) := by decide +kernel
theorem dl_994 : decode code 994 = .ok (.iaload, 1) := by decide +kernel
theorem dl_995 : decode code 995 = .ok (.invokevirtual 98, 3) := by decide +kernel
theorem dl_998 : decode code 998 = .ok (.pop, 1) := by decide +kernel
theorem dl_999 : decode code 999 = .ok (.goto 461, 3) := by decide +kernel
theorem dl_1002 : decode code 1002 = .ok (.aload_n 1, 1) := by decide +kernel
theorem dl_1003 : decode code 1003 = .ok (.aload_n 0, 1) := by decide +kernel
theorem dl_1004 : decode code 1004 = .ok (.iload_n 3, 1) := by decide +kernel
theorem dl_1005 : decode code 1005 = .ok (.iconst 1, 1) := by decide +kernel
theorem dl_1006 : decode code 1006 = .ok (.iadd, 1) := by decide +kernel
theorem dl_1007 : decode code 1007 = .ok (.iaload, 1) := by decide +kernel
theorem dl_1008 : decode code 1008 = .ok (.invokevirtual 99, 3) := by decide +kernel
theorem dl_1011 : decode code 1011 = .ok (.pop, 1) := by decide +kernel
theorem dl_1012 : decode code 1012 = .ok (.aload_n 2, 1) := by decide +kernel
theorem dl_1013 : decode code 1013 = .ok (.aload_n 0, 1) := by decide +kernel
theorem dl_1014 : decode code 1014 = .ok (.iload_n 3, 1) := by decide +kernel
theorem dl_1015 : decode code 1015 = .ok (.iconst 1, 1) := by decide +kernel
theorem dl_1016 : decode code 1016 = .ok (.iadd, 1) := by decide +kernel
theorem dl_1017 : decode code 1017 = .ok (.iaload, 1) := by decide +kernel
theorem dl_1018 : decode code 1018 = .ok (.invokevirtual 102, 3) := by decide +kernel
theorem dl_1021 : decode code 1021 = .ok (.pop, 1) := by decide +kernel
theorem dl_1022 : decode code 1022 = .ok (.goto 438, 3) := by decide +kernel
theorem dl_1025 : decode code 1025 = .ok (.aload_n 1, 1) := by decide +kernel
theorem dl_1026 : decode code 1026 = .ok (.aload_n 0, 1) := by decide +kernel
theorem dl_1027 : decode code 1027 = .ok (.iload_n 3, 1) := by decide +kernel
theorem dl_1028 : decode code 1028 = .ok (.iconst 1, 1) := by decide +kernel
theorem dl_1029 : decode code 1029 = .ok (.iadd, 1) := by decide +kernel
theorem dl_1030 : decode code 1030 = .ok (.iaload, 1) := by decide +kernel
theorem dl_1031 : decode code 1031 = .ok (.invokevirtual 103, 3) := by decide +kernel
theorem dl_1034 : decode code 1034 = .ok (.pop, 1) := by decide +kernel
theorem dl_1035 : decode code 1035 = .ok (.aload_n 2, 1) := by decide +kernel
theorem dl_1036 : decode code 1036 = .ok (.aload_n 0, 1) := by decide +kernel
theorem dl_1037 : decode code 1037 = .ok (.iload_n 3, 1) := by decide +kernel
theorem dl_1038 : decode code 1038 = .ok (.iconst 1, 1) := by decide +kernel
theorem dl_1039 : decode code 1039 = .ok (.iadd, 1) := by decide +kernel
theorem dl_1040 : decode code 1040 = .ok (.iaload, 1) := by decide +kernel
theorem dl_1041 : decode code 1041 = .ok (.invokevirtual 106, 3) := by decide +kernel
theorem dl_1044 : decode code 1044 = .ok (.pop, 1) := by decide +kernel
theorem dl_1045 : decode code 1045 = .ok (.goto 415, 3) := by decide +kernel
theorem dl_1048 : decode code 1048 = .ok (.aload_n 1, 1) := by decide +kernel
theorem dl_1049 : decode code 1049 = .ok (.aload_n 0, 1) := by decide +kernel
theorem dl_1050 : decode code 1050 = .ok (.iload_n 3, 1) := by decide +kernel
theorem dl_1051 : decode code 1051 = .ok (.iconst 1, 1) := by decide +kernel
theorem dl_1052 : decode code 1052 = .ok (.iadd, 1) := by decide +kernel
theorem dl_1053 : decode code 1053 = .ok (.iaload, 1) := by decide +kernel
theorem dl_1054 : decode code 1054 = .ok (.aload_n 0, 1) := by decide +kernel
theorem dl_1055 : decode code 1055 = .ok (.iload_n 3, 1) := by decide +kernel
theorem dl_1056 : decode code 1056 = .ok (.iconst 2, 1) := by decide +kernel
theorem dl_1057 : decode code 1057 = .ok (.iadd, 1) := by decide +kernel
theorem dl_1058 : decode code 1058 = .ok (.iaload, 1) := by decide +kernel
theorem dl_1059 : decode code 1059 = .ok (.invokevirtual 107, 3) := by decide +kernel
theorem dl_1062 : decode code 1062 = .ok (.pop, 1) := by decide +kernel
theorem dl_1063 : decode code 1063 = .ok (.aload_n 2, 1) := by decide +kernel
theorem dl_1064 : decode code 1064 = .ok (.aload_n 0, 1) := by decide +kernel
theorem dl_1065 : decode code 1065 = .ok (.iload_n 3, 1) := by decide +kernel
theorem dl_1066 : decode code 1066 = .ok (.iconst 1, 1) := by decide +kernel
theorem dl_1067 : decode code 1067 = .ok (.iadd, 1) := by decide +kernel
theorem dl_1068 : decode code 1068 = .ok (.iaload, 1) := by decide +kernel
theorem dl_1069 : decode code 1069 = .ok (.aload_n 0, 1) := by decide +kernel
theorem dl_1070 : decode code 1070 = .ok (.iload_n 3, 1) := by decide +kernel
theorem dl_1071 : decode code 1071 = .ok (.iconst 2, 1) := by decide +kernel
theorem dl_1072 : decode code 1072 = .ok (.iadd, 1) := by decide +kernel
theorem dl_1073 : decode code 1073 = .ok (.iaload, 1) := by decide +kernel
theorem dl_1074 : decode code 1074 = .ok (.invokevirtual 110, 3) := by decide +kernel
theorem dl_1077 : decode code 1077 = .ok (.pop, 1) := by decide +kernel
theorem dl_1078 : decode code 1078 = .ok (.goto 382, 3) := by decide +kernel
theorem dl_1081 : decode code 1081 = .ok (.aload_n 1, 1) := by decide +kernel
theorem dl_1082 : decode code 1082 = .ok (.aload_n 0, 1) := by decide +kernel
theorem dl_1083 : decode code 1083 = .ok (.iload_n 3, 1) := by decide +kernel
theorem dl_1084 : decode code 1084 = .ok (.iconst 1, 1) := by decide +kernel
theorem dl_1085 : decode code 1085 = .ok (.iadd, 1) := by decide +kernel
theorem dl_1086 : decode code 1086 = .ok (.iaload, 1) := by decide +kernel
theorem dl_1087 : decode code 1087 = .ok (.invokevirtual 111, 3) := by decide +kernel
theorem dl_1090 : decode code 1090 = .ok (.pop, 1) := by decide +kernel
theorem dl_1091 : decode code 1091 = .ok (.aload_n 2, 1) := by decide +kernel
theorem dl_1092 : decode code 1092 = .ok (.aload_n 0, 1) := by decide +kernel
theorem dl_1093 : decode code 1093 = .ok (.iload_n 3, 1) := by decide +kernel
theorem dl_1094 : decode code 1094 = .ok (.iconst 1, 1) := by decide +kernel
theorem dl_1095 : decode code 1095 = .ok (.iadd, 1) := by decide +kernel
theorem dl_1096 : decode code 1096 = .ok (.iaload, 1) := by decide +kernel
theorem dl_1097 : decode code 1097 = .ok (.invokevirtual 114, 3) := by decide +kernel
theorem dl_1100 : decode code 1100 = .ok (.pop, 1) := by decide +kernel
theorem dl_1101 : decode code 1101 = .ok (.goto 359, 3) := by decide +kernel
theorem dl_1104 : decode code 1104 = .ok (.aload_n 1, 1) := by decide +kernel
theorem dl_1105 : decode code 1105 = .ok (.aload_n 0, 1) := by decide +kernel
theorem dl_1106 : decode code 1106 = .ok (.iload_n 3, 1) := by decide +kernel
theorem dl_1107 : decode code 1107 = .ok (.iconst 1, 1) := by decide +kernel
theorem dl_1108 : decode code 1108 = .ok (.iadd, 1) := by decide +kernel
theorem dl_1109 : decode code 1109 = .ok (.iaload, 1) := by decide +kernel
theorem dl_1110 : decode code 1110 = .ok (.aload_n 0, 1) := by decide +kernel
theorem dl_1111 : decode code 1111 = .ok (.iload_n 3, 1) := by decide +kernel
theorem dl_1112 : decode code 1112 = .ok (.iconst 2, 1) := by decide +kernel
theorem dl_1113 : decode code 1113 = .ok (.iadd, 1) := by decide +kernel
theorem dl_1114 : decode code 1114 = .ok (.iaload, 1) := by decide +kernel
theorem dl_1115 : decode code 1115 = .ok (.aload_n 0, 1) := by decide +kernel
theorem dl_1116 : decode code 1116 = .ok (.iload_n 3, 1) := by decide +kernel
theorem dl_1117 : decode code 1117 = .ok (.iconst 3, 1) := by decide +kernel
theorem dl_1118 : decode code 1118 = .ok (.iadd, 1) := by decide +kernel
theorem dl_1119 : decode code 1119 = .ok (.iaload, 1) := by decide +kernel
theorem dl_1120 : decode code 1120 = .ok (.invokevirtual 115, 3) := by decide +kernel
theorem dl_1123 : decode code 1123 = .ok (.pop, 1) := by decide +kernel
theorem dl_1124 : decode code 1124 = .ok (.aload_n 2, 1) := by decide +kernel
theorem dl_1125 : decode code 1125 = .ok (.aload_n 0, 1) := by decide +kernel
theorem dl_1126 : decode code 1126 = .ok (.iload_n 3, 1) := by decide +kernel
theorem dl_1127 : decode code 1127 = .ok (.iconst 1, 1) := by decide +kernel
theorem dl_1128 : decode code 1128 = .ok (.iadd, 1) := by decide +kernel
theorem dl_1129 : decode code 1129 = .ok (.iaload, 1) := by decide +kernel
theorem dl_1130 : decode code 1130 = .ok (.aload_n 0, 1) := by decide +kernel
theorem dl_1131 : decode code 1131 = .ok (.iload_n 3, 1) := by decide +kernel
theorem dl_1132 : decode code 1132 = .ok (.iconst 2, 1) := by decide +kernel
theorem dl_1133 : decode code 1133 = .ok (.iadd, 1) := by decide +kernel
theorem dl_1134 : decode code 1134 = .ok (.iaload, 1) := by decide +kernel
theorem dl_1135 : decode code 1135 = .ok (.aload_n 0, 1) := by decide +kernel
theorem dl_1136 : decode code 1136 = .ok (.iload_n 3, 1) := by decide +kernel
theorem dl_1137 : decode code 1137 = .ok (.iconst 3, 1) := by decide +kernel
theorem dl_1138 : decode code 1138 = .ok (.iadd, 1) := by decide +kernel
theorem dl_1139 : decode code 1139 = .ok (.iaload, 1) := by decide +kernel
theorem dl_1140 : decode code 1140 = .ok (.invokevirtual 118, 3) := by decide +kernel
theorem dl_1143 : decode code 1143 = .ok (.pop, 1) := by decide +kernel
theorem dl_1144 : decode code 1144 = .ok (.goto 316, 3) := by decide +kernel
theorem dl_1147 : decode code 1147 = .ok (.aload_n 1, 1) := by decide +kernel
theorem dl_1148 : decode code 1148 = .ok (.aload_n 0, 1) := by decide +kernel
theorem dl_1149 : decode code 1149 = .ok (.iload_n 3, 1) := by decide +kernel
theorem dl_1150 : decode code 1150 = .ok (.iconst 1, 1) := by decide +kernel
theorem dl_1151 : decode code 1151 = .ok (.iadd, 1) := by decide +kernel
theorem dl_1152 : decode code 1152 = .ok (.iaload, 1) := by decide +kernel
theorem dl_1153 : decode code 1153 = .ok (.invokevirtual 119, 3) := by decide +kernel
theorem dl_1156 : decode code 1156 = .ok (.pop, 1) := by decide +kernel
theorem dl_1157 : decode code 1157 = .ok (.aload_n 2, 1) := by decide +kernel
theorem dl_1158 : decode code 1158 = .ok (.aload_n 0, 1) := by decide +kernel
theorem dl_1159 : decode code 1159 = .ok (.iload_n 3, 1) := by decide +kernel
theorem dl_1160 : decode code 1160 = .ok (.iconst 1, 1) := by decide +kernel
theorem dl_1161 : decode code 1161 = .ok (.iadd, 1) := by decide +kernel
theorem dl_1162 : decode code 1162 = .ok (.iaload, 1) := by decide +kernel
theorem dl_1163 : decode code 1163 = .ok (.invokevirtual 122, 3) := by decide +kernel
theorem dl_1166 : decode code 1166 = .ok (.pop, 1) := by decide +kernel
theorem dl_1167 : decode code 1167 = .ok (.goto 293, 3) := by decide +kernel
theorem dl_1170 : decode code 1170 = .ok (.aload_n 1, 1) := by decide +kernel
theorem dl_1171 : decode code 1171 = .ok (.aload_n 0, 1) := by decide +kernel
theorem dl_1172 : decode code 1172 = .ok (.iload_n 3, 1) := by decide +kernel
theorem dl_1173 : decode code 1173 = .ok (.iconst 1, 1) := by decide +kernel
theorem dl_1174 : decode code 1174 = .ok (.iadd, 1) := by decide +kernel
theorem dl_1175 : decode code 1175 = .ok (.iaload, 1) := by decide +kernel
theorem dl_1176 : decode code 1176 = .ok (.aload_n 0, 1) := by decide +kernel
theorem dl_1177 : decode code 1177 = .ok (.iload_n 3, 1) := by decide +kernel
theorem dl_1178 : decode code 1178 = .ok (.iconst 2, 1) := by decide +kernel
theorem dl_1179 : decode code 1179 = .ok (.iadd, 1) := by decide +kernel
theorem dl_1180 : decode code 1180 = .ok (.iaload, 1) := by decide +kernel
theorem dl_1181 : decode code 1181 = .ok (.invokevirtual 123, 3) := by decide +kernel
theorem dl_1184 : decode code 1184 = .ok (.pop, 1) := by decide +kernel
theorem dl_1185 : decode code 1185 = .ok (.aload_n 2, 1) := by decide +kernel
theorem dl_1186 : decode code 1186 = .ok (.aload_n 0, 1) := by decide +kernel
theorem dl_1187 : decode code 1187 = .ok (.iload_n 3, 1) := by decide +kernel
theorem dl_1188 : decode code 1188 = .ok (.iconst 1, 1) := by decide +kernel
theorem dl_1189 : decode code 1189 = .ok (.iadd, 1) := by decide +kernel
theorem dl_1190 : decode code 1190 = .ok (.iaload, 1) := by decide +kernel
theorem dl_1191 : decode code 1191 = .ok (.aload_n 0, 1) := by decide +kernel
theorem dl_1192 : decode code 1192 = .ok (.iload_n 3, 1) := by decide +kernel
theorem dl_1193 : decode code 1193 = .ok (.iconst 2, 1) := by decide +kernel
theorem dl_1194 : decode code 1194 = .ok (.iadd, 1) := by decide +kernel
theorem dl_1195 : decode code 1195 = .ok (.iaload, 1) := by decide +kernel
theorem dl_1196 : decode code 1196 = .ok (.invokevirtual 126, 3) := by decide +kernel
theorem dl_1199 : decode code 1199 = .ok (.pop, 1) := by decide +kernel
theorem dl_1200 : decode code 1200 = .ok (.goto 260, 3) := by decide +kernel
theorem dl_1203 : decode code 1203 = .ok (.aload_n 1, 1) := by decide +kernel
theorem dl_1204 : decode code 1204 = .ok (.aload_n 0, 1) := by decide +kernel
theorem dl_1205 : decode code 1205 = .ok (.iload_n 3, 1) := by decide +kernel
theorem dl_1206 : decode code 1206 = .ok (.iconst 1, 1) := by decide +kernel
theorem dl_1207 : decode code 1207 = .ok (.iadd, 1) := by decide +kernel
theorem dl_1208 : decode code 1208 = .ok (.iaload, 1) := by decide +kernel
theorem dl_1209 : decode code 1209 = .ok (.invokevirtual 127, 3) := by decide +kernel
theorem dl_1212 : decode code 1212 = .ok (.pop, 1) := by decide +kernel
theorem dl_1213 : decode code 1213 = .ok (.aload_n 2, 1) := by decide +kernel
theorem dl_1214 : decode code 1214 = .ok (.aload_n 0, 1) := by decide +kernel
theorem dl_1215 : decode code 1215 = .ok (.iload_n 3, 1) := by decide +kernel
theorem dl_1216 : decode code 1216 = .ok (.iconst 1, 1) := by decide +kernel
theorem dl_1217 : decode code 1217 = .ok (.iadd, 1) := by decide +kernel
theorem dl_1218 : decode code 1218 = .ok (.iaload, 1) := by decide +kernel
theorem dl_1219 : decode code 1219 = .ok (.invokevirtual 130, 3) := by decide +kernel
theorem dl_1222 : decode code 1222 = .ok (.pop, 1) := by decide +kernel
theorem dl_1223 : decode code 1223 = .ok (.goto 237, 3) := by decide +kernel
theorem dl_1226 : decode code 1226 = .ok (.aload_n 1, 1) := by decide +kernel
theorem dl_1227 : decode code 1227 = .ok (.aload_n 0, 1) := by decide +kernel
theorem dl_1228 : decode code 1228 = .ok (.iload_n 3, 1) := by decide +kernel
theorem dl_1229 : decode code 1229 = .ok (.iconst 1, 1) := by decide +kernel
theorem dl_1230 : decode code 1230 = .ok (.iadd, 1) := by decide +kernel
theorem dl_1231 : decode code 1231 = .ok (.iaload, 1) := by decide +kernel
theorem dl_1232 : decode code 1232 = .ok (.aload_n 0, 1) := by decide +kernel
theorem dl_1233 : decode code 1233 = .ok (.iload_n 3, 1) := by decide +kernel
theorem dl_1234 : decode code 1234 = .ok (.iconst 2, 1) := by decide +kernel
theorem dl_1235 : decode code 1235 = .ok (.iadd, 1) := by decide +kernel
theorem dl_1236 : decode code 1236 = .ok (.iaload, 1) := by decide +kernel
theorem dl_1237 : decode code 1237 = .ok (.aload_n 0, 1) := by decide +kernel
theorem dl_1238 : decode code 1238 = .ok (.iload_n 3, 1) := by decide +kernel
theorem dl_1239 : decode code 1239 = .ok (.iconst 3, 1) := by decide +kernel
theorem dl_1240 : decode code 1240 = .ok (.iadd, 1) := by decide +kernel
theorem dl_1241 : decode code 1241 = .ok (.iaload, 1) := by decide +kernel
theorem dl_1242 : decode code 1242 = .ok (.invokevirtual 131, 3) := by decide +kernel
theorem dl_1245 : decode code 1245 = .ok (.pop, 1) := by decide +kernel
theorem dl_1246 : decode code 1246 = .ok (.aload_n 2, 1) := by decide +kernel
theorem dl_1247 : decode code 1247 = .ok (.aload_n 0, 1) := by decide +kernel
theorem dl_1248 : decode code 1248 = .ok (.iload_n 3, 1) := by decide +kernel
theorem dl_1249 : decode code 1249 = .ok (.iconst 1, 1) := by decide +kernel
theorem dl_1250 : decode code 1250 = .ok (.iadd, 1) := by decide +kernel
theorem dl_1251 : decode code 1251 = .ok (.iaload, 1) := by decide +kernel
theorem dl_1252 : decode code 1252 = .ok (.aload_n 0, 1) := by decide +kernel
theorem dl_1253 : decode code 1253 = .ok (.iload_n 3, 1) := by decide +kernel
theorem dl_1254 : decode code 1254 = .ok (.iconst 2, 1) := by decide +kernel
theorem dl_1255 : decode code 1255 = .ok (.iadd, 1) := by decide +kernel
theorem dl_1256 : decode code 1256 = .ok (.iaload, 1) := by decide +kernel
theorem dl_1257 : decode code 1257 = .ok (.aload_n 0, 1) := by decide +kernel
theorem dl_1258 : decode code 1258 = .ok (.iload_n 3, 1) := by decide +kernel
theorem dl_1259 : decode code 1259 = .ok (.iconst 3, 1) := by decide +kernel
theorem dl_1260 : decode code 1260 = .ok (.iadd, 1) := by decide +kernel
theorem dl_1261 : decode code 1261 = .ok (.iaload, 1) := by decide +kernel
theorem dl_1262 : decode code 1262 = .ok (.invokevirtual 134, 3) := by decide +kernel
theorem dl_1265 : decode code 1265 = .ok (.pop, 1) := by decide +kernel
theorem dl_1266 : decode code 1266 = .ok (.goto 194, 3) := by decide +kernel
theorem dl_1269 : decode code 1269 = .ok (.aload_n 1, 1) := by decide +kernel
theorem dl_1270 : decode code 1270 = .ok (.aload_n 0, 1) := by decide +kernel
theorem dl_1271 : decode code 1271 = .ok (.iload_n 3, 1) := by decide +kernel
theorem dl_1272 : decode code 1272 = .ok (.iconst 1, 1) := by decide +kernel
theorem dl_1273 : decode code 1273 = .ok (.iadd, 1) := by decide +kernel
theorem dl_1274 : decode code 1274 = .ok (.iaload, 1) := by decide +kernel
theorem dl_1275 : decode code 1275 = .ok (.aload_n 0, 1) := by decide +kernel
theorem dl_1276 : decode code 1276 = .ok (.iload_n 3, 1) := by decide +kernel
theorem dl_1277 : decode code 1277 = .ok (.iconst 2, 1) := by decide +kernel
theorem dl_1278 : decode code 1278 = .ok (.iadd, 1) := by decide +kernel
theorem dl_1279 : decode code 1279 = .ok (.iaload, 1) := by decide +kernel
theorem dl_1280 : decode code 1280 = .ok (.invokevirtual 135, 3) := by decide +kernel
theorem dl_1283 : decode code 1283 = .ok (.pop, 1) := by decide +kernel
theorem dl_1284 : decode code 1284 = .ok (.aload_n 2, 1) := by decide +kernel
theorem dl_1285 : decode code 1285 = .ok (.aload_n 0, 1) := by decide +kernel
theorem dl_1286 : decode code 1286 = .ok (.iload_n 3, 1) := by decide +kernel
theorem dl_1287 : decode code 1287 = .ok (.iconst 1, 1) := by decide +kernel
theorem dl_1288 : decode code 1288 = .ok (.iadd, 1) := by decide +kernel
theorem dl_1289 : decode code 1289 = .ok (.iaload, 1) := by decide +kernel
theorem dl_1290 : decode code 1290 = .ok (.aload_n 0, 1) := by decide +kernel
theorem dl_1291 : decode code 1291 = .ok (.iload_n 3, 1) := by decide +kernel
theorem dl_1292 : decode code 1292 = .ok (.iconst 2, 1) := by decide +kernel
theorem dl_1293 : decode code 1293 = .ok (.iadd, 1) := by decide +kernel
theorem dl_1294 : decode code 1294 = .ok (.iaload, 1) := by decide +kernel
theorem dl_1295 : decode code 1295 = .ok (.invokevirtual 138, 3) := by decide +kernel
theorem dl_1298 : decode code 1298 = .ok (.pop, 1) := by decide +kernel
theorem dl_1299 : decode code 1299 = .ok (.goto 161, 3) := by decide +kernel
theorem dl_1302 : decode code 1302 = .ok (.aload_n 1, 1) := by decide +kernel
theorem dl_1303 : decode code 1303 = .ok (.aload_n 0, 1) := by decide +kernel
theorem dl_1304 : decode code 1304 = .ok (.iload_n 3, 1) := by decide +kernel
theorem dl_1305 : decode code 1305 = .ok (.iconst 1, 1) := by decide +kernel
theorem dl_1306 : decode code 1306 = .ok (.iadd, 1) := by decide +kernel
theorem dl_1307 : decode code 1307 = .ok (.iaload, 1) := by decide +kernel
theorem dl_1308 : decode code 1308 = .ok (.aload_n 0, 1) := by decide +kernel
theorem dl_1309 : decode code 1309 = .ok (.iload_n 3, 1) := by decide +kernel
theorem dl_1310 : decode code 1310 = .ok (.iconst 2, 1) := by decide +kernel
theorem dl_1311 : decode code 1311 = .ok (.iadd, 1) := by decide +kernel
theorem dl_1312 : decode code 1312 = .ok (.iaload, 1) := by decide +kernel
theorem dl_1313 : decode code 1313 = .ok (.aload_n 0, 1) := by decide +kernel
theorem dl_1314 : decode code 1314 = .ok (.iload_n 3, 1) := by decide +kernel
theorem dl_1315 : decode code 1315 = .ok (.iconst 3, 1) := by decide +kernel
theorem dl_1316 : decode code 1316 = .ok (.iadd, 1) := by decide +kernel
theorem dl_1317 : decode code 1317 = .ok (.iaload, 1) := by decide +kernel
theorem dl_1318 : decode code 1318 = .ok (.invokevirtual 139, 3) := by decide +kernel
theorem dl_1321 : decode code 1321 = .ok (.pop, 1) := by decide +kernel
theorem dl_1322 : decode code 1322 = .ok (.aload_n 2, 1) := by decide +kernel
theorem dl_1323 : decode code 1323 = .ok (.aload_n 0, 1) := by decide +kernel
theorem dl_1324 : decode code 1324 = .ok (.iload_n 3, 1) := by decide +kernel
theorem dl_1325 : decode code 1325 = .ok (.iconst 1, 1) := by decide +kernel
theorem dl_1326 : decode code 1326 = .ok (.iadd, 1) := by decide +kernel
theorem dl_1327 : decode code 1327 = .ok (.iaload, 1) := by decide +kernel
theorem dl_1328 : decode code 1328 = .ok (.aload_n 0, 1) := by decide +kernel
theorem dl_1329 : decode code 1329 = .ok (.iload_n 3, 1) := by decide +kernel
theorem dl_1330 : decode code 1330 = .ok (.iconst 2, 1) := by decide +kernel
theorem dl_1331 : decode code 1331 = .ok (.iadd, 1) := by decide +kernel
theorem dl_1332 : decode code 1332 = .ok (.iaload, 1) := by decide +kernel
theorem dl_1333 : decode code 1333 = .ok (.aload_n 0, 1) := by decide +kernel
theorem dl_1334 : decode code 1334 = .ok (.iload_n 3, 1) := by decide +kernel
theorem dl_1335 : decode code 1335 = .ok (.iconst 3, 1) := by decide +kernel
theorem dl_1336 : decode code 1336 = .ok (.iadd, 1) := by decide +kernel
theorem dl_1337 : decode code 1337 = .ok (.iaload, 1) := by decide +kernel
theorem dl_1338 : decode code 1338 = .ok (.invokevirtual 142, 3) := by decide +kernel
theorem dl_1341 : decode code 1341 = .ok (.pop, 1) := by decide +kernel
theorem dl_1342 : decode code 1342 = .ok (.goto 118, 3) := by decide +kernel
theorem dl_1345 : decode code 1345 = .ok (.aload_n 1, 1) := by decide +kernel
theorem dl_1346 : decode code 1346 = .ok (.aload_n 0, 1) := by decide +kernel
theorem dl_1347 : decode code 1347 = .ok (.iload_n 3, 1) := by decide +kernel
theorem dl_1348 : decode code 1348 = .ok (.iconst 1, 1) := by decide +kernel
theorem dl_1349 : decode code 1349 = .ok (.iadd, 1) := by decide +kernel
theorem dl_1350 : decode code 1350 = .ok (.iaload, 1) := by decide +kernel
theorem dl_1351 : decode code 1351 = .ok (.invokevirtual 143, 3) := by decide +kernel
theorem dl_1354 : decode code 1354 = .ok (.pop2, 1) := by decide +kernel
theorem dl_1355 : decode code 1355 = .ok (.aload_n 2, 1) := by decide +kernel
theorem dl_1356 : decode code 1356 = .ok (.aload_n 0, 1) := by decide +kernel
theorem dl_1357 : decode code 1357 = .ok (.iload_n 3, 1) := by decide +kernel
theorem dl_1358 : decode code 1358 = .ok (.iconst 1, 1) := by decide +kernel
theorem dl_1359 : decode code 1359 = .ok (.iadd, 1) := by decide +kernel
theorem dl_1360 : decode code 1360 = .ok (.iaload, 1) := by decide +kernel
theorem dl_1361 : decode code 1361 = .ok (.invokevirtual 147, 3) := by decide +kernel
theorem dl_1364 : decode code 1364 = .ok (.pop2, 1) := by decide +kernel
theorem dl_1365 : decode code 1365 = .ok (.goto 95, 3) := by decide +kernel
theorem dl_1368 : decode code 1368 = .ok (.aload_n 1, 1) := by decide +kernel
theorem dl_1369 : decode code 1369 = .ok (.aload_n 0, 1) := by decide +kernel
theorem dl_1370 : decode code 1370 = .ok (.iload_n 3, 1) := by decide +kernel
theorem dl_1371 : decode code 1371 = .ok (.iconst 1, 1) := by decide +kernel
theorem dl_1372 : decode code 1372 = .ok (.iadd, 1) := by decide +kernel
theorem dl_1373 : decode code 1373 = .ok (.iaload, 1) := by decide +kernel
theorem dl_1374 : decode code 1374 = .ok (.invokevirtual 148, 3) := by decide +kernel
theorem dl_1377 : decode code 1377 = .ok (.pop, 1) := by decide +kernel
theorem dl_1378 : decode code 1378 = .ok (.aload_n 2, 1) := by decide +kernel
theorem dl_1379 : decode code 1379 = .ok (.aload_n 0, 1) := by decide +kernel
theorem dl_1380 : decode code 1380 = .ok (.iload_n 3, 1) := by decide +kernel
theorem dl_1381 : decode code 1381 = .ok (.iconst 1, 1) := by decide +kernel
theorem dl_1382 : decode code 1382 = .ok (.iadd, 1) := by decide +kernel
theorem dl_1383 : decode code 1383 = .ok (.iaload, 1) := by decide +kernel
theorem dl_1384 : decode code 1384 = .ok (.invokevirtual 151, 3) := by decide +kernel
theorem dl_1387 : decode code 1387 = .ok (.pop, 1) := by decide +kernel
theorem dl_1388 : decode code 1388 = .ok (.goto 72, 3) := by decide +kernel
theorem dl_1391 : decode code 1391 = .ok (.aload_n 1, 1) := by decide +kernel
theorem dl_1392 : decode code 1392 = .ok (.aload_n 0, 1) := by decide +kernel
theorem dl_1393 : decode code 1393 = .ok (.iload_n 3, 1) := by decide +kernel
theorem dl_1394 : decode code 1394 = .ok (.iconst 1, 1) := by decide +kernel
theorem dl_1395 : decode code 1395 = .ok (.iadd, 1) := by decide +kernel
theorem dl_1396 : decode code 1396 = .ok (.iaload, 1) := by decide +kernel
theorem dl_1397 : decode code 1397 = .ok (.invokevirtual 152, 3) := by decide +kernel
theorem dl_1400 : decode code 1400 = .ok (.pop, 1) := by decide +kernel
theorem dl_1401 : decode code 1401 = .ok (.aload_n 2, 1) := by decide +kernel
theorem dl_1402 : decode code 1402 = .ok (.aload_n 0, 1) := by decide +kernel
theorem dl_1403 : decode code 1403 = .ok (.iload_n 3, 1) := by decide +kernel
theorem dl_1404 : decode code 1404 = .ok (.iconst 1, 1) := by decide +kernel
theorem dl_1405 : decode code 1405 = .ok (.iadd, 1) := by decide +kernel
theorem dl_1406 : decode code 1406 = .ok (.iaload, 1) := by decide +kernel
theorem dl_1407 : decode code 1407 = .ok (.invokevirtual 155, 3) := by decide +kernel
theorem dl_1410 : decode code 1410 = .ok (.pop, 1) := by decide +kernel
theorem dl_1411 : decode code 1411 = .ok (.goto 49, 3) := by decide +kernel
theorem dl_1414 : decode code 1414 = .ok (.aload_n 1, 1) := by decide +kernel
theorem dl_1415 : decode code 1415 = .ok (.aload_n 0, 1) := by decide +kernel
theorem dl_1416 : decode code 1416 = .ok (.iload_n 3, 1) := by decide +kernel
theorem dl_1417 : decode code 1417 = .ok (.iconst 1, 1) := by decide +kernel
theorem dl_1418 : decode code 1418 = .ok (.iadd, 1) := by decide +kernel
theorem dl_1419 : decode code 1419 = .ok (.iaload, 1) := by decide +kernel
theorem dl_1420 : decode code 1420 = .ok (.invokevirtual 156, 3) := by decide +kernel
theorem dl_1423 : decode code 1423 = .ok (.pop, 1) := by decide +kernel
theorem dl_1424 : decode code 1424 = .ok (.aload_n 2, 1) := by decide +kernel
theorem dl_1425 : decode code 1425 = .ok (.aload_n 0, 1) := by decide +kernel
theorem dl_1426 : decode code 1426 = .ok (.iload_n 3, 1) := by decide +kernel
theorem dl_1427 : decode code 1427 = .ok (.iconst 1, 1) := by decide +kernel
theorem dl_1428 : decode code 1428 = .ok (.iadd, 1) := by decide +kernel
theorem dl_1429 : decode code 1429 = .ok (.iaload, 1) := by decide +kernel
theorem dl_1430 : decode code 1430 = .ok (.invokevirtual 159, 3) := by decide +kernel
theorem dl_1433 : decode code 1433 = .ok (.pop, 1) := by decide +kernel
theorem dl_1434 : decode code 1434 = .ok (.goto 26, 3) := by decide +kernel
theorem dl_1437 : decode code 1437 = .ok (.aload_n 1, 1) := by decide +kernel
theorem dl_1438 : decode code 1438 = .ok (.aload_n 0, 1) := by decide +kernel
theorem dl_1439 : decode code 1439 = .ok (.iload_n 3, 1) := by decide +kernel
theorem dl_1440 : decode code 1440 = .ok (.iconst 1, 1) := by decide +kernel
theorem dl_1441 : decode code 1441 = .ok (.iadd, 1) := by decide +kernel
theorem dl_1442 : decode code 1442 = .ok (.iaload, 1) := by decide +kernel
theorem dl_1443 : decode code 1443 = .ok (.invokevirtual 160, 3) := by decide +kernel
theorem dl_1446 : decode code 1446 = .ok (.pop, 1) := by decide +kernel
theorem dl_1447 : decode code 1447 = .ok (.aload_n 2, 1) := by decide +kernel
theorem dl_1448 : decode code 1448 = .ok (.aload_n 0, 1) := by decide +kernel
theorem dl_1449 : decode code 1449 = .ok (.iload_n 3, 1) := by decide +kernel
theorem dl_1450 : decode code 1450 = .ok (.iconst 1, 1) := by decide +kernel
theorem dl_1451 : decode code 1451 = .ok (.iadd, 1) := by decide +kernel
theorem dl_1452 : decode code 1452 = .ok (.iaload, 1) := by decide +kernel
theorem dl_1453 : decode code 1453 = .ok (.invokevirtual 163, 3) := by decide +kernel
theorem dl_1456 : decode code 1456 = .ok (.pop, 1) := by decide +kernel
theorem dl_1457 : decode code 1457 = .ok (.goto 3, 3) := by decide +kernel
theorem dl_1460 : decode code 1460 = .ok (.iinc 3 6, 3) := by decide +kernel
theorem dl_1463 : decode code 1463 = .ok (.goto (-1445), 3) := by decide +kernel
theorem dl_1466 : decode code 1466 = .ok (.iconst 1, 1) := by decide +kernel
theorem dl_1467 : decode code 1467 = .ok (.ireturn, 1) := by decide +kernel
