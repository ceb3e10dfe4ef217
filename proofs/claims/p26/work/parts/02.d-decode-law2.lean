theorem dL_act_793 : decode cL_act 793 = .ok (.invokestatic 92, 3) := by decide +kernel
theorem dL_act_796 : decode cL_act 796 = .ok (.ifCond .ne 25, 3) := by decide +kernel
theorem dL_act_799 : decode cL_act 799 = .ok (.aload_n 0, 1) := by decide +kernel
theorem dL_act_800 : decode cL_act 800 = .ok (.iload 4, 2) := by decide +kernel
theorem dL_act_802 : decode cL_act 802 = .ok (.iload 5, 2) := by decide +kernel
theorem dL_act_804 : decode cL_act 804 = .ok (.iload_n 2, 1) := by decide +kernel
theorem dL_act_805 : decode cL_act 805 = .ok (.ifCond .eq 8, 3) := by decide +kernel
theorem dL_act_808 : decode cL_act 808 = .ok (.iload 9, 2) := by decide +kernel
theorem dL_act_810 : decode cL_act 810 = .ok (.goto 4, 3) := by decide +kernel
theorem dL_act_813 : decode cL_act 813 = .ok (.iconst 0, 1) := by decide +kernel
theorem dL_act_814 : decode cL_act 814 = .ok (.invokestatic 133, 3) := by decide +kernel
theorem dL_act_817 : decode cL_act 817 = .ok (.i2l, 1) := by decide +kernel
theorem dL_act_818 : decode cL_act 818 = .ok (.goto 15, 3) := by decide +kernel
theorem dL_act_821 : decode cL_act 821 = .ok (.aload_n 0, 1) := by decide +kernel
theorem dL_act_822 : decode cL_act 822 = .ok (.iload 4, 2) := by decide +kernel
theorem dL_act_824 : decode cL_act 824 = .ok (.iload 5, 2) := by decide +kernel
theorem dL_act_826 : decode cL_act 826 = .ok (.sipush 180, 3) := by decide +kernel
theorem dL_act_829 : decode cL_act 829 = .ok (.invokestatic 131, 3) := by decide +kernel
theorem dL_act_832 : decode cL_act 832 = .ok (.i2l, 1) := by decide +kernel
theorem dL_act_833 : decode cL_act 833 = .ok (.lreturn, 1) := by decide +kernel
theorem dL_act_834 : decode cL_act 834 = .ok (.iload_n 1, 1) := by decide +kernel
theorem dL_act_835 : decode cL_act 835 = .ok (.bipush 9, 2) := by decide +kernel
theorem dL_act_837 : decode cL_act 837 = .ok (.ishr, 1) := by decide +kernel
theorem dL_act_838 : decode cL_act 838 = .ok (.bipush 12, 2) := by decide +kernel
theorem dL_act_840 : decode cL_act 840 = .ok (.invokestatic 92, 3) := by decide +kernel
theorem dL_act_843 : decode cL_act 843 = .ok (.ifCond .ne 16, 3) := by decide +kernel
theorem dL_act_846 : decode cL_act 846 = .ok (.aload_n 0, 1) := by decide +kernel
theorem dL_act_847 : decode cL_act 847 = .ok (.iload 4, 2) := by decide +kernel
theorem dL_act_849 : decode cL_act 849 = .ok (.iload_n 3, 1) := by decide +kernel
theorem dL_act_850 : decode cL_act 850 = .ok (.iload 8, 2) := by decide +kernel
theorem dL_act_852 : decode cL_act 852 = .ok (.invokestatic 135, 3) := by decide +kernel
theorem dL_act_855 : decode cL_act 855 = .ok (.i2l, 1) := by decide +kernel
theorem dL_act_856 : decode cL_act 856 = .ok (.goto 16, 3) := by decide +kernel
theorem dL_act_859 : decode cL_act 859 = .ok (.aload_n 0, 1) := by decide +kernel
theorem dL_act_860 : decode cL_act 860 = .ok (.iload 4, 2) := by decide +kernel
theorem dL_act_862 : decode cL_act 862 = .ok (.iload 5, 2) := by decide +kernel
theorem dL_act_864 : decode cL_act 864 = .ok (.sipush 180, 3) := by decide +kernel
theorem dL_act_867 : decode cL_act 867 = .ok (.iconst 0, 1) := by decide +kernel
theorem dL_act_868 : decode cL_act 868 = .ok (.invokestatic 122, 3) := by decide +kernel
theorem dL_act_871 : decode cL_act 871 = .ok (.i2l, 1) := by decide +kernel
theorem dL_act_872 : decode cL_act 872 = .ok (.lreturn, 1) := by decide +kernel
theorem dL_act_873 : decode cL_act 873 = .ok (.aload_n 0, 1) := by decide +kernel
theorem dL_act_874 : decode cL_act 874 = .ok (.iload 4, 2) := by decide +kernel
theorem dL_act_876 : decode cL_act 876 = .ok (.iload_n 2, 1) := by decide +kernel
theorem dL_act_877 : decode cL_act 877 = .ok (.ifCond .eq 8, 3) := by decide +kernel
theorem dL_act_880 : decode cL_act 880 = .ok (.iload 9, 2) := by decide +kernel
theorem dL_act_882 : decode cL_act 882 = .ok (.goto 15, 3) := by decide +kernel
theorem dL_act_885 : decode cL_act 885 = .ok (.bipush 7, 2) := by decide +kernel
theorem dL_act_887 : decode cL_act 887 = .ok (.iload_n 1, 1) := by decide +kernel
theorem dL_act_888 : decode cL_act 888 = .ok (.bipush 9, 2) := by decide +kernel
theorem dL_act_890 : decode cL_act 890 = .ok (.ishr, 1) := by decide +kernel
theorem dL_act_891 : decode cL_act 891 = .ok (.bipush 11, 2) := by decide +kernel
theorem dL_act_893 : decode cL_act 893 = .ok (.invokestatic 92, 3) := by decide +kernel
theorem dL_act_896 : decode cL_act 896 = .ok (.iadd, 1) := by decide +kernel
theorem dL_act_897 : decode cL_act 897 = .ok (.iload_n 2, 1) := by decide +kernel
theorem dL_act_898 : decode cL_act 898 = .ok (.ifCond .eq 8, 3) := by decide +kernel
theorem dL_act_901 : decode cL_act 901 = .ok (.iload 6, 2) := by decide +kernel
theorem dL_act_903 : decode cL_act 903 = .ok (.goto 15, 3) := by decide +kernel
theorem dL_act_906 : decode cL_act 906 = .ok (.iload_n 1, 1) := by decide +kernel
theorem dL_act_907 : decode cL_act 907 = .ok (.bipush 11, 2) := by decide +kernel
theorem dL_act_909 : decode cL_act 909 = .ok (.ishr, 1) := by decide +kernel
theorem dL_act_910 : decode cL_act 910 = .ok (.bipush 101, 2) := by decide +kernel
theorem dL_act_912 : decode cL_act 912 = .ok (.invokestatic 92, 3) := by decide +kernel
theorem dL_act_915 : decode cL_act 915 = .ok (.bipush 50, 2) := by decide +kernel
theorem dL_act_917 : decode cL_act 917 = .ok (.isub, 1) := by decide +kernel
theorem dL_act_918 : decode cL_act 918 = .ok (.invokestatic 137, 3) := by decide +kernel
theorem dL_act_921 : decode cL_act 921 = .ok (.i2l, 1) := by decide +kernel
theorem dL_act_922 : decode cL_act 922 = .ok (.lreturn, 1) := by decide +kernel
theorem dL_act_923 : decode cL_act 923 = .ok (.aload_n 0, 1) := by decide +kernel
theorem dL_act_924 : decode cL_act 924 = .ok (.iload 4, 2) := by decide +kernel
theorem dL_act_926 : decode cL_act 926 = .ok (.invokestatic 139, 3) := by decide +kernel
theorem dL_act_929 : decode cL_act 929 = .ok (.i2l, 1) := by decide +kernel
theorem dL_act_930 : decode cL_act 930 = .ok (.lreturn, 1) := by decide +kernel
theorem dL_act_931 : decode cL_act 931 = .ok (.aload_n 0, 1) := by decide +kernel
theorem dL_act_932 : decode cL_act 932 = .ok (.invokevirtual 141, 3) := by decide +kernel
theorem dL_act_935 : decode cL_act 935 = .ok (.lreturn, 1) := by decide +kernel
theorem dL_act_936 : decode cL_act 936 = .ok (.iload_n 1, 1) := by decide +kernel
theorem dL_act_937 : decode cL_act 937 = .ok (.bipush 9, 2) := by decide +kernel
theorem dL_act_939 : decode cL_act 939 = .ok (.ishr, 1) := by decide +kernel
theorem dL_act_940 : decode cL_act 940 = .ok (.iconst 3, 1) := by decide +kernel
theorem dL_act_941 : decode cL_act 941 = .ok (.invokestatic 92, 3) := by decide +kernel
theorem dL_act_944 : decode cL_act 944 = .ok (.ifCond .ne 11, 3) := by decide +kernel
theorem dL_act_947 : decode cL_act 947 = .ok (.aload_n 0, 1) := by decide +kernel
theorem dL_act_948 : decode cL_act 948 = .ok (.invokevirtual 145, 3) := by decide +kernel
theorem dL_act_951 : decode cL_act 951 = .ok (.i2l, 1) := by decide +kernel
theorem dL_act_952 : decode cL_act 952 = .ok (.goto 48, 3) := by decide +kernel
theorem dL_act_955 : decode cL_act 955 = .ok (.aload_n 0, 1) := by decide +kernel
theorem dL_act_956 : decode cL_act 956 = .ok (.iload 5, 2) := by decide +kernel
theorem dL_act_958 : decode cL_act 958 = .ok (.iload 6, 2) := by decide +kernel
theorem dL_act_960 : decode cL_act 960 = .ok (.iload_n 2, 1) := by decide +kernel
theorem dL_act_961 : decode cL_act 961 = .ok (.ifCond .eq 7, 3) := by decide +kernel
theorem dL_act_964 : decode cL_act 964 = .ok (.iload_n 1, 1) := by decide +kernel
theorem dL_act_965 : decode cL_act 965 = .ok (.goto 17, 3) := by decide +kernel
theorem dL_act_968 : decode cL_act 968 = .ok (.iload_n 1, 1) := by decide +kernel
theorem dL_act_969 : decode cL_act 969 = .ok (.bipush 9, 2) := by decide +kernel
theorem dL_act_971 : decode cL_act 971 = .ok (.ishr, 1) := by decide +kernel
theorem dL_act_972 : decode cL_act 972 = .ok (.sipush 400, 3) := by decide +kernel
theorem dL_act_975 : decode cL_act 975 = .ok (.invokestatic 92, 3) := by decide +kernel
theorem dL_act_978 : decode cL_act 978 = .ok (.sipush 200, 3) := by decide +kernel
theorem dL_act_981 : decode cL_act 981 = .ok (.isub, 1) := by decide +kernel
theorem dL_act_982 : decode cL_act 982 = .ok (.iload_n 1, 1) := by decide +kernel
theorem dL_act_983 : decode cL_act 983 = .ok (.bipush 11, 2) := by decide +kernel
theorem dL_act_985 : decode cL_act 985 = .ok (.ishr, 1) := by decide +kernel
theorem dL_act_986 : decode cL_act 986 = .ok (.sipush 400, 3) := by decide +kernel
theorem dL_act_989 : decode cL_act 989 = .ok (.invokestatic 92, 3) := by decide +kernel
theorem dL_act_992 : decode cL_act 992 = .ok (.sipush 200, 3) := by decide +kernel
theorem dL_act_995 : decode cL_act 995 = .ok (.isub, 1) := by decide +kernel
theorem dL_act_996 : decode cL_act 996 = .ok (.invokestatic 149, 3) := by decide +kernel
theorem dL_act_999 : decode cL_act 999 = .ok (.i2l, 1) := by decide +kernel
theorem dL_act_1000 : decode cL_act 1000 = .ok (.lreturn, 1) := by decide +kernel
theorem dL_act_1001 : decode cL_act 1001 = .ok (.iload_n 1, 1) := by decide +kernel
theorem dL_act_1002 : decode cL_act 1002 = .ok (.bipush 9, 2) := by decide +kernel
theorem dL_act_1004 : decode cL_act 1004 = .ok (.ishr, 1) := by decide +kernel
theorem dL_act_1005 : decode cL_act 1005 = .ok (.iconst 4, 1) := by decide +kernel
theorem dL_act_1006 : decode cL_act 1006 = .ok (.invokestatic 92, 3) := by decide +kernel
theorem dL_act_1009 : decode cL_act 1009 = .ok (.ifCond .ne 11, 3) := by decide +kernel
theorem dL_act_1012 : decode cL_act 1012 = .ok (.aload_n 0, 1) := by decide +kernel
theorem dL_act_1013 : decode cL_act 1013 = .ok (.invokevirtual 145, 3) := by decide +kernel
theorem dL_act_1016 : decode cL_act 1016 = .ok (.i2l, 1) := by decide +kernel
theorem dL_act_1017 : decode cL_act 1017 = .ok (.goto 34, 3) := by decide +kernel
theorem dL_act_1020 : decode cL_act 1020 = .ok (.aload_n 0, 1) := by decide +kernel
theorem dL_act_1021 : decode cL_act 1021 = .ok (.iload 7, 2) := by decide +kernel
theorem dL_act_1023 : decode cL_act 1023 = .ok (.iload 8, 2) := by decide +kernel
theorem dL_act_1025 : decode cL_act 1025 = .ok (.iload_n 2, 1) := by decide +kernel
theorem dL_act_1026 : decode cL_act 1026 = .ok (.ifCond .eq 8, 3) := by decide +kernel
theorem dL_act_1029 : decode cL_act 1029 = .ok (.iload 9, 2) := by decide +kernel
theorem dL_act_1031 : decode cL_act 1031 = .ok (.goto 14, 3) := by decide +kernel
theorem dL_act_1034 : decode cL_act 1034 = .ok (.iconst 1, 1) := by decide +kernel
theorem dL_act_1035 : decode cL_act 1035 = .ok (.iload_n 1, 1) := by decide +kernel
theorem dL_act_1036 : decode cL_act 1036 = .ok (.iconst 3, 1) := by decide +kernel
theorem dL_act_1037 : decode cL_act 1037 = .ok (.ishr, 1) := by decide +kernel
theorem dL_act_1038 : decode cL_act 1038 = .ok (.sipush 500, 3) := by decide +kernel
theorem dL_act_1041 : decode cL_act 1041 = .ok (.invokestatic 92, 3) := by decide +kernel
theorem dL_act_1044 : decode cL_act 1044 = .ok (.iadd, 1) := by decide +kernel
theorem dL_act_1045 : decode cL_act 1045 = .ok (.iload 9, 2) := by decide +kernel
theorem dL_act_1047 : decode cL_act 1047 = .ok (.invokestatic 151, 3) := by decide +kernel
theorem dL_act_1050 : decode cL_act 1050 = .ok (.i2l, 1) := by decide +kernel
theorem dL_act_1051 : decode cL_act 1051 = .ok (.lreturn, 1) := by decide +kernel
theorem dL_act_1052 : decode cL_act 1052 = .ok (.aload_n 0, 1) := by decide +kernel
theorem dL_act_1053 : decode cL_act 1053 = .ok (.iload 4, 2) := by decide +kernel
theorem dL_act_1055 : decode cL_act 1055 = .ok (.iload 5, 2) := by decide +kernel
theorem dL_act_1057 : decode cL_act 1057 = .ok (.iload 6, 2) := by decide +kernel
theorem dL_act_1059 : decode cL_act 1059 = .ok (.iconst 1, 1) := by decide +kernel
theorem dL_act_1060 : decode cL_act 1060 = .ok (.invokestatic 122, 3) := by decide +kernel
theorem dL_act_1063 : decode cL_act 1063 = .ok (.i2l, 1) := by decide +kernel
theorem dL_act_1064 : decode cL_act 1064 = .ok (.lreturn, 1) := by decide +kernel
theorem dL_areAlike_0 : decode cL_areAlike 0 = .ok (.aload_n 0, 1) := by decide +kernel
theorem dL_areAlike_1 : decode cL_areAlike 1 = .ok (.invokevirtual 141, 3) := by decide +kernel
theorem dL_areAlike_4 : decode cL_areAlike 4 = .ok (.aload_n 1, 1) := by decide +kernel
theorem dL_areAlike_5 : decode cL_areAlike 5 = .ok (.invokevirtual 141, 3) := by decide +kernel
theorem dL_areAlike_8 : decode cL_areAlike 8 = .ok (.lcmp, 1) := by decide +kernel
theorem dL_areAlike_9 : decode cL_areAlike 9 = .ok (.ifCond .ne 7, 3) := by decide +kernel
theorem dL_areAlike_12 : decode cL_areAlike 12 = .ok (.iconst 1, 1) := by decide +kernel
theorem dL_areAlike_13 : decode cL_areAlike 13 = .ok (.goto 4, 3) := by decide +kernel
theorem dL_areAlike_16 : decode cL_areAlike 16 = .ok (.iconst 0, 1) := by decide +kernel
theorem dL_areAlike_17 : decode cL_areAlike 17 = .ok (.istore_n 3, 1) := by decide +kernel
theorem dL_areAlike_18 : decode cL_areAlike 18 = .ok (.iconst 0, 1) := by decide +kernel
theorem dL_areAlike_19 : decode cL_areAlike 19 = .ok (.istore 4, 2) := by decide +kernel
theorem dL_areAlike_21 : decode cL_areAlike 21 = .ok (.iload 4, 2) := by decide +kernel
theorem dL_areAlike_23 : decode cL_areAlike 23 = .ok (.bipush 10, 2) := by decide +kernel
theorem dL_areAlike_25 : decode cL_areAlike 25 = .ok (.if_icmp .ge 168, 3) := by decide +kernel
theorem dL_areAlike_28 : decode cL_areAlike 28 = .ok (.iload_n 3, 1) := by decide +kernel
theorem dL_areAlike_29 : decode cL_areAlike 29 = .ok (.ifCond .eq 164, 3) := by decide +kernel
theorem dL_areAlike_32 : decode cL_areAlike 32 = .ok (.aload_n 0, 1) := by decide +kernel
theorem dL_areAlike_33 : decode cL_areAlike 33 = .ok (.iload 4, 2) := by decide +kernel
theorem dL_areAlike_35 : decode cL_areAlike 35 = .ok (.invokestatic 139, 3) := by decide +kernel
theorem dL_areAlike_38 : decode cL_areAlike 38 = .ok (.aload_n 1, 1) := by decide +kernel
theorem dL_areAlike_39 : decode cL_areAlike 39 = .ok (.iload 4, 2) := by decide +kernel
theorem dL_areAlike_41 : decode cL_areAlike 41 = .ok (.invokestatic 139, 3) := by decide +kernel
theorem dL_areAlike_44 : decode cL_areAlike 44 = .ok (.if_icmp .ne 141, 3) := by decide +kernel
theorem dL_areAlike_47 : decode cL_areAlike 47 = .ok (.aload_n 0, 1) := by decide +kernel
theorem dL_areAlike_48 : decode cL_areAlike 48 = .ok (.iload 4, 2) := by decide +kernel
theorem dL_areAlike_50 : decode cL_areAlike 50 = .ok (.iload_n 2, 1) := by decide +kernel
theorem dL_areAlike_51 : decode cL_areAlike 51 = .ok (.sipush 360, 3) := by decide +kernel
theorem dL_areAlike_54 : decode cL_areAlike 54 = .ok (.invokestatic 92, 3) := by decide +kernel
theorem dL_areAlike_57 : decode cL_areAlike 57 = .ok (.sipush 170, 3) := by decide +kernel
theorem dL_areAlike_60 : decode cL_areAlike 60 = .ok (.iconst 0, 1) := by decide +kernel
theorem dL_areAlike_61 : decode cL_areAlike 61 = .ok (.invokestatic 122, 3) := by decide +kernel
theorem dL_areAlike_64 : decode cL_areAlike 64 = .ok (.aload_n 1, 1) := by decide +kernel
theorem dL_areAlike_65 : decode cL_areAlike 65 = .ok (.iload 4, 2) := by decide +kernel
theorem dL_areAlike_67 : decode cL_areAlike 67 = .ok (.iload_n 2, 1) := by decide +kernel
theorem dL_areAlike_68 : decode cL_areAlike 68 = .ok (.sipush 360, 3) := by decide +kernel
theorem dL_areAlike_71 : decode cL_areAlike 71 = .ok (.invokestatic 92, 3) := by decide +kernel
theorem dL_areAlike_74 : decode cL_areAlike 74 = .ok (.sipush 170, 3) := by decide +kernel
theorem dL_areAlike_77 : decode cL_areAlike 77 = .ok (.iconst 0, 1) := by decide +kernel
theorem dL_areAlike_78 : decode cL_areAlike 78 = .ok (.invokestatic 122, 3) := by decide +kernel
theorem dL_areAlike_81 : decode cL_areAlike 81 = .ok (.if_icmp .ne 104, 3) := by decide +kernel
theorem dL_areAlike_84 : decode cL_areAlike 84 = .ok (.aload_n 0, 1) := by decide +kernel
theorem dL_areAlike_85 : decode cL_areAlike 85 = .ok (.iload 4, 2) := by decide +kernel
theorem dL_areAlike_87 : decode cL_areAlike 87 = .ok (.bipush 10, 2) := by decide +kernel
theorem dL_areAlike_89 : decode cL_areAlike 89 = .ok (.iload_n 2, 1) := by decide +kernel
theorem dL_areAlike_90 : decode cL_areAlike 90 = .ok (.iconst 5, 1) := by decide +kernel
theorem dL_areAlike_91 : decode cL_areAlike 91 = .ok (.invokestatic 92, 3) := by decide +kernel
theorem dL_areAlike_94 : decode cL_areAlike 94 = .ok (.invokestatic 127, 3) := by decide +kernel
theorem dL_areAlike_97 : decode cL_areAlike 97 = .ok (.aload_n 1, 1) := by decide +kernel
theorem dL_areAlike_98 : decode cL_areAlike 98 = .ok (.iload 4, 2) := by decide +kernel
theorem dL_areAlike_100 : decode cL_areAlike 100 = .ok (.bipush 10, 2) := by decide +kernel
theorem dL_areAlike_102 : decode cL_areAlike 102 = .ok (.iload_n 2, 1) := by decide +kernel
theorem dL_areAlike_103 : decode cL_areAlike 103 = .ok (.iconst 5, 1) := by decide +kernel
theorem dL_areAlike_104 : decode cL_areAlike 104 = .ok (.invokestatic 92, 3) := by decide +kernel
theorem dL_areAlike_107 : decode cL_areAlike 107 = .ok (.invokestatic 127, 3) := by decide +kernel
theorem dL_areAlike_110 : decode cL_areAlike 110 = .ok (.if_icmp .ne 75, 3) := by decide +kernel
theorem dL_areAlike_113 : decode cL_areAlike 113 = .ok (.aload_n 0, 1) := by decide +kernel
theorem dL_areAlike_114 : decode cL_areAlike 114 = .ok (.iload 4, 2) := by decide +kernel
theorem dL_areAlike_116 : decode cL_areAlike 116 = .ok (.iload_n 2, 1) := by decide +kernel
theorem dL_areAlike_117 : decode cL_areAlike 117 = .ok (.sipush 360, 3) := by decide +kernel
theorem dL_areAlike_120 : decode cL_areAlike 120 = .ok (.invokestatic 92, 3) := by decide +kernel
theorem dL_areAlike_123 : decode cL_areAlike 123 = .ok (.sipush 180, 3) := by decide +kernel
theorem dL_areAlike_126 : decode cL_areAlike 126 = .ok (.iconst 3, 1) := by decide +kernel
theorem dL_areAlike_127 : decode cL_areAlike 127 = .ok (.invokestatic 113, 3) := by decide +kernel
theorem dL_areAlike_130 : decode cL_areAlike 130 = .ok (.aload_n 1, 1) := by decide +kernel
theorem dL_areAlike_131 : decode cL_areAlike 131 = .ok (.iload 4, 2) := by decide +kernel
theorem dL_areAlike_133 : decode cL_areAlike 133 = .ok (.iload_n 2, 1) := by decide +kernel
theorem dL_areAlike_134 : decode cL_areAlike 134 = .ok (.sipush 360, 3) := by decide +kernel
theorem dL_areAlike_137 : decode cL_areAlike 137 = .ok (.invokestatic 92, 3) := by decide +kernel
theorem dL_areAlike_140 : decode cL_areAlike 140 = .ok (.sipush 180, 3) := by decide +kernel
theorem dL_areAlike_143 : decode cL_areAlike 143 = .ok (.iconst 3, 1) := by decide +kernel
theorem dL_areAlike_144 : decode cL_areAlike 144 = .ok (.invokestatic 113, 3) := by decide +kernel
theorem dL_areAlike_147 : decode cL_areAlike 147 = .ok (.if_icmp .ne 38, 3) := by decide +kernel
theorem dL_areAlike_150 : decode cL_areAlike 150 = .ok (.aload_n 0, 1) := by decide +kernel
theorem dL_areAlike_151 : decode cL_areAlike 151 = .ok (.iload 4, 2) := by decide +kernel
theorem dL_areAlike_153 : decode cL_areAlike 153 = .ok (.iload_n 2, 1) := by decide +kernel
theorem dL_areAlike_154 : decode cL_areAlike 154 = .ok (.sipush 360, 3) := by decide +kernel
theorem dL_areAlike_157 : decode cL_areAlike 157 = .ok (.invokestatic 92, 3) := by decide +kernel
theorem dL_areAlike_160 : decode cL_areAlike 160 = .ok (.iconst 0, 1) := by decide +kernel
theorem dL_areAlike_161 : decode cL_areAlike 161 = .ok (.invokestatic 108, 3) := by decide +kernel
theorem dL_areAlike_164 : decode cL_areAlike 164 = .ok (.aload_n 1, 1) := by decide +kernel
theorem dL_areAlike_165 : decode cL_areAlike 165 = .ok (.iload 4, 2) := by decide +kernel
theorem dL_areAlike_167 : decode cL_areAlike 167 = .ok (.iload_n 2, 1) := by decide +kernel
theorem dL_areAlike_168 : decode cL_areAlike 168 = .ok (.sipush 360, 3) := by decide +kernel
theorem dL_areAlike_171 : decode cL_areAlike 171 = .ok (.invokestatic 92, 3) := by decide +kernel
theorem dL_areAlike_174 : decode cL_areAlike 174 = .ok (.iconst 0, 1) := by decide +kernel
theorem dL_areAlike_175 : decode cL_areAlike 175 = .ok (.invokestatic 108, 3) := by decide +kernel
theorem dL_areAlike_178 : decode cL_areAlike 178 = .ok (.if_icmp .ne 7, 3) := by decide +kernel
theorem dL_areAlike_181 : decode cL_areAlike 181 = .ok (.iconst 1, 1) := by decide +kernel
theorem dL_areAlike_182 : decode cL_areAlike 182 = .ok (.goto 4, 3) := by decide +kernel
theorem dL_areAlike_185 : decode cL_areAlike 185 = .ok (.iconst 0, 1) := by decide +kernel
theorem dL_areAlike_186 : decode cL_areAlike 186 = .ok (.istore_n 3, 1) := by decide +kernel
theorem dL_areAlike_187 : decode cL_areAlike 187 = .ok (.iinc 4 1, 3) := by decide +kernel
theorem dL_areAlike_190 : decode cL_areAlike 190 = .ok (.goto (-169), 3) := by decide +kernel
theorem dL_areAlike_193 : decode cL_areAlike 193 = .ok (.iload_n 3, 1) := by decide +kernel
theorem dL_areAlike_194 : decode cL_areAlike 194 = .ok (.ireturn, 1) := by decide +kernel
theorem dL_isMadeSo_0 : decode cL_isMadeSo 0 = .ok (.iload_n 1, 1) := by decide +kernel
theorem dL_isMadeSo_1 : decode cL_isMadeSo 1 = .ok (.iconst 3, 1) := by decide +kernel
theorem dL_isMadeSo_2 : decode cL_isMadeSo 2 = .ok (.ishr, 1) := by decide +kernel
theorem dL_isMadeSo_3 : decode cL_isMadeSo 3 = .ok (.sipush 133, 3) := by decide +kernel
theorem dL_isMadeSo_6 : decode cL_isMadeSo 6 = .ok (.invokestatic 92, 3) := by decide +kernel
theorem dL_isMadeSo_9 : decode cL_isMadeSo 9 = .ok (.bipush 66, 2) := by decide +kernel
theorem dL_isMadeSo_11 : decode cL_isMadeSo 11 = .ok (.isub, 1) := by decide +kernel
theorem dL_isMadeSo_12 : decode cL_isMadeSo 12 = .ok (.istore_n 2, 1) := by decide +kernel
theorem dL_isMadeSo_13 : decode cL_isMadeSo 13 = .ok (.aload_n 0, 1) := by decide +kernel
theorem dL_isMadeSo_14 : decode cL_isMadeSo 14 = .ok (.iload_n 2, 1) := by decide +kernel
theorem dL_isMadeSo_15 : decode cL_isMadeSo 15 = .ok (.iload_n 1, 1) := by decide +kernel
theorem dL_isMadeSo_16 : decode cL_isMadeSo 16 = .ok (.bipush 6, 2) := by decide +kernel
theorem dL_isMadeSo_18 : decode cL_isMadeSo 18 = .ok (.ishr, 1) := by decide +kernel
theorem dL_isMadeSo_19 : decode cL_isMadeSo 19 = .ok (.sipush 300, 3) := by decide +kernel
theorem dL_isMadeSo_22 : decode cL_isMadeSo 22 = .ok (.invokestatic 92, 3) := by decide +kernel
theorem dL_isMadeSo_25 : decode cL_isMadeSo 25 = .ok (.invokestatic 106, 3) := by decide +kernel
theorem dL_isMadeSo_28 : decode cL_isMadeSo 28 = .ok (.istore_n 3, 1) := by decide +kernel
theorem dL_isMadeSo_29 : decode cL_isMadeSo 29 = .ok (.iload_n 1, 1) := by decide +kernel
theorem dL_isMadeSo_30 : decode cL_isMadeSo 30 = .ok (.iconst 5, 1) := by decide +kernel
theorem dL_isMadeSo_31 : decode cL_isMadeSo 31 = .ok (.ishr, 1) := by decide +kernel
theorem dL_isMadeSo_32 : decode cL_isMadeSo 32 = .ok (.bipush 91, 2) := by decide +kernel
theorem dL_isMadeSo_34 : decode cL_isMadeSo 34 = .ok (.invokestatic 92, 3) := by decide +kernel
theorem dL_isMadeSo_37 : decode cL_isMadeSo 37 = .ok (.istore 4, 2) := by decide +kernel
theorem dL_isMadeSo_39 : decode cL_isMadeSo 39 = .ok (.iload_n 1, 1) := by decide +kernel
theorem dL_isMadeSo_40 : decode cL_isMadeSo 40 = .ok (.bipush 8, 2) := by decide +kernel
theorem dL_isMadeSo_42 : decode cL_isMadeSo 42 = .ok (.ishr, 1) := by decide +kernel
theorem dL_isMadeSo_43 : decode cL_isMadeSo 43 = .ok (.sipush 181, 3) := by decide +kernel
theorem dL_isMadeSo_46 : decode cL_isMadeSo 46 = .ok (.invokestatic 92, 3) := by decide +kernel
theorem dL_isMadeSo_49 : decode cL_isMadeSo 49 = .ok (.bipush 90, 2) := by decide +kernel
theorem dL_isMadeSo_51 : decode cL_isMadeSo 51 = .ok (.isub, 1) := by decide +kernel
theorem dL_isMadeSo_52 : decode cL_isMadeSo 52 = .ok (.istore 5, 2) := by decide +kernel
theorem dL_isMadeSo_54 : decode cL_isMadeSo 54 = .ok (.iconst 1, 1) := by decide +kernel
theorem dL_isMadeSo_55 : decode cL_isMadeSo 55 = .ok (.iload_n 1, 1) := by decide +kernel
theorem dL_isMadeSo_56 : decode cL_isMadeSo 56 = .ok (.iconst 4, 1) := by decide +kernel
theorem dL_isMadeSo_57 : decode cL_isMadeSo 57 = .ok (.ishr, 1) := by decide +kernel
theorem dL_isMadeSo_58 : decode cL_isMadeSo 58 = .ok (.sipush 300, 3) := by decide +kernel
theorem dL_isMadeSo_61 : decode cL_isMadeSo 61 = .ok (.invokestatic 92, 3) := by decide +kernel
theorem dL_isMadeSo_64 : decode cL_isMadeSo 64 = .ok (.iadd, 1) := by decide +kernel
theorem dL_isMadeSo_65 : decode cL_isMadeSo 65 = .ok (.istore 6, 2) := by decide +kernel
theorem dL_isMadeSo_67 : decode cL_isMadeSo 67 = .ok (.iload_n 3, 1) := by decide +kernel
theorem dL_isMadeSo_68 : decode cL_isMadeSo 68 = .ok (.ifCond .ge 7, 3) := by decide +kernel
theorem dL_isMadeSo_71 : decode cL_isMadeSo 71 = .ok (.iconst (-1), 1) := by decide +kernel
theorem dL_isMadeSo_72 : decode cL_isMadeSo 72 = .ok (.goto 14, 3) := by decide +kernel
theorem dL_isMadeSo_75 : decode cL_isMadeSo 75 = .ok (.aload_n 0, 1) := by decide +kernel
theorem dL_isMadeSo_76 : decode cL_isMadeSo 76 = .ok (.iload_n 3, 1) := by decide +kernel
theorem dL_isMadeSo_77 : decode cL_isMadeSo 77 = .ok (.iload 4, 2) := by decide +kernel
theorem dL_isMadeSo_79 : decode cL_isMadeSo 79 = .ok (.iload 5, 2) := by decide +kernel
theorem dL_isMadeSo_81 : decode cL_isMadeSo 81 = .ok (.iload 6, 2) := by decide +kernel
theorem dL_isMadeSo_83 : decode cL_isMadeSo 83 = .ok (.invokestatic 118, 3) := by decide +kernel
theorem dL_isMadeSo_86 : decode cL_isMadeSo 86 = .ok (.istore 7, 2) := by decide +kernel
theorem dL_isMadeSo_88 : decode cL_isMadeSo 88 = .ok (.iload 7, 2) := by decide +kernel
theorem dL_isMadeSo_90 : decode cL_isMadeSo 90 = .ok (.ifCond .ge 5, 3) := by decide +kernel
theorem dL_isMadeSo_93 : decode cL_isMadeSo 93 = .ok (.iconst 1, 1) := by decide +kernel
theorem dL_isMadeSo_94 : decode cL_isMadeSo 94 = .ok (.ireturn, 1) := by decide +kernel
theorem dL_isMadeSo_95 : decode cL_isMadeSo 95 = .ok (.iload_n 1, 1) := by decide +kernel
theorem dL_isMadeSo_96 : decode cL_isMadeSo 96 = .ok (.bipush 7, 2) := by decide +kernel
theorem dL_isMadeSo_98 : decode cL_isMadeSo 98 = .ok (.ishr, 1) := by decide +kernel
theorem dL_isMadeSo_99 : decode cL_isMadeSo 99 = .ok (.sipush 360, 3) := by decide +kernel
theorem dL_isMadeSo_102 : decode cL_isMadeSo 102 = .ok (.invokestatic 92, 3) := by decide +kernel
theorem dL_isMadeSo_105 : decode cL_isMadeSo 105 = .ok (.istore 8, 2) := by decide +kernel
theorem dL_isMadeSo_107 : decode cL_isMadeSo 107 = .ok (.bipush 90, 2) := by decide +kernel
theorem dL_isMadeSo_109 : decode cL_isMadeSo 109 = .ok (.iload_n 1, 1) := by decide +kernel
theorem dL_isMadeSo_110 : decode cL_isMadeSo 110 = .ok (.bipush 9, 2) := by decide +kernel
theorem dL_isMadeSo_112 : decode cL_isMadeSo 112 = .ok (.ishr, 1) := by decide +kernel
theorem dL_isMadeSo_113 : decode cL_isMadeSo 113 = .ok (.sipush 180, 3) := by decide +kernel
theorem dL_isMadeSo_116 : decode cL_isMadeSo 116 = .ok (.invokestatic 92, 3) := by decide +kernel
theorem dL_isMadeSo_119 : decode cL_isMadeSo 119 = .ok (.iadd, 1) := by decide +kernel
theorem dL_isMadeSo_120 : decode cL_isMadeSo 120 = .ok (.istore 9, 2) := by decide +kernel
theorem dL_isMadeSo_122 : decode cL_isMadeSo 122 = .ok (.aload_n 0, 1) := by decide +kernel
theorem dL_isMadeSo_123 : decode cL_isMadeSo 123 = .ok (.iload_n 3, 1) := by decide +kernel
theorem dL_isMadeSo_124 : decode cL_isMadeSo 124 = .ok (.iload 8, 2) := by decide +kernel
theorem dL_isMadeSo_126 : decode cL_isMadeSo 126 = .ok (.iconst 2, 1) := by decide +kernel
theorem dL_isMadeSo_127 : decode cL_isMadeSo 127 = .ok (.invokevirtual 32, 3) := by decide +kernel
theorem dL_isMadeSo_130 : decode cL_isMadeSo 130 = .ok (.aload_n 0, 1) := by decide +kernel
theorem dL_isMadeSo_131 : decode cL_isMadeSo 131 = .ok (.iload_n 3, 1) := by decide +kernel
theorem dL_isMadeSo_132 : decode cL_isMadeSo 132 = .ok (.iload 8, 2) := by decide +kernel
theorem dL_isMadeSo_134 : decode cL_isMadeSo 134 = .ok (.invokevirtual 38, 3) := by decide +kernel
theorem dL_isMadeSo_137 : decode cL_isMadeSo 137 = .ok (.if_icmp .ne 64, 3) := by decide +kernel
theorem dL_isMadeSo_140 : decode cL_isMadeSo 140 = .ok (.aload_n 0, 1) := by decide +kernel
theorem dL_isMadeSo_141 : decode cL_isMadeSo 141 = .ok (.iload_n 2, 1) := by decide +kernel
theorem dL_isMadeSo_142 : decode cL_isMadeSo 142 = .ok (.iload 8, 2) := by decide +kernel
theorem dL_isMadeSo_144 : decode cL_isMadeSo 144 = .ok (.iload 9, 2) := by decide +kernel
theorem dL_isMadeSo_146 : decode cL_isMadeSo 146 = .ok (.iconst 0, 1) := by decide +kernel
theorem dL_isMadeSo_147 : decode cL_isMadeSo 147 = .ok (.invokevirtual 21, 3) := by decide +kernel
theorem dL_isMadeSo_150 : decode cL_isMadeSo 150 = .ok (.aload_n 0, 1) := by decide +kernel
theorem dL_isMadeSo_151 : decode cL_isMadeSo 151 = .ok (.iload_n 2, 1) := by decide +kernel
theorem dL_isMadeSo_152 : decode cL_isMadeSo 152 = .ok (.iload 8, 2) := by decide +kernel
theorem dL_isMadeSo_154 : decode cL_isMadeSo 154 = .ok (.sipush 360, 3) := by decide +kernel
theorem dL_isMadeSo_157 : decode cL_isMadeSo 157 = .ok (.iload 9, 2) := by decide +kernel
theorem dL_isMadeSo_159 : decode cL_isMadeSo 159 = .ok (.isub, 1) := by decide +kernel
theorem dL_isMadeSo_160 : decode cL_isMadeSo 160 = .ok (.iconst 0, 1) := by decide +kernel
theorem dL_isMadeSo_161 : decode cL_isMadeSo 161 = .ok (.invokevirtual 21, 3) := by decide +kernel
theorem dL_isMadeSo_164 : decode cL_isMadeSo 164 = .ok (.lcmp, 1) := by decide +kernel
theorem dL_isMadeSo_165 : decode cL_isMadeSo 165 = .ok (.ifCond .ne 36, 3) := by decide +kernel
theorem dL_isMadeSo_168 : decode cL_isMadeSo 168 = .ok (.aload_n 0, 1) := by decide +kernel
theorem dL_isMadeSo_169 : decode cL_isMadeSo 169 = .ok (.iload_n 2, 1) := by decide +kernel
theorem dL_isMadeSo_170 : decode cL_isMadeSo 170 = .ok (.iload 8, 2) := by decide +kernel
theorem dL_isMadeSo_172 : decode cL_isMadeSo 172 = .ok (.iload 9, 2) := by decide +kernel
theorem dL_isMadeSo_174 : decode cL_isMadeSo 174 = .ok (.iconst 2, 1) := by decide +kernel
theorem dL_isMadeSo_175 : decode cL_isMadeSo 175 = .ok (.invokevirtual 21, 3) := by decide +kernel
theorem dL_isMadeSo_178 : decode cL_isMadeSo 178 = .ok (.aload_n 0, 1) := by decide +kernel
theorem dL_isMadeSo_179 : decode cL_isMadeSo 179 = .ok (.iload_n 2, 1) := by decide +kernel
theorem dL_isMadeSo_180 : decode cL_isMadeSo 180 = .ok (.iload 8, 2) := by decide +kernel
theorem dL_isMadeSo_182 : decode cL_isMadeSo 182 = .ok (.sipush 360, 3) := by decide +kernel
theorem dL_isMadeSo_185 : decode cL_isMadeSo 185 = .ok (.iload 9, 2) := by decide +kernel
theorem dL_isMadeSo_187 : decode cL_isMadeSo 187 = .ok (.isub, 1) := by decide +kernel
theorem dL_isMadeSo_188 : decode cL_isMadeSo 188 = .ok (.iconst 2, 1) := by decide +kernel
theorem dL_isMadeSo_189 : decode cL_isMadeSo 189 = .ok (.invokevirtual 21, 3) := by decide +kernel
theorem dL_isMadeSo_192 : decode cL_isMadeSo 192 = .ok (.lneg, 1) := by decide +kernel
theorem dL_isMadeSo_193 : decode cL_isMadeSo 193 = .ok (.lcmp, 1) := by decide +kernel
theorem dL_isMadeSo_194 : decode cL_isMadeSo 194 = .ok (.ifCond .ne 7, 3) := by decide +kernel
theorem dL_isMadeSo_197 : decode cL_isMadeSo 197 = .ok (.iconst 1, 1) := by decide +kernel
theorem dL_isMadeSo_198 : decode cL_isMadeSo 198 = .ok (.goto 4, 3) := by decide +kernel
theorem dL_isMadeSo_201 : decode cL_isMadeSo 201 = .ok (.iconst 0, 1) := by decide +kernel
theorem dL_isMadeSo_202 : decode cL_isMadeSo 202 = .ok (.istore 10, 2) := by decide +kernel
theorem dL_isMadeSo_204 : decode cL_isMadeSo 204 = .ok (.aload_n 0, 1) := by decide +kernel
theorem dL_isMadeSo_205 : decode cL_isMadeSo 205 = .ok (.iload 7, 2) := by decide +kernel
theorem dL_isMadeSo_207 : decode cL_isMadeSo 207 = .ok (.iload 8, 2) := by decide +kernel
theorem dL_isMadeSo_209 : decode cL_isMadeSo 209 = .ok (.iload 9, 2) := by decide +kernel
theorem dL_isMadeSo_211 : decode cL_isMadeSo 211 = .ok (.iconst 0, 1) := by decide +kernel
theorem dL_isMadeSo_212 : decode cL_isMadeSo 212 = .ok (.invokestatic 122, 3) := by decide +kernel
theorem dL_isMadeSo_215 : decode cL_isMadeSo 215 = .ok (.istore 11, 2) := by decide +kernel
theorem dL_isMadeSo_217 : decode cL_isMadeSo 217 = .ok (.iload 11, 2) := by decide +kernel
theorem dL_isMadeSo_219 : decode cL_isMadeSo 219 = .ok (.ldc 16, 2) := by decide +kernel
theorem dL_isMadeSo_221 : decode cL_isMadeSo 221 = .ok (.if_icmp .ne 28, 3) := by decide +kernel
theorem dL_isMadeSo_224 : decode cL_isMadeSo 224 = .ok (.iload 10, 2) := by decide +kernel
theorem dL_isMadeSo_226 : decode cL_isMadeSo 226 = .ok (.ifCond .eq 21, 3) := by decide +kernel
theorem dL_isMadeSo_229 : decode cL_isMadeSo 229 = .ok (.aload_n 0, 1) := by decide +kernel
theorem dL_isMadeSo_230 : decode cL_isMadeSo 230 = .ok (.iload 7, 2) := by decide +kernel
theorem dL_isMadeSo_232 : decode cL_isMadeSo 232 = .ok (.iload 8, 2) := by decide +kernel
theorem dL_isMadeSo_234 : decode cL_isMadeSo 234 = .ok (.iload 9, 2) := by decide +kernel
theorem dL_isMadeSo_236 : decode cL_isMadeSo 236 = .ok (.invokevirtual 71, 3) := by decide +kernel
theorem dL_isMadeSo_239 : decode cL_isMadeSo 239 = .ok (.iconst (-1), 1) := by decide +kernel
theorem dL_isMadeSo_240 : decode cL_isMadeSo 240 = .ok (.if_icmp .ne 7, 3) := by decide +kernel
theorem dL_isMadeSo_243 : decode cL_isMadeSo 243 = .ok (.iconst 1, 1) := by decide +kernel
theorem dL_isMadeSo_244 : decode cL_isMadeSo 244 = .ok (.goto 4, 3) := by decide +kernel
theorem dL_isMadeSo_247 : decode cL_isMadeSo 247 = .ok (.iconst 0, 1) := by decide +kernel
theorem dL_isMadeSo_248 : decode cL_isMadeSo 248 = .ok (.ireturn, 1) := by decide +kernel
theorem dL_isMadeSo_249 : decode cL_isMadeSo 249 = .ok (.aload_n 0, 1) := by decide +kernel
theorem dL_isMadeSo_250 : decode cL_isMadeSo 250 = .ok (.iload 7, 2) := by decide +kernel
theorem dL_isMadeSo_252 : decode cL_isMadeSo 252 = .ok (.iload 8, 2) := by decide +kernel
theorem dL_isMadeSo_254 : decode cL_isMadeSo 254 = .ok (.iload 9, 2) := by decide +kernel
theorem dL_isMadeSo_256 : decode cL_isMadeSo 256 = .ok (.iconst 1, 1) := by decide +kernel
theorem dL_isMadeSo_257 : decode cL_isMadeSo 257 = .ok (.invokevirtual 55, 3) := by decide +kernel
theorem dL_isMadeSo_260 : decode cL_isMadeSo 260 = .ok (.istore 12, 2) := by decide +kernel
theorem dL_isMadeSo_262 : decode cL_isMadeSo 262 = .ok (.aload_n 0, 1) := by decide +kernel
theorem dL_isMadeSo_263 : decode cL_isMadeSo 263 = .ok (.iload 7, 2) := by decide +kernel
theorem dL_isMadeSo_265 : decode cL_isMadeSo 265 = .ok (.iload 8, 2) := by decide +kernel
theorem dL_isMadeSo_267 : decode cL_isMadeSo 267 = .ok (.iload 9, 2) := by decide +kernel
theorem dL_isMadeSo_269 : decode cL_isMadeSo 269 = .ok (.invokevirtual 71, 3) := by decide +kernel
theorem dL_isMadeSo_272 : decode cL_isMadeSo 272 = .ok (.istore 13, 2) := by decide +kernel
theorem dL_isMadeSo_274 : decode cL_isMadeSo 274 = .ok (.iload 10, 2) := by decide +kernel
theorem dL_isMadeSo_276 : decode cL_isMadeSo 276 = .ok (.ifCond .eq 92, 3) := by decide +kernel
theorem dL_isMadeSo_279 : decode cL_isMadeSo 279 = .ok (.iload 13, 2) := by decide +kernel
theorem dL_isMadeSo_281 : decode cL_isMadeSo 281 = .ok (.ifCond .lt 87, 3) := by decide +kernel
theorem dL_isMadeSo_284 : decode cL_isMadeSo 284 = .ok (.iload 13, 2) := by decide +kernel
theorem dL_isMadeSo_286 : decode cL_isMadeSo 286 = .ok (.iload 9, 2) := by decide +kernel
theorem dL_isMadeSo_288 : decode cL_isMadeSo 288 = .ok (.if_icmp .gt 80, 3) := by decide +kernel
theorem dL_isMadeSo_291 : decode cL_isMadeSo 291 = .ok (.aload_n 0, 1) := by decide +kernel
theorem dL_isMadeSo_292 : decode cL_isMadeSo 292 = .ok (.iload 7, 2) := by decide +kernel
theorem dL_isMadeSo_294 : decode cL_isMadeSo 294 = .ok (.iload 11, 2) := by decide +kernel
theorem dL_isMadeSo_296 : decode cL_isMadeSo 296 = .ok (.iload 12, 2) := by decide +kernel
theorem dL_isMadeSo_298 : decode cL_isMadeSo 298 = .ok (.iload 8, 2) := by decide +kernel
theorem dL_isMadeSo_300 : decode cL_isMadeSo 300 = .ok (.invokevirtual 68, 3) := by decide +kernel
theorem dL_isMadeSo_303 : decode cL_isMadeSo 303 = .ok (.iload 13, 2) := by decide +kernel
theorem dL_isMadeSo_305 : decode cL_isMadeSo 305 = .ok (.if_icmp .ne 63, 3) := by decide +kernel
theorem dL_isMadeSo_308 : decode cL_isMadeSo 308 = .ok (.aload_n 0, 1) := by decide +kernel
theorem dL_isMadeSo_309 : decode cL_isMadeSo 309 = .ok (.iload 7, 2) := by decide +kernel
theorem dL_isMadeSo_311 : decode cL_isMadeSo 311 = .ok (.iload 8, 2) := by decide +kernel
theorem dL_isMadeSo_313 : decode cL_isMadeSo 313 = .ok (.iload 13, 2) := by decide +kernel
theorem dL_isMadeSo_315 : decode cL_isMadeSo 315 = .ok (.iconst 0, 1) := by decide +kernel
theorem dL_isMadeSo_316 : decode cL_isMadeSo 316 = .ok (.invokevirtual 55, 3) := by decide +kernel
theorem dL_isMadeSo_319 : decode cL_isMadeSo 319 = .ok (.iload 11, 2) := by decide +kernel
theorem dL_isMadeSo_321 : decode cL_isMadeSo 321 = .ok (.if_icmp .ne 47, 3) := by decide +kernel
theorem dL_isMadeSo_324 : decode cL_isMadeSo 324 = .ok (.aload_n 0, 1) := by decide +kernel
theorem dL_isMadeSo_325 : decode cL_isMadeSo 325 = .ok (.iload 7, 2) := by decide +kernel
theorem dL_isMadeSo_327 : decode cL_isMadeSo 327 = .ok (.iload 8, 2) := by decide +kernel
theorem dL_isMadeSo_329 : decode cL_isMadeSo 329 = .ok (.iload 13, 2) := by decide +kernel
theorem dL_isMadeSo_331 : decode cL_isMadeSo 331 = .ok (.iconst 1, 1) := by decide +kernel
theorem dL_isMadeSo_332 : decode cL_isMadeSo 332 = .ok (.invokevirtual 55, 3) := by decide +kernel
theorem dL_isMadeSo_335 : decode cL_isMadeSo 335 = .ok (.iload 12, 2) := by decide +kernel
theorem dL_isMadeSo_337 : decode cL_isMadeSo 337 = .ok (.if_icmp .ne 31, 3) := by decide +kernel
theorem dL_isMadeSo_340 : decode cL_isMadeSo 340 = .ok (.aload_n 0, 1) := by decide +kernel
theorem dL_isMadeSo_341 : decode cL_isMadeSo 341 = .ok (.iload_n 3, 1) := by decide +kernel
theorem dL_isMadeSo_342 : decode cL_isMadeSo 342 = .ok (.iload 8, 2) := by decide +kernel
theorem dL_isMadeSo_344 : decode cL_isMadeSo 344 = .ok (.iload 9, 2) := by decide +kernel
theorem dL_isMadeSo_346 : decode cL_isMadeSo 346 = .ok (.iconst 1, 1) := by decide +kernel
theorem dL_isMadeSo_347 : decode cL_isMadeSo 347 = .ok (.invokevirtual 41, 3) := by decide +kernel
theorem dL_isMadeSo_350 : decode cL_isMadeSo 350 = .ok (.iload 9, 2) := by decide +kernel
theorem dL_isMadeSo_352 : decode cL_isMadeSo 352 = .ok (.aload_n 0, 1) := by decide +kernel
theorem dL_isMadeSo_353 : decode cL_isMadeSo 353 = .ok (.iload_n 3, 1) := by decide +kernel
theorem dL_isMadeSo_354 : decode cL_isMadeSo 354 = .ok (.iload 8, 2) := by decide +kernel
theorem dL_isMadeSo_356 : decode cL_isMadeSo 356 = .ok (.iconst 0, 1) := by decide +kernel
theorem dL_isMadeSo_357 : decode cL_isMadeSo 357 = .ok (.invokevirtual 32, 3) := by decide +kernel
theorem dL_isMadeSo_360 : decode cL_isMadeSo 360 = .ok (.isub, 1) := by decide +kernel
theorem dL_isMadeSo_361 : decode cL_isMadeSo 361 = .ok (.if_icmp .ne 7, 3) := by decide +kernel
theorem dL_isMadeSo_364 : decode cL_isMadeSo 364 = .ok (.iconst 1, 1) := by decide +kernel
theorem dL_isMadeSo_365 : decode cL_isMadeSo 365 = .ok (.goto 4, 3) := by decide +kernel
theorem dL_isMadeSo_368 : decode cL_isMadeSo 368 = .ok (.iconst 0, 1) := by decide +kernel
theorem dL_isMadeSo_369 : decode cL_isMadeSo 369 = .ok (.istore 10, 2) := by decide +kernel
theorem dL_isMadeSo_371 : decode cL_isMadeSo 371 = .ok (.aload_n 0, 1) := by decide +kernel
theorem dL_isMadeSo_372 : decode cL_isMadeSo 372 = .ok (.invokevirtual 145, 3) := by decide +kernel
theorem dL_isMadeSo_375 : decode cL_isMadeSo 375 = .ok (.pop, 1) := by decide +kernel
theorem dL_isMadeSo_376 : decode cL_isMadeSo 376 = .ok (.iload 10, 2) := by decide +kernel
theorem dL_isMadeSo_378 : decode cL_isMadeSo 378 = .ok (.ifCond .eq 92, 3) := by decide +kernel
theorem dL_isMadeSo_381 : decode cL_isMadeSo 381 = .ok (.aload_n 0, 1) := by decide +kernel
theorem dL_isMadeSo_382 : decode cL_isMadeSo 382 = .ok (.iload 8, 2) := by decide +kernel
theorem dL_isMadeSo_384 : decode cL_isMadeSo 384 = .ok (.iload 9, 2) := by decide +kernel
theorem dL_isMadeSo_386 : decode cL_isMadeSo 386 = .ok (.iload 11, 2) := by decide +kernel
theorem dL_isMadeSo_388 : decode cL_isMadeSo 388 = .ok (.iload 12, 2) := by decide +kernel
theorem dL_isMadeSo_390 : decode cL_isMadeSo 390 = .ok (.invokevirtual 86, 3) := by decide +kernel
theorem dL_isMadeSo_393 : decode cL_isMadeSo 393 = .ok (.iconst 1, 1) := by decide +kernel
theorem dL_isMadeSo_394 : decode cL_isMadeSo 394 = .ok (.if_icmp .ne 76, 3) := by decide +kernel
theorem dL_isMadeSo_397 : decode cL_isMadeSo 397 = .ok (.aload_n 0, 1) := by decide +kernel
theorem dL_isMadeSo_398 : decode cL_isMadeSo 398 = .ok (.iload 4, 2) := by decide +kernel
theorem dL_isMadeSo_400 : decode cL_isMadeSo 400 = .ok (.iload 5, 2) := by decide +kernel
theorem dL_isMadeSo_402 : decode cL_isMadeSo 402 = .ok (.iload 6, 2) := by decide +kernel
theorem dL_isMadeSo_404 : decode cL_isMadeSo 404 = .ok (.iconst 0, 1) := by decide +kernel
theorem dL_isMadeSo_405 : decode cL_isMadeSo 405 = .ok (.invokevirtual 89, 3) := by decide +kernel
theorem dL_isMadeSo_408 : decode cL_isMadeSo 408 = .ok (.ifCond .le 62, 3) := by decide +kernel
theorem dL_isMadeSo_411 : decode cL_isMadeSo 411 = .ok (.aload_n 0, 1) := by decide +kernel
theorem dL_isMadeSo_412 : decode cL_isMadeSo 412 = .ok (.iload 4, 2) := by decide +kernel
theorem dL_isMadeSo_414 : decode cL_isMadeSo 414 = .ok (.iload 5, 2) := by decide +kernel
theorem dL_isMadeSo_416 : decode cL_isMadeSo 416 = .ok (.iload 6, 2) := by decide +kernel
theorem dL_isMadeSo_418 : decode cL_isMadeSo 418 = .ok (.iconst 1, 1) := by decide +kernel
theorem dL_isMadeSo_419 : decode cL_isMadeSo 419 = .ok (.invokevirtual 89, 3) := by decide +kernel
theorem dL_isMadeSo_422 : decode cL_isMadeSo 422 = .ok (.iload_n 2, 1) := by decide +kernel
theorem dL_isMadeSo_423 : decode cL_isMadeSo 423 = .ok (.if_icmp .gt 47, 3) := by decide +kernel
theorem dL_isMadeSo_426 : decode cL_isMadeSo 426 = .ok (.aload_n 0, 1) := by decide +kernel
theorem dL_isMadeSo_427 : decode cL_isMadeSo 427 = .ok (.iload 4, 2) := by decide +kernel
theorem dL_isMadeSo_429 : decode cL_isMadeSo 429 = .ok (.iload 5, 2) := by decide +kernel
theorem dL_isMadeSo_431 : decode cL_isMadeSo 431 = .ok (.iload 6, 2) := by decide +kernel
theorem dL_isMadeSo_433 : decode cL_isMadeSo 433 = .ok (.iconst 2, 1) := by decide +kernel
theorem dL_isMadeSo_434 : decode cL_isMadeSo 434 = .ok (.invokevirtual 89, 3) := by decide +kernel
theorem dL_isMadeSo_437 : decode cL_isMadeSo 437 = .ok (.iload_n 2, 1) := by decide +kernel
theorem dL_isMadeSo_438 : decode cL_isMadeSo 438 = .ok (.if_icmp .lt 32, 3) := by decide +kernel
theorem dL_isMadeSo_441 : decode cL_isMadeSo 441 = .ok (.aload_n 0, 1) := by decide +kernel
theorem dL_isMadeSo_442 : decode cL_isMadeSo 442 = .ok (.invokevirtual 145, 3) := by decide +kernel
theorem dL_isMadeSo_445 : decode cL_isMadeSo 445 = .ok (.iconst 1, 1) := by decide +kernel
theorem dL_isMadeSo_446 : decode cL_isMadeSo 446 = .ok (.if_icmp .ne 24, 3) := by decide +kernel
theorem dL_isMadeSo_449 : decode cL_isMadeSo 449 = .ok (.aload_n 0, 1) := by decide +kernel
theorem dL_isMadeSo_450 : decode cL_isMadeSo 450 = .ok (.iload 4, 2) := by decide +kernel
theorem dL_isMadeSo_452 : decode cL_isMadeSo 452 = .ok (.iload 5, 2) := by decide +kernel
theorem dL_isMadeSo_454 : decode cL_isMadeSo 454 = .ok (.iload 6, 2) := by decide +kernel
theorem dL_isMadeSo_456 : decode cL_isMadeSo 456 = .ok (.iconst 0, 1) := by decide +kernel
theorem dL_isMadeSo_457 : decode cL_isMadeSo 457 = .ok (.invokevirtual 89, 3) := by decide +kernel
theorem dL_isMadeSo_460 : decode cL_isMadeSo 460 = .ok (.sipush 133, 3) := by decide +kernel
theorem dL_isMadeSo_463 : decode cL_isMadeSo 463 = .ok (.if_icmp .ne 7, 3) := by decide +kernel
theorem dL_isMadeSo_466 : decode cL_isMadeSo 466 = .ok (.iconst 1, 1) := by decide +kernel
theorem dL_isMadeSo_467 : decode cL_isMadeSo 467 = .ok (.goto 4, 3) := by decide +kernel
theorem dL_isMadeSo_470 : decode cL_isMadeSo 470 = .ok (.iconst 0, 1) := by decide +kernel
theorem dL_isMadeSo_471 : decode cL_isMadeSo 471 = .ok (.ireturn, 1) := by decide +kernel
theorem dL_law_0 : decode cL_law 0 = .ok (.new 9, 3) := by decide +kernel
theorem dL_law_3 : decode cL_law 3 = .ok (.dup, 1) := by decide +kernel
theorem dL_law_4 : decode cL_law 4 = .ok (.invokespecial 153, 3) := by decide +kernel
theorem dL_law_7 : decode cL_law 7 = .ok (.astore_n 1, 1) := by decide +kernel
theorem dL_law_8 : decode cL_law 8 = .ok (.new 9, 3) := by decide +kernel
theorem dL_law_11 : decode cL_law 11 = .ok (.dup, 1) := by decide +kernel
theorem dL_law_12 : decode cL_law 12 = .ok (.invokespecial 153, 3) := by decide +kernel
theorem dL_law_15 : decode cL_law 15 = .ok (.astore_n 2, 1) := by decide +kernel
theorem dL_law_16 : decode cL_law 16 = .ok (.iconst 0, 1) := by decide +kernel
theorem dL_law_17 : decode cL_law 17 = .ok (.istore_n 3, 1) := by decide +kernel
theorem dL_law_18 : decode cL_law 18 = .ok (.iload_n 3, 1) := by decide +kernel
theorem dL_law_19 : decode cL_law 19 = .ok (.iconst 2, 1) := by decide +kernel
theorem dL_law_20 : decode cL_law 20 = .ok (.if_icmp .ge 114, 3) := by decide +kernel
theorem dL_law_23 : decode cL_law 23 = .ok (.aload_n 0, 1) := by decide +kernel
theorem dL_law_24 : decode cL_law 24 = .ok (.iload_n 3, 1) := by decide +kernel
theorem dL_law_25 : decode cL_law 25 = .ok (.invokestatic 154, 3) := by decide +kernel
theorem dL_law_28 : decode cL_law 28 = .ok (.istore 4, 2) := by decide +kernel
theorem dL_law_30 : decode cL_law 30 = .ok (.aload_n 1, 1) := by decide +kernel
theorem dL_law_31 : decode cL_law 31 = .ok (.iload 4, 2) := by decide +kernel
theorem dL_law_33 : decode cL_law 33 = .ok (.sipush 133, 3) := by decide +kernel
theorem dL_law_36 : decode cL_law 36 = .ok (.invokestatic 92, 3) := by decide +kernel
theorem dL_law_39 : decode cL_law 39 = .ok (.bipush 66, 2) := by decide +kernel
theorem dL_law_41 : decode cL_law 41 = .ok (.isub, 1) := by decide +kernel
theorem dL_law_42 : decode cL_law 42 = .ok (.iconst 5, 1) := by decide +kernel
theorem dL_law_43 : decode cL_law 43 = .ok (.invokestatic 106, 3) := by decide +kernel
theorem dL_law_46 : decode cL_law 46 = .ok (.aload_n 2, 1) := by decide +kernel
theorem dL_law_47 : decode cL_law 47 = .ok (.iload 4, 2) := by decide +kernel
theorem dL_law_49 : decode cL_law 49 = .ok (.sipush 133, 3) := by decide +kernel
theorem dL_law_52 : decode cL_law 52 = .ok (.invokestatic 92, 3) := by decide +kernel
theorem dL_law_55 : decode cL_law 55 = .ok (.bipush 66, 2) := by decide +kernel
theorem dL_law_57 : decode cL_law 57 = .ok (.isub, 1) := by decide +kernel
theorem dL_law_58 : decode cL_law 58 = .ok (.iconst 5, 1) := by decide +kernel
theorem dL_law_59 : decode cL_law 59 = .ok (.invokestatic 106, 3) := by decide +kernel
theorem dL_law_62 : decode cL_law 62 = .ok (.if_icmp .ne 64, 3) := by decide +kernel
theorem dL_law_65 : decode cL_law 65 = .ok (.aload_n 1, 1) := by decide +kernel
theorem dL_law_66 : decode cL_law 66 = .ok (.iload_n 3, 1) := by decide +kernel
theorem dL_law_67 : decode cL_law 67 = .ok (.iload 4, 2) := by decide +kernel
theorem dL_law_69 : decode cL_law 69 = .ok (.iconst 3, 1) := by decide +kernel
theorem dL_law_70 : decode cL_law 70 = .ok (.ishr, 1) := by decide +kernel
theorem dL_law_71 : decode cL_law 71 = .ok (.bipush 91, 2) := by decide +kernel
theorem dL_law_73 : decode cL_law 73 = .ok (.invokestatic 92, 3) := by decide +kernel
theorem dL_law_76 : decode cL_law 76 = .ok (.iload 4, 2) := by decide +kernel
theorem dL_law_78 : decode cL_law 78 = .ok (.bipush 6, 2) := by decide +kernel
theorem dL_law_80 : decode cL_law 80 = .ok (.ishr, 1) := by decide +kernel
theorem dL_law_81 : decode cL_law 81 = .ok (.bipush 90, 2) := by decide +kernel
theorem dL_law_83 : decode cL_law 83 = .ok (.invokestatic 92, 3) := by decide +kernel
theorem dL_law_86 : decode cL_law 86 = .ok (.bipush 45, 2) := by decide +kernel
theorem dL_law_88 : decode cL_law 88 = .ok (.isub, 1) := by decide +kernel
theorem dL_law_89 : decode cL_law 89 = .ok (.bipush 100, 2) := by decide +kernel
theorem dL_law_91 : decode cL_law 91 = .ok (.invokestatic 118, 3) := by decide +kernel
theorem dL_law_94 : decode cL_law 94 = .ok (.aload_n 2, 1) := by decide +kernel
theorem dL_law_95 : decode cL_law 95 = .ok (.iload_n 3, 1) := by decide +kernel
theorem dL_law_96 : decode cL_law 96 = .ok (.iload 4, 2) := by decide +kernel
theorem dL_law_98 : decode cL_law 98 = .ok (.iconst 3, 1) := by decide +kernel
theorem dL_law_99 : decode cL_law 99 = .ok (.ishr, 1) := by decide +kernel
theorem dL_law_100 : decode cL_law 100 = .ok (.bipush 91, 2) := by decide +kernel
theorem dL_law_102 : decode cL_law 102 = .ok (.invokestatic 92, 3) := by decide +kernel
theorem dL_law_105 : decode cL_law 105 = .ok (.iload 4, 2) := by decide +kernel
theorem dL_law_107 : decode cL_law 107 = .ok (.bipush 6, 2) := by decide +kernel
theorem dL_law_109 : decode cL_law 109 = .ok (.ishr, 1) := by decide +kernel
theorem dL_law_110 : decode cL_law 110 = .ok (.bipush 90, 2) := by decide +kernel
theorem dL_law_112 : decode cL_law 112 = .ok (.invokestatic 92, 3) := by decide +kernel
theorem dL_law_115 : decode cL_law 115 = .ok (.bipush 45, 2) := by decide +kernel
theorem dL_law_117 : decode cL_law 117 = .ok (.isub, 1) := by decide +kernel
theorem dL_law_118 : decode cL_law 118 = .ok (.bipush 100, 2) := by decide +kernel
theorem dL_law_120 : decode cL_law 120 = .ok (.invokestatic 118, 3) := by decide +kernel
theorem dL_law_123 : decode cL_law 123 = .ok (.if_icmp .eq 5, 3) := by decide +kernel
theorem dL_law_126 : decode cL_law 126 = .ok (.iconst 0, 1) := by decide +kernel
theorem dL_law_127 : decode cL_law 127 = .ok (.ireturn, 1) := by decide +kernel
theorem dL_law_128 : decode cL_law 128 = .ok (.iinc 3 1, 3) := by decide +kernel
theorem dL_law_131 : decode cL_law 131 = .ok (.goto (-113), 3) := by decide +kernel
theorem dL_law_134 : decode cL_law 134 = .ok (.iconst 2, 1) := by decide +kernel
theorem dL_law_135 : decode cL_law 135 = .ok (.istore_n 3, 1) := by decide +kernel
theorem dL_law_136 : decode cL_law 136 = .ok (.iload_n 3, 1) := by decide +kernel
theorem dL_law_137 : decode cL_law 137 = .ok (.bipush 90, 2) := by decide +kernel
theorem dL_law_139 : decode cL_law 139 = .ok (.if_icmp .ge 89, 3) := by decide +kernel
theorem dL_law_142 : decode cL_law 142 = .ok (.aload_n 0, 1) := by decide +kernel
theorem dL_law_143 : decode cL_law 143 = .ok (.iload_n 3, 1) := by decide +kernel
theorem dL_law_144 : decode cL_law 144 = .ok (.invokestatic 154, 3) := by decide +kernel
theorem dL_law_147 : decode cL_law 147 = .ok (.istore 4, 2) := by decide +kernel
theorem dL_law_149 : decode cL_law 149 = .ok (.aload_n 1, 1) := by decide +kernel
theorem dL_law_150 : decode cL_law 150 = .ok (.iload 4, 2) := by decide +kernel
theorem dL_law_152 : decode cL_law 152 = .ok (.invokestatic 158, 3) := by decide +kernel
theorem dL_law_155 : decode cL_law 155 = .ok (.lstore 5, 2) := by decide +kernel
theorem dL_law_157 : decode cL_law 157 = .ok (.lload 5, 2) := by decide +kernel
theorem dL_law_159 : decode cL_law 159 = .ok (.ldc2_w 162, 3) := by decide +kernel
theorem dL_law_162 : decode cL_law 162 = .ok (.lcmp, 1) := by decide +kernel
theorem dL_law_163 : decode cL_law 163 = .ok (.ifCond .eq 12, 3) := by decide +kernel
theorem dL_law_166 : decode cL_law 166 = .ok (.lload 5, 2) := by decide +kernel
theorem dL_law_168 : decode cL_law 168 = .ok (.ldc2_w 25, 3) := by decide +kernel
theorem dL_law_171 : decode cL_law 171 = .ok (.lcmp, 1) := by decide +kernel
theorem dL_law_172 : decode cL_law 172 = .ok (.ifCond .ne 7, 3) := by decide +kernel
theorem dL_law_175 : decode cL_law 175 = .ok (.iconst 1, 1) := by decide +kernel
theorem dL_law_176 : decode cL_law 176 = .ok (.goto 4, 3) := by decide +kernel
theorem dL_law_179 : decode cL_law 179 = .ok (.iconst 0, 1) := by decide +kernel
theorem dL_law_180 : decode cL_law 180 = .ok (.istore 7, 2) := by decide +kernel
theorem dL_law_182 : decode cL_law 182 = .ok (.iload 7, 2) := by decide +kernel
theorem dL_law_184 : decode cL_law 184 = .ok (.ifCond .ne 15, 3) := by decide +kernel
theorem dL_law_187 : decode cL_law 187 = .ok (.aload_n 2, 1) := by decide +kernel
theorem dL_law_188 : decode cL_law 188 = .ok (.iload 4, 2) := by decide +kernel
theorem dL_law_190 : decode cL_law 190 = .ok (.invokestatic 158, 3) := by decide +kernel
theorem dL_law_193 : decode cL_law 193 = .ok (.lload 5, 2) := by decide +kernel
theorem dL_law_195 : decode cL_law 195 = .ok (.lcmp, 1) := by decide +kernel
theorem dL_law_196 : decode cL_law 196 = .ok (.ifCond .ne 24, 3) := by decide +kernel
theorem dL_law_199 : decode cL_law 199 = .ok (.iload_n 3, 1) := by decide +kernel
theorem dL_law_200 : decode cL_law 200 = .ok (.bipush 30, 2) := by decide +kernel
theorem dL_law_202 : decode cL_law 202 = .ok (.irem, 1) := by decide +kernel
theorem dL_law_203 : decode cL_law 203 = .ok (.bipush 29, 2) := by decide +kernel
theorem dL_law_205 : decode cL_law 205 = .ok (.if_icmp .ne 17, 3) := by decide +kernel
theorem dL_law_208 : decode cL_law 208 = .ok (.aload_n 1, 1) := by decide +kernel
theorem dL_law_209 : decode cL_law 209 = .ok (.aload_n 2, 1) := by decide +kernel
theorem dL_law_210 : decode cL_law 210 = .ok (.iload 4, 2) := by decide +kernel
theorem dL_law_212 : decode cL_law 212 = .ok (.iconst 3, 1) := by decide +kernel
theorem dL_law_213 : decode cL_law 213 = .ok (.ishr, 1) := by decide +kernel
theorem dL_law_214 : decode cL_law 214 = .ok (.invokestatic 164, 3) := by decide +kernel
theorem dL_law_217 : decode cL_law 217 = .ok (.ifCond .ne 5, 3) := by decide +kernel
theorem dL_law_220 : decode cL_law 220 = .ok (.iconst 0, 1) := by decide +kernel
theorem dL_law_221 : decode cL_law 221 = .ok (.ireturn, 1) := by decide +kernel
theorem dL_law_222 : decode cL_law 222 = .ok (.iinc 3 1, 3) := by decide +kernel
theorem dL_law_225 : decode cL_law 225 = .ok (.goto (-89), 3) := by decide +kernel
theorem dL_law_228 : decode cL_law 228 = .ok (.aload_n 1, 1) := by decide +kernel
theorem dL_law_229 : decode cL_law 229 = .ok (.aload_n 0, 1) := by decide +kernel
theorem dL_law_230 : decode cL_law 230 = .ok (.bipush 90, 2) := by decide +kernel
theorem dL_law_232 : decode cL_law 232 = .ok (.invokestatic 154, 3) := by decide +kernel
theorem dL_law_235 : decode cL_law 235 = .ok (.invokestatic 168, 3) := by decide +kernel
theorem dL_law_238 : decode cL_law 238 = .ok (.ifCond .eq 20, 3) := by decide +kernel
theorem dL_law_241 : decode cL_law 241 = .ok (.aload_n 1, 1) := by decide +kernel
theorem dL_law_242 : decode cL_law 242 = .ok (.aload_n 0, 1) := by decide +kernel
theorem dL_law_243 : decode cL_law 243 = .ok (.bipush 91, 2) := by decide +kernel
theorem dL_law_245 : decode cL_law 245 = .ok (.invokestatic 154, 3) := by decide +kernel
theorem dL_law_248 : decode cL_law 248 = .ok (.invokestatic 168, 3) := by decide +kernel
theorem dL_law_251 : decode cL_law 251 = .ok (.ifCond .eq 7, 3) := by decide +kernel
theorem dL_law_254 : decode cL_law 254 = .ok (.iconst 1, 1) := by decide +kernel
theorem dL_law_255 : decode cL_law 255 = .ok (.goto 4, 3) := by decide +kernel
theorem dL_law_258 : decode cL_law 258 = .ok (.iconst 0, 1) := by decide +kernel
theorem dL_law_259 : decode cL_law 259 = .ok (.ireturn, 1) := by decide +kernel
